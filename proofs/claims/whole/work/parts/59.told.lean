/-! the places, on both sides -/
theorem places_eq {st : zS} (h : Inv st) {N : Nat} (hN : 3000 ≤ N) : ∃ (P : Nat) (pl : Nat → Nat) (st3 : zS), 1 ≤ P ∧ P ≤ 5 ∧ (∀ i, i < P → pl i < 40) ∧ (∀ i, pl i < 1000) ∧ (∀ i j, i < P → j < P → pl i = pl j → i = j) ∧ f_X2_placeCount st 1 = some (nI P) ∧ (∀ i, i < P → f_X2_placeAt st 1 (nI i) = some (nI (pl i))) ∧ f_X12_looksForPlaces N st 39 = some st3 ∧ MS st st3 ∧ PlM st3 P pl := by
  have hs := h.1
  obtain ⟨hd, want, look, cnt, w1, w2, w3, w4, w5, w6, w7, w8, w9, w10, w11, w12, w13, w14⟩ := want_eq h
  obtain ⟨⟨q1, q2⟩, q3, q4⟩ := h.2.1.2.2.2.2.2.2.1
  have e1 := h.2.1.2.2.2.2.2.2.2.2.2.2.2.1
  have hsz := f_size (ns9 hs)
  rw [show zM st 9 1 = nI (K st 40 2) from q3.trans q1] at hsz
  have hm0 : MS st (zPM st 39 12 (nI 0)) := MS.rf.pm _ _ _ (by omega)
  have hs0 := hm0.sh hs
  have ew := (hm0.want hs).trans w11
  have g0 : ∀ pl, PlM (zPM st 39 12 (nI 0)) 0 pl := fun pl => ⟨by simp (disch := omega) only [zM_PM, if_pos, and_self, if_true], fun i hi => by omega⟩
  by_cases hK : K st 40 2 = 0
  · have hpl : ∀ i, defPl want i < 40 := fun i => by unfold defPl; split; omega; split <;> omega
    obtain ⟨st3, k1, k2, k3⟩ := places_def h hN w6 w7 w8 w9 w12 (min 3 look) N 0 (zPM st 39 12 (nI 0)) (by omega) (by omega) hm0 (by rw [show min want 0 = 0 by omega]; exact g0 _)
    rw [hK] at hsz q1
    refine ⟨min want (min 3 look), defPl want, st3, by omega, by omega, fun i _ => hpl i, fun i => by have := hpl i; omega, fun i j hi hj e => ?_, ?_, fun i hi => ?_, ?_, k2, k3⟩
    · unfold defPl at e
      split at e <;> split at e <;> (try split at e) <;> (try split at e) <;> omega
    · clear q4 e1 hpl
      unfold f_X2_placeCount
      by_cases a1 : 3 < look <;> by_cases a2 : want < min 3 look <;> simp (disch := omega) only [↓bs hsz, ↓bs w1, w2, w3, w4, ↓reduceIte, List.mem_singleton, Option.bind_some, if_true, if_false, zM_PM, zLn_PM, zTg_PM, zR_PM, ↓zb, ↓zo, ↓zl, n_lt0, n_le, n_lt, n_eq, n_eq0, n_gt0, n_le0, n_ge0, n_zin, n_nat, nI_add, and_self, true_or, false_or, or_false, if_pos, if_neg, f_in_nI, Nat.reduceAdd, t1 hs, ↓bs (r1_8 hs), t9 hs] <;> congr 2 <;> omega
    · have hi3 : i = 0 ∨ i = 1 ∨ i = 2 := by omega
      clear q4 e1 hpl
      unfold f_X2_placeAt defPl
      rcases hi3 with rfl | rfl | rfl <;> simp (disch := omega) only [↓bs hsz, ↓bs w1, w2, w3, pk_sub, pk_div, ↓reduceIte, List.mem_singleton, Option.bind_some, if_true, if_false, zM_PM, zLn_PM, zTg_PM, zR_PM, ↓zb, ↓zo, ↓zl, n_lt0, n_le, n_lt, n_eq, n_eq0, n_gt0, n_le0, n_ge0, n_zin, n_nat, nI_add, and_self, true_or, false_or, or_false, if_pos, if_neg, f_in_nI, Nat.reduceAdd, t1 hs, ↓bs (r1_8 hs), t9 hs]
    · clear q4 e1 hpl k3
      unfold f_X12_looksForPlaces
      simp (disch := omega) only [↓bs ew, q1, ↓reduceIte, List.mem_singleton, Option.bind_some, if_true, if_false, zM_PM, zLn_PM, zTg_PM, zR_PM, ↓zb, ↓zo, ↓zl, n_lt0, n_le, n_lt, n_eq, n_eq0, n_gt0, n_le0, n_ge0, n_zin, n_nat, nI_add, and_self, true_or, false_or, or_false, if_pos, if_neg, f_in_nI, Nat.reduceAdd, t39 hs, ↓bs (r39_1 hs0), t40 hs0, l40 hs0, t40 hs, l40 hs]
      exact k1
  · have hK2 := q2
    have hp : ∀ i, i < K st 40 2 → zM st 40 (93 + i) = nI (K st 40 (93 + i)) ∧ K st 40 (93 + i) < 40 := fun i hi => by
      obtain ⟨j, j1, j2⟩ := (q4 i hi).2
      have : K st 40 (93 + i) = j := K_of j2 (by omega)
      rw [this]; exact ⟨j2, j1⟩
    let pl : Nat → Nat := fun i => if i < K st 40 2 then K st 40 (93 + i) else 0
    have pl_lt : ∀ i, i < K st 40 2 → pl i = K st 40 (93 + i) := fun i hi => if_pos hi
    have hpl : ∀ i, pl i < 40 := fun i => by
      by_cases hi : i < K st 40 2
      · rw [pl_lt i hi]; exact (hp i hi).2
      · show (if i < K st 40 2 then K st 40 (93 + i) else 0) < 40; rw [if_neg hi]; omega
    have hd2 : ∀ i j, i < K st 40 2 → j < K st 40 2 → pl i = pl j → i = j := fun i j hi hj e => by
      rw [pl_lt i hi, pl_lt j hj] at e
      exact e1 i j hi hj (by rw [(hp i hi).1, (hp j hj).1, e])
    obtain ⟨st3, k1, k2, k3⟩ := places_named h hN q2 (by omega) (pl := pl) (fun i => by have := hpl i; omega) (fun i hi => by rw [pl_lt i hi]; exact (hp i hi).1) hd2 (nI want) (K st 40 2) N 0 (zPM st 39 12 (nI 0)) (by omega) (by omega) hm0 (g0 _)
    refine ⟨K st 40 2, pl, st3, by omega, q2, fun i _ => hpl i, fun i => by have := hpl i; omega, hd2, ?_, fun i hi => ?_, ?_, k2, k3⟩
    · clear q4 e1 hpl hp hd2 pl_lt k3
      unfold f_X2_placeCount
      simp (disch := omega) only [↓bs hsz, ↓reduceIte, List.mem_singleton, Option.bind_some, if_true, if_false, zM_PM, zLn_PM, zTg_PM, zR_PM, ↓zb, ↓zo, ↓zl, n_lt0, n_le, n_lt, n_eq, n_eq0, n_gt0, n_le0, n_ge0, n_zin, n_nat, nI_add, and_self, true_or, false_or, or_false, if_pos, if_neg, f_in_nI, Nat.reduceAdd, t1 hs, ↓bs (r1_8 hs), t9 hs]
    · have g := f_get (ns9 hs) (q3.trans q1) q2 (by omega) (i := i) (by omega)
      rw [if_pos hi, (q4 i hi).1, (hp i hi).1, ← pl_lt i hi] at g
      clear q4 e1 hpl hp hd2 pl_lt k3
      unfold f_X2_placeAt
      simp (disch := omega) only [↓bs hsz, ↓bs g, ↓reduceIte, List.mem_singleton, Option.bind_some, if_true, if_false, zM_PM, zLn_PM, zTg_PM, zR_PM, ↓zb, ↓zo, ↓zl, n_lt0, n_le, n_lt, n_eq, n_eq0, n_gt0, n_le0, n_ge0, n_zin, n_nat, nI_add, and_self, true_or, false_or, or_false, if_pos, if_neg, f_in_nI, Nat.reduceAdd, t1 hs, ↓bs (r1_8 hs), t9 hs]
    · clear q4 e1 hpl hp hd2 pl_lt k3
      unfold f_X12_looksForPlaces
      simp (disch := omega) only [↓bs ew, q1, ↓reduceIte, List.mem_singleton, Option.bind_some, if_true, if_false, zM_PM, zLn_PM, zTg_PM, zR_PM, ↓zb, ↓zo, ↓zl, n_lt0, n_le, n_lt, n_eq, n_eq0, n_gt0, n_le0, n_ge0, n_zin, n_nat, nI_add, and_self, true_or, false_or, or_false, if_pos, if_neg, f_in_nI, Nat.reduceAdd, t39 hs, ↓bs (r39_1 hs0), t40 hs0, l40 hs0, t40 hs, l40 hs]
      exact k1
