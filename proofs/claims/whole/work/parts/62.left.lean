/-! left -/
theorem x_left40 {st : zS} (h : Inv st) {P : Nat} {pl : Nat → Nat} (hP : P ≤ 5) (hpl : ∀ i, pl i < 1000) (k6 : f_X2_placeCount st 1 = some (nI P)) (k7 : ∀ i, i < P → f_X2_placeAt st 1 (nI i) = some (nI (pl i))) {A : Nat} (hA : A ≤ 1000) (hA2 : sumU (outU (fun i => zM st 40 (53 + i)) pl (K st 40 8)) P ≤ A) (N : Nat) : ∀ k fuel i, i + k = P → k < fuel → f_X11_left_40 N st 0 fuel (nI (A - sumU (outU (fun i => zM st 40 (53 + i)) pl (K st 40 8)) i)) (nI i) = some (nI (A - sumU (outU (fun i => zM st 40 (53 + i)) pl (K st 40 8)) P)) := by
  have hs := h.1
  have hmono : ∀ (f : Nat → Nat) i k, sumU f i ≤ sumU f (i + k) := fun f i k => by
    induction k with
    | zero => exact Nat.le_refl _
    | succ k ih => show _ ≤ sumU f (i + k) + _; omega
  intro k
  induction k with
  | zero =>
    intro fuel i h1 h2
    obtain ⟨fuel, rfl⟩ : ∃ m, fuel = m + 1 := ⟨fuel - 1, by omega⟩
    have hi : i = P := by omega
    subst hi
    clear k7 hpl hmono
    unfold f_X11_left_40
    simp (disch := omega) only [↓bs k6, ↓reduceIte, List.mem_singleton, Option.bind_some, if_true, if_false, zM_PM, zLn_PM, zTg_PM, zR_PM, ↓zb, ↓zo, ↓zl, n_lt0, n_le, n_lt, n_eq, n_eq0, n_gt0, n_le0, n_ge0, n_zin, n_nat, nI_add, and_self, true_or, false_or, or_false, if_pos, if_neg, f_in_nI, Nat.reduceAdd, t0 hs, ↓bs (r0_0 hs), t1 hs]
  | succ k ih =>
    intro fuel i h1 h2
    obtain ⟨fuel, rfl⟩ : ∃ m, fuel = m + 1 := ⟨fuel - 1, by omega⟩
    have e2 := ih fuel (i + 1) (by omega) (by omega)
    have k8 := k7 i (by omega)
    have hpi := hpl i
    obtain ⟨r, s1, -, s3⟩ := sheet_eq h (pl i) (by omega)
    have hm := hmono (outU (fun i => zM st 40 (53 + i)) pl (K st 40 8)) (i + 1) k
    rw [show i + 1 + k = P by omega] at hm
    have e3 : sumU (outU (fun i => zM st 40 (53 + i)) pl (K st 40 8)) (i + 1) = sumU (outU (fun i => zM st 40 (53 + i)) pl (K st 40 8)) i + (if pl i < K st 40 8 then (if zM st 40 (53 + pl i) = -1 then 0 else 1) else 0) := rfl
    clear ih k7 hpl hmono
    unfold f_X11_left_40 f_X11_left_76
    by_cases er : r = -1
    · have e4 : sumU (outU (fun i => zM st 40 (53 + i)) pl (K st 40 8)) (i + 1) = sumU (outU (fun i => zM st 40 (53 + i)) pl (K st 40 8)) i := by
        rw [e3]
        by_cases hl : pl i < K st 40 8
        · rw [if_pos hl] at s3
          rw [if_pos hl, if_pos (s3.symm.trans er)]; rfl
        · rw [if_neg hl]; rfl
      rw [e4] at e2
      simp (disch := omega) only [↓bs k6, ↓bs k8, ↓bs s1, er, ↓reduceIte, List.mem_singleton, Option.bind_some, if_true, if_false, zM_PM, zLn_PM, zTg_PM, zR_PM, ↓zb, ↓zo, ↓zl, n_lt0, n_le, n_lt, n_eq, n_eq0, n_gt0, n_le0, n_ge0, n_zin, n_nat, nI_add, and_self, true_or, false_or, or_false, if_pos, if_neg, f_in_nI, Nat.reduceAdd, t0 hs, ↓bs (r0_0 hs), t1 hs, ↓bs (r1_5 hs), t7 hs]
      exact e2
    · have hl : pl i < K st 40 8 := by
        refine Decidable.byContradiction fun hl => er ?_
        rw [s3, if_neg hl]
      rw [if_pos hl] at s3
      have e4 : sumU (outU (fun i => zM st 40 (53 + i)) pl (K st 40 8)) (i + 1) = sumU (outU (fun i => zM st 40 (53 + i)) pl (K st 40 8)) i + 1 := by
        rw [e3, if_pos hl, if_neg (fun q => er (s3.trans q))]
      rw [e4] at e2 hm
      have e5 : nI (A - sumU (outU (fun i => zM st 40 (53 + i)) pl (K st 40 8)) i) + (-1) = nI (A - (sumU (outU (fun i => zM st 40 (53 + i)) pl (K st 40 8)) i + 1)) := by
        rw [show A - sumU (outU (fun i => zM st 40 (53 + i)) pl (K st 40 8)) i = A - (sumU (outU (fun i => zM st 40 (53 + i)) pl (K st 40 8)) i + 1) + 1 by omega]
        exact pk_m1 _
      clear e3
      simp (disch := omega) only [↓bs k6, ↓bs k8, ↓bs s1, er, e5, ↓reduceIte, List.mem_singleton, Option.bind_some, if_true, if_false, zM_PM, zLn_PM, zTg_PM, zR_PM, ↓zb, ↓zo, ↓zl, n_lt0, n_le, n_lt, n_eq, n_eq0, n_gt0, n_le0, n_ge0, n_zin, n_nat, nI_add, and_self, true_or, false_or, or_false, if_pos, if_neg, f_in_nI, Nat.reduceAdd, t0 hs, ↓bs (r0_0 hs), t1 hs, ↓bs (r1_5 hs), t7 hs]
      exact e2
