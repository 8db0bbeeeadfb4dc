/-! whose -/
theorem f_orz (x : Int32) : x ||| nI 0 = x := by
  rw [nI_0]; simp
theorem could_loop {st : zS} (h : Inv st) {N w : Nat} (hN : 3000 ≤ N) (hw : w < K st 40 0) (k4 : zS → Int32 → Int32 → Option (zS × Int32)) (x1 : Int32) : ∀ kk f1 f2 i sM, i + kk = K st 40 3 → kk < f1 → kk < f2 → MS st sM → ∃ (b : Nat) (sM' : zS), (b = 0 ∨ b = 1) ∧ f_X11_couldBeBy_2 N st 0 (nI w) f1 (nI i) = some (nI b) ∧ (f_X12_whose_19 N 39 k4 f2 sM x1 (nI w) (nI 1) (nI i) = f_X12_whose_76 N 39 k4 sM' (nI w) (if b = 0 then nI 0 else (nI 1) <<< (nI w &&& 31)) x1) ∧ MS st sM' := by
  intro kk
  have hs := h.1
  have h6 := h.2.1.1.1.2
  obtain ⟨⟨p1, p2⟩, p3, -⟩ := h.2.1.2.2.2.2.2.1
  obtain ⟨⟨q1, q2⟩, q3, q4⟩ := h.2.1.2.2.2.2.2.2.2.1
  have skip : ∀ k f2 i sM, i + k = K st 40 3 → k < f2 → MS st sM → f_X12_whose_19 N 39 k4 f2 sM x1 (nI w) (nI 0) (nI i) = f_X12_whose_76 N 39 k4 sM (nI w) (nI 0) x1 := by
    intro k
    clear q4
    induction k with
    | zero =>
      intro f2 i sM h1 h2 hm
      obtain ⟨f2, rfl⟩ : ∃ m, f2 = m + 1 := ⟨f2 - 1, by omega⟩
      have hi : i = K st 40 3 := by omega
      subst hi
      have hsM := hm.sh hs
      have e3 : zM sM 40 3 = nI (K st 40 3) := (hm.mB (Or.inl rfl)).trans q1
      rw [f_X12_whose_19]
      simp (disch := omega) only [e3, ↓reduceIte, List.mem_singleton, Option.bind_some, if_true, if_false, zM_PM, zLn_PM, zTg_PM, zR_PM, ↓zb, ↓zo, ↓zl, n_lt0, n_le, n_lt, n_eq, n_eq0, n_gt0, n_le0, n_ge0, n_zin, n_nat, nI_add, and_self, true_or, false_or, or_false, if_pos, if_neg, f_in_nI, Nat.reduceAdd, t39 hsM, ↓bs (r39_1 hsM), t40 hsM, l40 hsM]
    | succ k ihk =>
      intro f2 i sM h1 h2 hm
      obtain ⟨f2, rfl⟩ : ∃ m, f2 = m + 1 := ⟨f2 - 1, by omega⟩
      have hsM := hm.sh hs
      have e3 : zM sM 40 3 = nI (K st 40 3) := (hm.mB (Or.inl rfl)).trans q1
      have e := ihk f2 (i + 1) sM (by omega) (by omega) hm
      clear ihk
      rw [f_X12_whose_19]
      unfold f_X12_whose_56 f_X12_whose_57
      simp (disch := omega) only [e3, ↓reduceIte, List.mem_singleton, Option.bind_some, if_true, if_false, zM_PM, zLn_PM, zTg_PM, zR_PM, ↓zb, ↓zo, ↓zl, n_lt0, n_le, n_lt, n_eq, n_eq0, n_gt0, n_le0, n_ge0, n_zin, n_nat, nI_add, and_self, true_or, false_or, or_false, if_pos, if_neg, f_in_nI, Nat.reduceAdd, t39 hsM, ↓bs (r39_1 hsM), t40 hsM, l40 hsM]
      exact e
  induction kk with
  | zero =>
    intro f1 f2 i sM h1 h2 h3 hm
    obtain ⟨f1, rfl⟩ : ∃ m, f1 = m + 1 := ⟨f1 - 1, by omega⟩
    obtain ⟨f2, rfl⟩ : ∃ m, f2 = m + 1 := ⟨f2 - 1, by omega⟩
    have hi : i = K st 40 3 := by omega
    subst hi
    have hsM := hm.sh hs
    have e3 : zM sM 40 3 = nI (K st 40 3) := (hm.mB (Or.inl rfl)).trans q1
    clear skip q4
    refine ⟨1, sM, Or.inr rfl, ?_, ?_, hm⟩
    · rw [f_X11_couldBeBy_2]
      simp (disch := omega) only [q3, q1, ↓bs (f_size (ns11 hs)), ↓reduceIte, List.mem_singleton, Option.bind_some, if_true, if_false, zM_PM, zLn_PM, zTg_PM, zR_PM, ↓zb, ↓zo, ↓zl, n_lt0, n_le, n_lt, n_eq, n_eq0, n_gt0, n_le0, n_ge0, n_zin, n_nat, nI_add, and_self, true_or, false_or, or_false, if_pos, if_neg, f_in_nI, Nat.reduceAdd, t0 hs, ↓bs (r0_0 hs), t1 hs, ↓bs (r1_9 hs), t11 hs]
    · rw [f_X12_whose_19]
      simp (disch := omega) only [e3, ↓reduceIte, List.mem_singleton, Option.bind_some, if_true, if_false, zM_PM, zLn_PM, zTg_PM, zR_PM, ↓zb, ↓zo, ↓zl, n_lt0, n_le, n_lt, n_eq, n_eq0, n_gt0, n_le0, n_ge0, n_zin, n_nat, nI_add, and_self, true_or, false_or, or_false, if_pos, if_neg, f_in_nI, Nat.reduceAdd, t39 hsM, ↓bs (r39_1 hsM), t40 hsM, l40 hsM]
  | succ kk ih =>
    intro f1 f2 i sM h1 h2 h3 hm
    obtain ⟨f1, rfl⟩ : ∃ m, f1 = m + 1 := ⟨f1 - 1, by omega⟩
    obtain ⟨f2, rfl⟩ : ∃ m, f2 = m + 1 := ⟨f2 - 1, by omega⟩
    have hsM := hm.sh hs
    have e3 : zM sM 40 3 = nI (K st 40 3) := (hm.mB (Or.inl rfl)).trans q1
    obtain ⟨c1, p, c2, c3⟩ := q4 i (by omega)
    have e98 : zM sM 40 (98 + i) = nI p := (hm.mB (Or.inl rfl)).trans c3
    have g1 := f_get (ns11 hs) (q3.trans q1) q2 (by omega) (i := i) (by omega)
    rw [if_pos (by omega), c1, c3] at g1
    obtain ⟨y, sN, y1, y2, y3, y4⟩ := sign_full h hN ((MX.of hm).line (j := 53 + p) (by omega) (nI w)) (eff_try h hm c2 hw) (show p < 40 by omega)
    have hmB := ms_back hm y4.ms
    have hsN : Sh sN := y4.sh (hsM.pm _ _ _)
    clear q4 c1 c3 y4
    by_cases hy : y = 0
    · subst hy
      have e := skip kk f2 (i + 1) _ (by omega) (by omega) hmB
      clear ih skip
      refine ⟨0, _, Or.inl rfl, ?_, ?_, hmB⟩
      · rw [f_X11_couldBeBy_2]
        simp (disch := omega) only [q3, q1, ↓bs (f_size (ns11 hs)), ↓bs g1, ↓bs y2, ↓reduceIte, List.mem_singleton, Option.bind_some, if_true, if_false, zM_PM, zLn_PM, zTg_PM, zR_PM, ↓zb, ↓zo, ↓zl, n_lt0, n_le, n_lt, n_eq, n_eq0, n_gt0, n_le0, n_ge0, n_zin, n_nat, nI_add, and_self, true_or, false_or, or_false, if_pos, if_neg, f_in_nI, Nat.reduceAdd, t0 hs, ↓bs (r0_0 hs), t1 hs, ↓bs (r1_9 hs), t11 hs]
      · rw [f_X12_whose_19]
        unfold f_X12_whose_56 f_X12_whose_57 f_X12_wouldShow f_X12_wouldShow_33
        simp (disch := omega) only [e3, e98, y3, ↓zl, ↓reduceIte, List.mem_singleton, Option.bind_some, if_true, if_false, zM_PM, zLn_PM, zTg_PM, zR_PM, ↓zb, ↓zo, ↓zl, n_lt0, n_le, n_lt, n_eq, n_eq0, n_gt0, n_le0, n_ge0, n_zin, n_nat, nI_add, and_self, true_or, false_or, or_false, if_pos, if_neg, f_in_nI, Nat.reduceAdd, t39 hsM, ↓bs (r39_1 hsM), t40 hsM, l40 hsM, t39 hsN, ↓bs (r39_1 hsN), t40 hsN, l40 hsN]
        rw [if_pos (show zB (nI 0) from Or.inl rfl)]
        simp (disch := omega) only [↓reduceIte, List.mem_singleton, Option.bind_some, if_true, if_false, zM_PM, zLn_PM, zTg_PM, zR_PM, ↓zb, ↓zo, ↓zl, n_lt0, n_le, n_lt, n_eq, n_eq0, n_gt0, n_le0, n_ge0, n_zin, n_nat, nI_add, and_self, true_or, false_or, or_false, if_pos, if_neg, f_in_nI, Nat.reduceAdd]
        exact e
    · obtain ⟨b, sF, v0, v1, v2, v3⟩ := ih f1 f2 (i + 1) _ (by omega) (by omega) (by omega) hmB
      clear ih skip
      refine ⟨b, sF, v0, ?_, ?_, v3⟩
      · rw [f_X11_couldBeBy_2]
        simp (disch := omega) only [q3, q1, ↓bs (f_size (ns11 hs)), ↓bs g1, ↓bs y2, hy, ↓reduceIte, List.mem_singleton, Option.bind_some, if_true, if_false, zM_PM, zLn_PM, zTg_PM, zR_PM, ↓zb, ↓zo, ↓zl, n_lt0, n_le, n_lt, n_eq, n_eq0, n_gt0, n_le0, n_ge0, n_zin, n_nat, nI_add, and_self, true_or, false_or, or_false, if_pos, if_neg, f_in_nI, Nat.reduceAdd, t0 hs, ↓bs (r0_0 hs), t1 hs, ↓bs (r1_9 hs), t11 hs]
        exact v1
      · rw [← v2, f_X12_whose_19]
        unfold f_X12_whose_57 f_X12_wouldShow f_X12_wouldShow_33
        simp (disch := omega) only [e3, e98, y3, hy, ↓zl, ↓reduceIte, List.mem_singleton, Option.bind_some, if_true, if_false, zM_PM, zLn_PM, zTg_PM, zR_PM, ↓zb, ↓zo, ↓zl, n_lt0, n_le, n_lt, n_eq, n_eq0, n_gt0, n_le0, n_ge0, n_zin, n_nat, nI_add, and_self, true_or, false_or, or_false, if_pos, if_neg, f_in_nI, Nat.reduceAdd, t39 hsM, ↓bs (r39_1 hsM), t40 hsM, l40 hsM, t39 hsN, ↓bs (r39_1 hsN), t40 hsN, l40 hsN]
        rw [if_pos (show zB (nI 1) from Or.inr rfl)]
        simp (disch := omega) only [↓reduceIte, List.mem_singleton, Option.bind_some, if_true, if_false, zM_PM, zLn_PM, zTg_PM, zR_PM, ↓zb, ↓zo, ↓zl, n_lt0, n_le, n_lt, n_eq, n_eq0, n_gt0, n_le0, n_ge0, n_zin, n_nat, nI_add, and_self, true_or, false_or, or_false, if_pos, if_neg, f_in_nI, Nat.reduceAdd]
theorem whose_loop {st : zS} (h : Inv st) {N : Nat} (hN : 3000 ≤ N) : ∀ kk f1 f2 w x1 sM, w + kk = K st 40 0 → kk < f1 → kk < f2 → MS st sM → ∃ r sM', f_X11_whose_4 N st 0 f1 x1 (nI w) = some r ∧ f_X12_whose_4 N 39 f2 sM x1 (nI w) = some (sM', r) ∧ MS st sM' := by
  intro kk
  have hs := h.1
  have h6 := h.2.1.1.1.2
  have w1 := h.2.1.1.2
  have w2 := h.2.1.1.1.1
  have q2 := h.2.1.2.2.2.2.2.2.2.1.1.2
  induction kk with
  | zero =>
    intro f1 f2 w x1 sM h1 h2 h3 hm
    obtain ⟨f1, rfl⟩ : ∃ m, f1 = m + 1 := ⟨f1 - 1, by omega⟩
    obtain ⟨f2, rfl⟩ : ∃ m, f2 = m + 1 := ⟨f2 - 1, by omega⟩
    have hi : w = K st 40 0 := by omega
    subst hi
    have hsM := hm.sh hs
    have e0 : zM sM 40 0 = nI (K st 40 0) := (hm.mB (Or.inl rfl)).trans w2
    refine ⟨x1, sM, ?_, ?_, hm⟩
    · rw [f_X11_whose_4]
      unfold f_X2_wayCount
      simp (disch := omega) only [w1, w2, ↓reduceIte, List.mem_singleton, Option.bind_some, if_true, if_false, zM_PM, zLn_PM, zTg_PM, zR_PM, ↓zb, ↓zo, ↓zl, n_lt0, n_le, n_lt, n_eq, n_eq0, n_gt0, n_le0, n_ge0, n_zin, n_nat, nI_add, and_self, true_or, false_or, or_false, if_pos, if_neg, f_in_nI, Nat.reduceAdd, t0 hs, ↓bs (r0_0 hs), t1 hs]
    · rw [f_X12_whose_4]
      simp (disch := omega) only [e0, ↓reduceIte, List.mem_singleton, Option.bind_some, if_true, if_false, zM_PM, zLn_PM, zTg_PM, zR_PM, ↓zb, ↓zo, ↓zl, n_lt0, n_le, n_lt, n_eq, n_eq0, n_gt0, n_le0, n_ge0, n_zin, n_nat, nI_add, and_self, true_or, false_or, or_false, if_pos, if_neg, f_in_nI, Nat.reduceAdd, t39 hsM, ↓bs (r39_1 hsM), t40 hsM, l40 hsM]
  | succ kk ih =>
    intro f1 f2 w x1 sM h1 h2 h3 hm
    obtain ⟨f1, rfl⟩ : ∃ m, f1 = m + 1 := ⟨f1 - 1, by omega⟩
    obtain ⟨f2, rfl⟩ : ∃ m, f2 = m + 1 := ⟨f2 - 1, by omega⟩
    have hsM := hm.sh hs
    have e0 : zM sM 40 0 = nI (K st 40 0) := (hm.mB (Or.inl rfl)).trans w2
    obtain ⟨b, s1, b0, b1, b2, b3⟩ := could_loop h hN (show w < K st 40 0 by omega) (f_X12_whose_4 N 39 f2) x1 (K st 40 3) N N 0 sM (by omega) (by omega) (by omega) hm
    obtain ⟨r, s2, u1, u2, u3⟩ := ih f1 f2 (w + 1) (if b = 0 then x1 else x1 ||| (nI 1) <<< (nI w &&& 31)) s1 (by omega) (by omega) (by omega) b3
    have bb : f_X11_couldBeBy N st 0 (nI w) = some (nI b) := b1
    clear ih b1
    refine ⟨r, s2, ?_, ?_, u3⟩
    · rw [f_X11_whose_4]
      unfold f_X2_wayCount f_X11_whose_29
      rcases b0 with rfl | rfl
      · rw [if_pos rfl] at u1
        simp (disch := omega) only [w1, w2, ↓bs bb, ↓reduceIte, List.mem_singleton, Option.bind_some, if_true, if_false, zM_PM, zLn_PM, zTg_PM, zR_PM, ↓zb, ↓zo, ↓zl, n_lt0, n_le, n_lt, n_eq, n_eq0, n_gt0, n_le0, n_ge0, n_zin, n_nat, nI_add, and_self, true_or, false_or, or_false, if_pos, if_neg, f_in_nI, Nat.reduceAdd, t0 hs, ↓bs (r0_0 hs), t1 hs]
        exact u1
      · rw [if_neg (by omega)] at u1
        simp (disch := omega) only [w1, w2, ↓bs bb, ↓zl, ↓reduceIte, List.mem_singleton, Option.bind_some, if_true, if_false, zM_PM, zLn_PM, zTg_PM, zR_PM, ↓zb, ↓zo, ↓zl, n_lt0, n_le, n_lt, n_eq, n_eq0, n_gt0, n_le0, n_ge0, n_zin, n_nat, nI_add, and_self, true_or, false_or, or_false, if_pos, if_neg, f_in_nI, Nat.reduceAdd, t0 hs, ↓bs (r0_0 hs), t1 hs]
        exact u1
    · rw [f_X12_whose_4]
      unfold f_X12_whose_76 at b2
      rcases b0 with rfl | rfl
      · rw [if_pos rfl] at u2
        simp (disch := omega) only [e0, b2, f_orz, ↓zl, ↓reduceIte, List.mem_singleton, Option.bind_some, if_true, if_false, zM_PM, zLn_PM, zTg_PM, zR_PM, ↓zb, ↓zo, ↓zl, n_lt0, n_le, n_lt, n_eq, n_eq0, n_gt0, n_le0, n_ge0, n_zin, n_nat, nI_add, and_self, true_or, false_or, or_false, if_pos, if_neg, f_in_nI, Nat.reduceAdd, t39 hsM, ↓bs (r39_1 hsM), t40 hsM, l40 hsM]
        exact u2
      · rw [if_neg (by omega)] at u2
        simp (disch := omega) only [e0, b2, ↓zl, ↓reduceIte, List.mem_singleton, Option.bind_some, if_true, if_false, zM_PM, zLn_PM, zTg_PM, zR_PM, ↓zb, ↓zo, ↓zl, n_lt0, n_le, n_lt, n_eq, n_eq0, n_gt0, n_le0, n_ge0, n_zin, n_nat, nI_add, and_self, true_or, false_or, or_false, if_pos, if_neg, f_in_nI, Nat.reduceAdd, t39 hsM, ↓bs (r39_1 hsM), t40 hsM, l40 hsM]
        exact u2
theorem s_whose {st : zS} (h : Inv st) {N : Nat} (hN : 3000 ≤ N)  : ∃ (r : Int32) (st1 st2 : zS), (f_X11_whose N st 0 = some r ∧ st1 = st) ∧ (f_X12_whose N st1 39 = some (st2, r)) ∧ Sh st1 ∧ Inv st2 := by
  have h6 := h.2.1.1.1.2
  obtain ⟨r, sM, u1, u2, u3⟩ := whose_loop h hN (K st 40 0) N N 0 (nI 0) st (by omega) (by omega) (by omega) MS.rf
  exact ⟨r, st, sM, ⟨u1, rfl⟩, u2, h.1, u3.inv h⟩
