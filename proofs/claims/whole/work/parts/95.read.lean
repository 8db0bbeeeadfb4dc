/-! a school's text, read through on both sides -/
def Out3 (L : Nat) (t : Nat → Nat) (act o c N : Nat) (sA sB : zS) (x y : Option (zS × Int32)) : Prop :=
  ∃ sA' sB', RA2 o c sA sA' ∧ RB2 act sB sB' ∧ ((∃ sz f w l ct, x = some (sA', -1) ∧ y = f_X12_school_162 N 39 sB' ∧ Good sB' L t act L 0 ∧ AC sA' o c sz f ∧ BC sB' act sz f ∧ CS sA' sB' o act w l ct ∧ depN f sz = some 0) ∨ (∃ n, n ≤ 100 ∧ x = some (sA', nI n) ∧ y = some (sB', -10 - nI n)))
theorem s162_bad {s : zS} {n : Nat} (h : Bad s n) (N : Nat) : f_X12_school_162 N 39 s = some (s, -10 - nI n) := by
  obtain ⟨hs, h1, h5, h7⟩ := h
  unfold f_X12_school_162
  simp (disch := omega) only [h7, h5, t39 hs, ↓reduceIte, List.mem_singleton, Option.bind_some, if_true, if_false, zM_PM, zLn_PM, zTg_PM, zR_PM, ↓zb, ↓zo, ↓zl, n_lt0, n_le, n_lt, n_eq, n_eq0, n_gt0, n_le0, n_ge0, n_zin, n_nat, nI_add, and_self, true_or, false_or, or_false, if_pos, if_neg, f_in_nI, Nat.reduceAdd]
theorem s162_no {s : zS} {L : Nat} {t : Nat → Nat} {act p : Nat} (g : Good s L t act p 0) (hp : p ≠ L) (N : Nat) : f_X12_school_162 N 39 s = some (s, -10 - nI p) := by
  obtain ⟨b1, b2, b3⟩ := g.b
  obtain ⟨gt, ga, gp, go, g4, g5, g7, g8⟩ := g
  have hs := gt.1
  have h6 := gt.2.2.2.1
  unfold f_X12_school_162
  simp (disch := omega) only [g7, g5, h6, hp, t39 hs, ↓reduceIte, List.mem_singleton, Option.bind_some, if_true, if_false, zM_PM, zLn_PM, zTg_PM, zR_PM, ↓zb, ↓zo, ↓zl, n_lt0, n_le, n_lt, n_eq, n_eq0, n_gt0, n_le0, n_ge0, n_zin, n_nat, nI_add, and_self, true_or, false_or, or_false, if_pos, if_neg, f_in_nI, Nat.reduceAdd]
theorem x_end {o fuel N : Nat} {s : zS} {n : Nat} (hn : n < 1000) (x : Int32) : f_X6_read_4 N o 5 (fuel + 1) s (ng n) x = some (s, nI n) := by
  rw [f_X6_read_4, if_pos (ng_neg hn), ng_ng]
theorem j_read {L : Nat} {t : Nat → Nat} {act o c N : Nat} (hN : 3000 ≤ N) (ho5 : 47 ≤ o) (hc5 : 47 ≤ c) : ∀ k f1 f2 n sA sB p sz f w l ct, n + k = 10 → 1 ≤ n → k + 2 < f1 → k + 1 < f2 → TpA sA L t → AC sA o c sz f → Good sB L t act p 0 → BC sB act sz f → sz ≤ p → CS sA sB o act w l ct → depN f sz = some 0 → Out3 L t act o c N sA sB (f_X6_read_4 N o 5 f1 sA (nI p) (nI n)) (Option.bind (f_X12_clauseHere N sB 39) (fun st => f_X12_school_120 N 39 f2 st (nI n))) := by
  intro k
  induction k with
  | zero =>
    intro f1 f2 n sA sB p sz f w l ct h1 h2 h3 h4 hA hC g hB hz hS hd
    obtain ⟨f1, rfl⟩ : ∃ m, f1 = m + 2 := ⟨f1 - 2, by omega⟩
    obtain ⟨f2, rfl⟩ : ∃ m, f2 = m + 1 := ⟨f2 - 1, by omega⟩
    have hn : n = 10 := by omega
    subst hn
    obtain ⟨b1, b2, b3⟩ := g.b
    have ho := hC.1
    obtain ⟨sA', sB', r, u1, u2, u3, u4, u5⟩ := j_clause hA hC g hB hz hS hd hN
    have hA' := u3.tp ho5 hc5 hA
    have hs' : Sh sB' := g.1.1.cc ⟨u4.1, u4.2.1, u4.2.2.1⟩
    have e7 : f_X5_size sA' 5 = some (nI L) := (f_size (ns5 hA'.1)).trans (congrArg some hA'.2.2.2.1)
    have x1 : f_X6_read_4 N o 5 (f1 + 2) sA (nI p) (nI 10) = if r = nI L then some (sA', -1) else Option.bind (f_X6_stuck r) (fun r11 => f_X6_read_4 N o 5 (f1 + 1) sA' r11 (nI 10 + nI 1)) := by
      rw [f_X6_read_4]
      unfold f_X6_read_51
      simp (disch := omega) only [ho, u1, hA'.tg5, ↓bs e7, ↓reduceIte, List.mem_singleton, Option.bind_some, if_true, if_false, zM_PM, zLn_PM, zTg_PM, zR_PM, ↓zb, ↓zo, ↓zl, n_lt0, n_le, n_lt, n_eq, n_eq0, n_gt0, n_le0, n_ge0, n_zin, n_nat, nI_add, and_self, true_or, false_or, or_false, if_pos, if_neg, f_in_nI, Nat.reduceAdd]
    have y1 : Option.bind (f_X12_clauseHere N sB 39) (fun st => f_X12_school_120 N 39 (f2 + 1) st (nI 10)) = f_X12_school_162 N 39 sB' := by
      rw [u2, Option.bind_some, f_X12_school_120]
      simp (disch := omega) only [t39 hs', ite_self, ↓reduceIte, List.mem_singleton, Option.bind_some, if_true, if_false, zM_PM, zLn_PM, zTg_PM, zR_PM, ↓zb, ↓zo, ↓zl, n_lt0, n_le, n_lt, n_eq, n_eq0, n_gt0, n_le0, n_ge0, n_zin, n_nat, nI_add, and_self, true_or, false_or, or_false, if_pos, if_neg, f_in_nI, Nat.reduceAdd]
    rw [x1, y1]
    clear x1 y1
    rcases u5 with ⟨p', sz', f', w', l', ct', rfl, v1, v2, v3, v4, v5, v6, v7⟩ | ⟨n, sz', f', rfl, v1, v2⟩
    · obtain ⟨c1, c2, c3⟩ := v3.b
      by_cases q : p' = L
      · subst q
        refine ⟨sA', sB', u3, u4, Or.inl ⟨sz', f', w', l', ct', ?_, rfl, v3, v4, v5, v6, v7⟩⟩
        rw [if_pos rfl]
      · refine ⟨sA', sB', u3, u4, Or.inr ⟨p', c3, ?_, s162_no v3 q N⟩⟩
        rw [if_neg (by rw [n_eq (by omega) (by omega)]; exact q), stuck_p (by omega), Option.bind_some, x_end (by omega)]
    · have hn := v1.2.1
      refine ⟨sA', sB', u3, u4, Or.inr ⟨n, hn, ?_, s162_bad v1 N⟩⟩
      rw [if_neg (fun z => absurd (show (0 : Int32) ≤ ng n by rw [z]; exact nI_pos' (by omega)) (by rw [m_0le (ng_neg (by omega))]; exact id)), stuck_n (by omega), Option.bind_some, x_end (by omega)]
  | succ k ih =>
    intro f1 f2 n sA sB p sz f w l ct h1 h2 h3 h4 hA hC g hB hz hS hd
    obtain ⟨f1, rfl⟩ : ∃ m, f1 = m + 2 := ⟨f1 - 2, by omega⟩
    obtain ⟨f2, rfl⟩ : ∃ m, f2 = m + 1 := ⟨f2 - 1, by omega⟩
    have hn : n < 10 := by omega
    obtain ⟨b1, b2, b3⟩ := g.b
    have ho := hC.1
    obtain ⟨sA', sB', r, u1, u2, u3, u4, u5⟩ := j_clause hA hC g hB hz hS hd hN
    have hA' := u3.tp ho5 hc5 hA
    have hs' : Sh sB' := g.1.1.cc ⟨u4.1, u4.2.1, u4.2.2.1⟩
    have e7 : f_X5_size sA' 5 = some (nI L) := (f_size (ns5 hA'.1)).trans (congrArg some hA'.2.2.2.1)
    have ne : n ≠ 10 := by omega
    have nle : ¬ 10 < n := by omega
    have x1 : f_X6_read_4 N o 5 (f1 + 2) sA (nI p) (nI n) = if r = nI L then some (sA', -1) else Option.bind (f_X6_expect sA' 5 r (nI 59)) (fun r9 => f_X6_read_4 N o 5 (f1 + 1) sA' r9 (nI (n + 1))) := by
      rw [f_X6_read_4]
      unfold f_X6_read_51
      simp (disch := omega) only [ho, u1, hA'.tg5, ↓bs e7, ne, nle, ↓reduceIte, List.mem_singleton, Option.bind_some, if_true, if_false, zM_PM, zLn_PM, zTg_PM, zR_PM, ↓zb, ↓zo, ↓zl, n_lt0, n_le, n_lt, n_eq, n_eq0, n_gt0, n_le0, n_ge0, n_zin, n_nat, nI_add, and_self, true_or, false_or, or_false, if_pos, if_neg, f_in_nI, Nat.reduceAdd]
    rw [x1, u2, Option.bind_some]
    clear x1
    rcases u5 with ⟨p', sz', f', w', l', ct', rfl, v1, v2, v3, v4, v5, v6, v7⟩ | ⟨n', sz', f', rfl, v1, v2⟩
    · obtain ⟨c1, c2, c3⟩ := v3.b
      obtain ⟨gt, ga, gp, go, g4, g5, g7, g8⟩ := id v3
      have e1 := hA'.get (i := p') (by omega)
      have e2 := gt.here g5 gp
      by_cases q : p' = L
      · subst q
        have e3 : tx p' t p' = -1 := by unfold tx; rw [if_neg (by omega)]
        rw [e3] at e2
        refine ⟨sA', sB', u3, u4, Or.inl ⟨sz', f', w', l', ct', ?_, ?_, v3, v4, v5, v6, v7⟩⟩
        · rw [if_pos rfl]
        · rw [f_X12_school_120]
          simp (disch := omega) only [t39 hs', g7, ↓bs e2, n_m1', ↓reduceIte, List.mem_singleton, Option.bind_some, if_true, if_false, zM_PM, zLn_PM, zTg_PM, zR_PM, ↓zb, ↓zo, ↓zl, n_lt0, n_le, n_lt, n_eq, n_eq0, n_gt0, n_le0, n_ge0, n_zin, n_nat, nI_add, and_self, true_or, false_or, or_false, if_pos, if_neg, f_in_nI, Nat.reduceAdd]
      · have qq : ¬ nI p' = nI L := by rw [n_eq (by omega) (by omega)]; exact q
        rw [if_neg qq]
        by_cases z : tx L t p' = nI 59
        · obtain ⟨z1, z2⟩ := tx_eq z (by omega) gt.2.2.1
          have rm : RM sB' (zPM sB' 39 5 (nI (p' + 1))) := RM.rf.pm (by omega) _
          have g1 : Good (zPM sB' 39 5 (nI (p' + 1))) L t act (p' + 1) 0 := v3.rm rm (by rw [zM_PM, if_pos ⟨rfl, rfl⟩]) (by omega) (by rw [zM_PM, if_neg (by omega)]; exact g7) (by rw [zM_PM, if_neg (by omega)]; exact g8) (by omega)
          have hS' : CS sA' (zPM sB' 39 5 (nI (p' + 1))) o act w' l' ct' := by
            obtain ⟨k1, k2, k3, k4, k5, k6, k7, k8, k9⟩ := v6
            exact ⟨k1, k2, k3, k4, k5, k6, by rw [zM_PM, if_neg (by omega)]; exact k7, by rw [zM_PM, if_neg (by omega)]; exact k8, by rw [zM_PM, if_neg (by omega)]; exact k9⟩
          obtain ⟨sC, sD, w1, w2, w3⟩ := ih (f1 + 1) f2 (n + 1) sA' _ (p' + 1) sz' f' w' l' ct' (by omega) (by omega) (by omega) (by omega) hA' v4 g1 (v5.rm rm) (by omega) hS' v7
          have x2 : Option.bind (f_X6_expect sA' 5 (nI p') (nI 59)) (fun r9 => f_X6_read_4 N o 5 (f1 + 1) sA' r9 (nI (n + 1))) = f_X6_read_4 N o 5 (f1 + 1) sA' (nI (p' + 1)) (nI (n + 1)) := by
            have e : f_X6_expect sA' 5 (nI p') (nI 59) = some (nI (p' + 1)) := by
              unfold f_X6_expect
              simp (disch := omega) only [↓bs e1, z, hA'.tg5, ↓reduceIte, List.mem_singleton, Option.bind_some, if_true, if_false, zM_PM, zLn_PM, zTg_PM, zR_PM, ↓zb, ↓zo, ↓zl, n_lt0, n_le, n_lt, n_eq, n_eq0, n_gt0, n_le0, n_ge0, n_zin, n_nat, nI_add, and_self, true_or, false_or, or_false, if_pos, if_neg, f_in_nI, Nat.reduceAdd]
            rw [e]; rfl
          have y2 : f_X12_school_120 N 39 (f2 + 1) sB' (nI n) = Option.bind (f_X12_clauseHere N (zPM sB' 39 5 (nI (p' + 1))) 39) (fun st => f_X12_school_120 N 39 f2 st (nI (n + 1))) := by
            have nle2 : ¬ 10 ≤ n := by omega
            rw [f_X12_school_120]
            simp (disch := omega) only [t39 hs', g7, g5, ↓bs e2, z, nle2, n_le, n_eq, n_eq0, nI_add, List.mem_singleton, if_true, if_false, if_pos, if_neg, ↓reduceIte]
          rw [x2, y2]
          exact ⟨sC, sD, u3.tr w1, (u4.tr rm.rb.r2).tr w2, w3⟩
        · refine ⟨sA', sB', u3, u4, Or.inr ⟨p', c3, ?_, ?_⟩⟩
          · have e : f_X6_expect sA' 5 (nI p') (nI 59) = some (ng p') := by
              unfold f_X6_expect f_X6_expect_19
              simp (disch := omega) only [↓bs e1, z, hA'.tg5, ↓bs (stuck_p (p := p') (by omega)), ↓reduceIte, List.mem_singleton, Option.bind_some, if_true, if_false, zM_PM, zLn_PM, zTg_PM, zR_PM, ↓zb, ↓zo, ↓zl, n_lt0, n_le, n_lt, n_eq, n_eq0, n_gt0, n_le0, n_ge0, n_zin, n_nat, nI_add, and_self, true_or, false_or, or_false, if_pos, if_neg, f_in_nI, Nat.reduceAdd]
            rw [e, Option.bind_some, x_end (by omega)]
          · have nle2 : ¬ 10 ≤ n := by omega
            have y2 : f_X12_school_120 N 39 (f2 + 1) sB' (nI n) = f_X12_school_162 N 39 sB' := by
              rw [f_X12_school_120]
              simp (disch := omega) only [t39 hs', g7, ↓bs e2, z, nle2, ↓reduceIte, List.mem_singleton, Option.bind_some, if_true, if_false, zM_PM, zLn_PM, zTg_PM, zR_PM, ↓zb, ↓zo, ↓zl, n_lt0, n_le, n_lt, n_eq, n_eq0, n_gt0, n_le0, n_ge0, n_zin, n_nat, nI_add, and_self, true_or, false_or, or_false, if_pos, if_neg, f_in_nI, Nat.reduceAdd]
            rw [y2, s162_no v3 q N]
    · have hn' := v1.2.1
      have v17 := v1.2.2.2
      refine ⟨sA', sB', u3, u4, Or.inr ⟨n', hn', ?_, ?_⟩⟩
      · rw [if_neg (fun z => absurd (show (0 : Int32) ≤ ng n' by rw [z]; exact nI_pos' (by omega)) (by rw [m_0le (ng_neg (by omega))]; exact id)), expect_n hn', Option.bind_some, x_end (by omega)]
      · have y2 : f_X12_school_120 N 39 (f2 + 1) sB' (nI n) = f_X12_school_162 N 39 sB' := by
          rw [f_X12_school_120]
          simp (disch := omega) only [t39 hs', v17, ↓reduceIte, List.mem_singleton, Option.bind_some, if_true, if_false, zM_PM, zLn_PM, zTg_PM, zR_PM, ↓zb, ↓zo, ↓zl, n_lt0, n_le, n_lt, n_eq, n_eq0, n_gt0, n_le0, n_ge0, n_zin, n_nat, nI_add, and_self, true_or, false_or, or_false, if_pos, if_neg, f_in_nI, Nat.reduceAdd]
        rw [y2, s162_bad v1 N]
