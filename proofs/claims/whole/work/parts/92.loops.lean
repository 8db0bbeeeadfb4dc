/-! both and either, on both sides -/
theorem j_l1 {L : Nat} {t : Nat → Nat} {act o c N D op p0 sz0 : Nat} {f0 : Nat → Nat} (ho5 : 47 ≤ o) (hc5 : 47 ≤ c) (J2 : JJ L t act o c N D 2) (hop : op ≤ 5) (hD : 3 * (7 - op) ≤ D + 2) (hz0 : sz0 ≤ p0) (a2 : Int32) : ∀ k f1 f2 i sA sB p sz f, L < p + k → k + 1 < f1 → k + 1 < f2 → i < p → TpA sA L t → AC sA o c sz f → Good sB L t act p op → BC sB act sz f → Ex p0 sz0 f0 p sz f (2 * op + 1) 1 → Out L t act o c sA sB p0 op sz0 f0 (2 * op + 1) 1 (f_X6_both_12 (fg_X6 N D) N o 5 a2 (nI op) f1 sA (nI p) (nI i)) (f_X12_every_4 (fg_X12 N D) N 39 f2 sB) := by
  intro k
  induction k with
  | zero =>
    intro f1 f2 i sA sB p sz f h1 h2 h3 h4 hA hC g hB hE
    exact absurd g.2.2.1 (by omega)
  | succ k ih =>
    intro f1 f2 i sA sB p sz f h1 h2 h3 h4 hA hC g hB hE
    obtain ⟨f1, rfl⟩ : ∃ m, f1 = m + 2 := ⟨f1 - 2, by omega⟩
    obtain ⟨f2, rfl⟩ : ∃ m, f2 = m + 2 := ⟨f2 - 2, by omega⟩
    obtain ⟨b1, b2, b3⟩ := g.b
    obtain ⟨gt, ga, gp, go, g4, g5, g7, g8⟩ := id g
    have hs := gt.1
    have e1 := hA.get (i := p) (by omega)
    have e2 := gt.here g5 gp
    have ho := hC.1
    rw [f_X6_both_12, f_X12_every_4]
    by_cases q : tx L t p = nI 38
    · obtain ⟨hp, -⟩ := tx_eq q (by omega) gt.2.2.1
      have g1 : Good (zPM sB 39 5 (nI (p + 1))) L t act (p + 1) op := g.rm (RM.rf.pm (by omega) _) (by rw [zM_PM, if_pos ⟨rfl, rfl⟩]) (by omega) (by rw [zM_PM, if_neg (by omega)]; exact g7) (by rw [zM_PM, if_neg (by omega)]; exact g8) go
      have r1 : RM sB (zPM sB 39 5 (nI (p + 1))) := RM.rf.pm (by omega) _
      have hz : sz ≤ p + 1 := by have := hE.2.1; omega
      obtain ⟨sA', sB', r, u1, u2, u3, u4, u5⟩ := J2 op hop hD _ _ (p + 1) sz f hA hC g1 (hB.rm r1) hz
      have hA' := u3.tp ho5 hc5 hA
      have hs' := u4.sh g1.1.1
      rcases u5 with ⟨p', sz', f', rfl, v1, v2, v3, v4⟩ | ⟨n, sz', f', rfl, v1, v2⟩
      · obtain ⟨c1, c2, c3⟩ := v1.b
        have E2 := (hE.wide (p0 := p0) (Nat.le_refl _) (Nat.le_succ p)).tr v4 (by omega)
        obtain ⟨v5, v6⟩ := And.intro v4.1 v4.2.1
        obtain ⟨v7, v8⟩ := And.intro hE.1 hE.2.1
        obtain ⟨sA2, sz2, f2', y1, y2, y3, y4⟩ := x_put v2 2001
        obtain ⟨rfl, rfl⟩ := y4 (by omega)
        obtain ⟨s4, w1, w2, w3, w4⟩ := m_emit v1 v3 (by omega) 2001
        rw [stp_not.2.1] at w1
        have hA2 := y2.tp ho5 hc5 hA'
        have E3 := E2.put (q := 2001) (p'' := p') (e2 := 1) (by omega) (by omega) (fun d _ => dep_two (Or.inl rfl))
        obtain ⟨sF, sG, r, l1, l2, l3, l4, l5⟩ := ih (f1 + 1) (f2 + 1) (i + 1) sA2 s4 p' (sz' + 1) _ (by omega) (by omega) (by omega) (by omega) hA2 y3 w3 w4 E3
        refine ⟨sF, sG, r, ?_, ?_, (u3.tr y2).tr l3, ((r1.rb.tr u4).tr w2).tr l4, l5⟩
        · simp (disch := omega) only [hA.tg5, ↓bs e1, q, ho, nI_add, u1, v2.1, ↓bs y1, l1, ↓reduceIte, List.mem_singleton, Option.bind_some, if_true, if_false, zM_PM, zLn_PM, zTg_PM, zR_PM, ↓zb, ↓zo, ↓zl, n_lt0, n_le, n_lt, n_eq, n_eq0, n_gt0, n_le0, n_ge0, n_zin, n_nat, nI_add, and_self, true_or, false_or, or_false, if_pos, if_neg, f_in_nI, Nat.reduceAdd]
        · simp (disch := omega) only [g7, g5, ↓bs e2, q, nI_add, ↓bs u2, ↓bs w1, l2, t39 hs, t39 hs', ↓reduceIte, List.mem_singleton, Option.bind_some, if_true, if_false, zM_PM, zLn_PM, zTg_PM, zR_PM, ↓zb, ↓zo, ↓zl, n_lt0, n_le, n_lt, n_eq, n_eq0, n_gt0, n_le0, n_ge0, n_zin, n_nat, nI_add, and_self, true_or, false_or, or_false, if_pos, if_neg, f_in_nI, Nat.reduceAdd]
      · obtain ⟨sA2, sz2, f2', y1, y2, y3, y4⟩ := x_put v2 2001
        have hn := v1.2.1
        have v17 := v1.2.2.2
        have hA2 := y2.tp ho5 hc5 hA'
        have e3 : f_X5_get sA2 5 (ng n) = some (-1) := f_getN (ng_neg (by omega))
        have l1 : f_X6_both_12 (fg_X6 N D) N o 5 a2 (nI op) (f1 + 1) sA2 (ng n) (nI (i + 1)) = some (sA2, ng n) := by
          rw [f_X6_both_12]
          by_cases z : 100 ≤ i + 1 <;> simp (disch := omega) only [z, hA2.tg5, ↓bs e3, n_m1', ↓reduceIte, List.mem_singleton, Option.bind_some, if_true, if_false, zM_PM, zLn_PM, zTg_PM, zR_PM, ↓zb, ↓zo, ↓zl, n_lt0, n_le, n_lt, n_eq, n_eq0, n_gt0, n_le0, n_ge0, n_zin, n_nat, nI_add, and_self, true_or, false_or, or_false, if_pos, if_neg, f_in_nI, Nat.reduceAdd]
        have l2 : f_X12_every_4 (fg_X12 N D) N 39 (f2 + 1) sB' = some sB' := by
          rw [f_X12_every_4]
          simp (disch := omega) only [v17, t39 hs', ↓reduceIte, List.mem_singleton, Option.bind_some, if_true, if_false, zM_PM, zLn_PM, zTg_PM, zR_PM, ↓zb, ↓zo, ↓zl, n_lt0, n_le, n_lt, n_eq, n_eq0, n_gt0, n_le0, n_ge0, n_zin, n_nat, nI_add, and_self, true_or, false_or, or_false, if_pos, if_neg, f_in_nI, Nat.reduceAdd]
        refine ⟨sA2, sB', ng n, ?_, ?_, u3.tr y2, r1.rb.tr u4, Or.inr ⟨n, sz2, f2', rfl, v1, y3⟩⟩
        · simp (disch := omega) only [hA.tg5, ↓bs e1, q, ho, nI_add, u1, v2.1, ↓bs y1, l1, ↓reduceIte, List.mem_singleton, Option.bind_some, if_true, if_false, zM_PM, zLn_PM, zTg_PM, zR_PM, ↓zb, ↓zo, ↓zl, n_lt0, n_le, n_lt, n_eq, n_eq0, n_gt0, n_le0, n_ge0, n_zin, n_nat, nI_add, and_self, true_or, false_or, or_false, if_pos, if_neg, f_in_nI, Nat.reduceAdd]
        · simp (disch := omega) only [g7, g5, ↓bs e2, q, nI_add, ↓bs u2, ↓bs (m_emit_bad v1 _), l2, t39 hs, t39 hs', ↓reduceIte, List.mem_singleton, Option.bind_some, if_true, if_false, zM_PM, zLn_PM, zTg_PM, zR_PM, ↓zb, ↓zo, ↓zl, n_lt0, n_le, n_lt, n_eq, n_eq0, n_gt0, n_le0, n_ge0, n_zin, n_nat, nI_add, and_self, true_or, false_or, or_false, if_pos, if_neg, f_in_nI, Nat.reduceAdd]
    · refine ⟨sA, sB, nI p, ?_, ?_, RA.rf, RB.rf, Or.inl ⟨p, sz, f, rfl, g, hC, hB, hE⟩⟩
      · simp (disch := omega) only [hA.tg5, ↓bs e1, q, ↓reduceIte, List.mem_singleton, Option.bind_some, if_true, if_false, zM_PM, zLn_PM, zTg_PM, zR_PM, ↓zb, ↓zo, ↓zl, n_lt0, n_le, n_lt, n_eq, n_eq0, n_gt0, n_le0, n_ge0, n_zin, n_nat, nI_add, and_self, true_or, false_or, or_false, if_pos, if_neg, f_in_nI, Nat.reduceAdd]
      · simp (disch := omega) only [g7, ↓bs e2, q, t39 hs, ↓reduceIte, List.mem_singleton, Option.bind_some, if_true, if_false, zM_PM, zLn_PM, zTg_PM, zR_PM, ↓zb, ↓zo, ↓zl, n_lt0, n_le, n_lt, n_eq, n_eq0, n_gt0, n_le0, n_ge0, n_zin, n_nat, nI_add, and_self, true_or, false_or, or_false, if_pos, if_neg, f_in_nI, Nat.reduceAdd]
theorem j_p1 {L : Nat} {t : Nat → Nat} {act o c N D : Nat} (hN : 3000 ≤ N) (J2 : JJ L t act o c N D 2) : JJ L t act o c N (D + 1) 1 := by
  intro op hop hD sA sB p sz f hA hC g hB hz
  obtain ⟨b1, b2, b3⟩ := g.b
  have hs := g.1.1
  have ho := hC.1
  have ho5 : 47 ≤ o := hC.2.2.2.2.1
  have hc5 : 47 ≤ c := hC.2.2.2.2.2.1
  show Out L t act o c sA sB p op sz f (2 * op + 1) 1 (f_X6_both (fg_X6 N D) N sA o 5 (nI p) (nI op)) (f_X12_every (fg_X12 N D) N sB 39)
  obtain ⟨sA', sB', r, u1, u2, u3, u4, u5⟩ := J2 op hop (by omega) _ _ p sz f hA hC g hB hz
  have hA' := u3.tp ho5 hc5 hA
  have hs' := u4.sh hs
  have x1 : f_X6_both (fg_X6 N D) N sA o 5 (nI p) (nI op) = f_X6_both_12 (fg_X6 N D) N o 5 (nI p) (nI op) N sA' r (nI 0) := by
    unfold f_X6_both
    simp only [ho, u1, ↓zb, Option.bind_some, List.mem_singleton, if_true]
  have x2 : f_X12_every (fg_X12 N D) N sB 39 = f_X12_every_4 (fg_X12 N D) N 39 N sB' := by
    unfold f_X12_every
    simp only [u2, Option.bind_some, t39 hs, List.mem_singleton, if_true]
  rw [x1, x2]
  rcases u5 with ⟨p', sz', f', rfl, v1, v2, v3, v4⟩ | ⟨n, sz', f', rfl, v1, v2⟩
  · obtain ⟨c1, c2, c3⟩ := v1.b
    have v5 := v4.1
    obtain ⟨sF, sG, r, l1, l2, l3, l4, l5⟩ := j_l1 ho5 hc5 J2 hop (by omega) hz (nI p) 101 N N 0 sA' sB' p' sz' f' (by omega) (by omega) (by omega) (by omega) hA' v2 v1 v3 (v4.mono (by omega))
    exact ⟨sF, sG, r, l1, l2, u3.tr l3, u4.tr l4, l5⟩
  · have hn := v1.2.1
    have v17 := v1.2.2.2
    have e3 : f_X5_get sA' 5 (ng n) = some (-1) := f_getN (ng_neg (by omega))
    obtain ⟨M, rfl⟩ : ∃ m, N = m + 1 := ⟨N - 1, by omega⟩
    refine ⟨sA', sB', ng n, ?_, ?_, u3, u4, Or.inr ⟨n, sz', f', rfl, v1, v2⟩⟩
    · rw [f_X6_both_12]
      simp (disch := omega) only [hA'.tg5, ↓bs e3, n_m1', ↓reduceIte, List.mem_singleton, Option.bind_some, if_true, if_false, zM_PM, zLn_PM, zTg_PM, zR_PM, ↓zb, ↓zo, ↓zl, n_lt0, n_le, n_lt, n_eq, n_eq0, n_gt0, n_le0, n_ge0, n_zin, n_nat, nI_add, and_self, true_or, false_or, or_false, if_pos, if_neg, f_in_nI, Nat.reduceAdd]
    · rw [f_X12_every_4]
      simp (disch := omega) only [v17, t39 hs', ↓reduceIte, List.mem_singleton, Option.bind_some, if_true, if_false, zM_PM, zLn_PM, zTg_PM, zR_PM, ↓zb, ↓zo, ↓zl, n_lt0, n_le, n_lt, n_eq, n_eq0, n_gt0, n_le0, n_ge0, n_zin, n_nat, nI_add, and_self, true_or, false_or, or_false, if_pos, if_neg, f_in_nI, Nat.reduceAdd]
theorem j_l0 {L : Nat} {t : Nat → Nat} {act o c N D op p0 sz0 : Nat} {f0 : Nat → Nat} (ho5 : 47 ≤ o) (hc5 : 47 ≤ c) (J2 : JJ L t act o c N D 1) (hop : op ≤ 5) (hD : 3 * (7 - op) ≤ D + 1) (hz0 : sz0 ≤ p0) (a2 : Int32) : ∀ k f1 f2 i sA sB p sz f, L < p + k → k + 1 < f1 → k + 1 < f2 → i < p → TpA sA L t → AC sA o c sz f → Good sB L t act p op → BC sB act sz f → Ex p0 sz0 f0 p sz f (2 * op + 0) 1 → Out L t act o c sA sB p0 op sz0 f0 (2 * op + 0) 1 (f_X6_either_12 (fg_X6 N D) N o 5 a2 (nI op) f1 sA (nI p) (nI i)) (f_X12_some_4 (fg_X12 N D) N 39 f2 sB) := by
  intro k
  induction k with
  | zero =>
    intro f1 f2 i sA sB p sz f h1 h2 h3 h4 hA hC g hB hE
    exact absurd g.2.2.1 (by omega)
  | succ k ih =>
    intro f1 f2 i sA sB p sz f h1 h2 h3 h4 hA hC g hB hE
    obtain ⟨f1, rfl⟩ : ∃ m, f1 = m + 2 := ⟨f1 - 2, by omega⟩
    obtain ⟨f2, rfl⟩ : ∃ m, f2 = m + 2 := ⟨f2 - 2, by omega⟩
    obtain ⟨b1, b2, b3⟩ := g.b
    obtain ⟨gt, ga, gp, go, g4, g5, g7, g8⟩ := id g
    have hs := gt.1
    have e1 := hA.get (i := p) (by omega)
    have e2 := gt.here g5 gp
    have ho := hC.1
    rw [f_X6_either_12, f_X12_some_4]
    by_cases q : tx L t p = nI 124
    · obtain ⟨hp, -⟩ := tx_eq q (by omega) gt.2.2.1
      have g1 : Good (zPM sB 39 5 (nI (p + 1))) L t act (p + 1) op := g.rm (RM.rf.pm (by omega) _) (by rw [zM_PM, if_pos ⟨rfl, rfl⟩]) (by omega) (by rw [zM_PM, if_neg (by omega)]; exact g7) (by rw [zM_PM, if_neg (by omega)]; exact g8) go
      have r1 : RM sB (zPM sB 39 5 (nI (p + 1))) := RM.rf.pm (by omega) _
      have hz : sz ≤ p + 1 := by have := hE.2.1; omega
      obtain ⟨sA', sB', r, u1, u2, u3, u4, u5⟩ := J2 op hop hD _ _ (p + 1) sz f hA hC g1 (hB.rm r1) hz
      have hA' := u3.tp ho5 hc5 hA
      have hs' := u4.sh g1.1.1
      rcases u5 with ⟨p', sz', f', rfl, v1, v2, v3, v4⟩ | ⟨n, sz', f', rfl, v1, v2⟩
      · obtain ⟨c1, c2, c3⟩ := v1.b
        have E2 := (hE.wide (p0 := p0) (Nat.le_refl _) (Nat.le_succ p)).tr v4 (by omega)
        obtain ⟨v5, v6⟩ := And.intro v4.1 v4.2.1
        obtain ⟨v7, v8⟩ := And.intro hE.1 hE.2.1
        obtain ⟨sA2, sz2, f2', y1, y2, y3, y4⟩ := x_put v2 2002
        obtain ⟨rfl, rfl⟩ := y4 (by omega)
        obtain ⟨s4, w1, w2, w3, w4⟩ := m_emit v1 v3 (by omega) 2002
        rw [stp_not.2.2] at w1
        have hA2 := y2.tp ho5 hc5 hA'
        have E3 := E2.put (q := 2002) (p'' := p') (e2 := 1) (by omega) (by omega) (fun d _ => dep_two (Or.inr rfl))
        obtain ⟨sF, sG, r, l1, l2, l3, l4, l5⟩ := ih (f1 + 1) (f2 + 1) (i + 1) sA2 s4 p' (sz' + 1) _ (by omega) (by omega) (by omega) (by omega) hA2 y3 w3 w4 E3
        refine ⟨sF, sG, r, ?_, ?_, (u3.tr y2).tr l3, ((r1.rb.tr u4).tr w2).tr l4, l5⟩
        · simp (disch := omega) only [hA.tg5, ↓bs e1, q, ho, nI_add, u1, v2.1, ↓bs y1, l1, ↓reduceIte, List.mem_singleton, Option.bind_some, if_true, if_false, zM_PM, zLn_PM, zTg_PM, zR_PM, ↓zb, ↓zo, ↓zl, n_lt0, n_le, n_lt, n_eq, n_eq0, n_gt0, n_le0, n_ge0, n_zin, n_nat, nI_add, and_self, true_or, false_or, or_false, if_pos, if_neg, f_in_nI, Nat.reduceAdd]
        · simp (disch := omega) only [g7, g5, ↓bs e2, q, nI_add, ↓bs u2, ↓bs w1, l2, t39 hs, t39 hs', ↓reduceIte, List.mem_singleton, Option.bind_some, if_true, if_false, zM_PM, zLn_PM, zTg_PM, zR_PM, ↓zb, ↓zo, ↓zl, n_lt0, n_le, n_lt, n_eq, n_eq0, n_gt0, n_le0, n_ge0, n_zin, n_nat, nI_add, and_self, true_or, false_or, or_false, if_pos, if_neg, f_in_nI, Nat.reduceAdd]
      · obtain ⟨sA2, sz2, f2', y1, y2, y3, y4⟩ := x_put v2 2002
        have hn := v1.2.1
        have v17 := v1.2.2.2
        have hA2 := y2.tp ho5 hc5 hA'
        have e3 : f_X5_get sA2 5 (ng n) = some (-1) := f_getN (ng_neg (by omega))
        have l1 : f_X6_either_12 (fg_X6 N D) N o 5 a2 (nI op) (f1 + 1) sA2 (ng n) (nI (i + 1)) = some (sA2, ng n) := by
          rw [f_X6_either_12]
          by_cases z : 100 ≤ i + 1 <;> simp (disch := omega) only [z, hA2.tg5, ↓bs e3, n_m1', ↓reduceIte, List.mem_singleton, Option.bind_some, if_true, if_false, zM_PM, zLn_PM, zTg_PM, zR_PM, ↓zb, ↓zo, ↓zl, n_lt0, n_le, n_lt, n_eq, n_eq0, n_gt0, n_le0, n_ge0, n_zin, n_nat, nI_add, and_self, true_or, false_or, or_false, if_pos, if_neg, f_in_nI, Nat.reduceAdd]
        have l2 : f_X12_some_4 (fg_X12 N D) N 39 (f2 + 1) sB' = some sB' := by
          rw [f_X12_some_4]
          simp (disch := omega) only [v17, t39 hs', ↓reduceIte, List.mem_singleton, Option.bind_some, if_true, if_false, zM_PM, zLn_PM, zTg_PM, zR_PM, ↓zb, ↓zo, ↓zl, n_lt0, n_le, n_lt, n_eq, n_eq0, n_gt0, n_le0, n_ge0, n_zin, n_nat, nI_add, and_self, true_or, false_or, or_false, if_pos, if_neg, f_in_nI, Nat.reduceAdd]
        refine ⟨sA2, sB', ng n, ?_, ?_, u3.tr y2, r1.rb.tr u4, Or.inr ⟨n, sz2, f2', rfl, v1, y3⟩⟩
        · simp (disch := omega) only [hA.tg5, ↓bs e1, q, ho, nI_add, u1, v2.1, ↓bs y1, l1, ↓reduceIte, List.mem_singleton, Option.bind_some, if_true, if_false, zM_PM, zLn_PM, zTg_PM, zR_PM, ↓zb, ↓zo, ↓zl, n_lt0, n_le, n_lt, n_eq, n_eq0, n_gt0, n_le0, n_ge0, n_zin, n_nat, nI_add, and_self, true_or, false_or, or_false, if_pos, if_neg, f_in_nI, Nat.reduceAdd]
        · simp (disch := omega) only [g7, g5, ↓bs e2, q, nI_add, ↓bs u2, ↓bs (m_emit_bad v1 _), l2, t39 hs, t39 hs', ↓reduceIte, List.mem_singleton, Option.bind_some, if_true, if_false, zM_PM, zLn_PM, zTg_PM, zR_PM, ↓zb, ↓zo, ↓zl, n_lt0, n_le, n_lt, n_eq, n_eq0, n_gt0, n_le0, n_ge0, n_zin, n_nat, nI_add, and_self, true_or, false_or, or_false, if_pos, if_neg, f_in_nI, Nat.reduceAdd]
    · refine ⟨sA, sB, nI p, ?_, ?_, RA.rf, RB.rf, Or.inl ⟨p, sz, f, rfl, g, hC, hB, hE⟩⟩
      · simp (disch := omega) only [hA.tg5, ↓bs e1, q, ↓reduceIte, List.mem_singleton, Option.bind_some, if_true, if_false, zM_PM, zLn_PM, zTg_PM, zR_PM, ↓zb, ↓zo, ↓zl, n_lt0, n_le, n_lt, n_eq, n_eq0, n_gt0, n_le0, n_ge0, n_zin, n_nat, nI_add, and_self, true_or, false_or, or_false, if_pos, if_neg, f_in_nI, Nat.reduceAdd]
      · simp (disch := omega) only [g7, ↓bs e2, q, t39 hs, ↓reduceIte, List.mem_singleton, Option.bind_some, if_true, if_false, zM_PM, zLn_PM, zTg_PM, zR_PM, ↓zb, ↓zo, ↓zl, n_lt0, n_le, n_lt, n_eq, n_eq0, n_gt0, n_le0, n_ge0, n_zin, n_nat, nI_add, and_self, true_or, false_or, or_false, if_pos, if_neg, f_in_nI, Nat.reduceAdd]
theorem j_p0 {L : Nat} {t : Nat → Nat} {act o c N D : Nat} (hN : 3000 ≤ N) (J2 : JJ L t act o c N D 1) : JJ L t act o c N (D + 1) 0 := by
  intro op hop hD sA sB p sz f hA hC g hB hz
  obtain ⟨b1, b2, b3⟩ := g.b
  have hs := g.1.1
  have ho := hC.1
  have ho5 : 47 ≤ o := hC.2.2.2.2.1
  have hc5 : 47 ≤ c := hC.2.2.2.2.2.1
  show Out L t act o c sA sB p op sz f (2 * op + 0) 1 (f_X6_either (fg_X6 N D) N sA o 5 (nI p) (nI op)) (f_X12_some (fg_X12 N D) N sB 39)
  obtain ⟨sA', sB', r, u1, u2, u3, u4, u5⟩ := J2 op hop (by omega) _ _ p sz f hA hC g hB hz
  have hA' := u3.tp ho5 hc5 hA
  have hs' := u4.sh hs
  have x1 : f_X6_either (fg_X6 N D) N sA o 5 (nI p) (nI op) = f_X6_either_12 (fg_X6 N D) N o 5 (nI p) (nI op) N sA' r (nI 0) := by
    unfold f_X6_either
    simp only [ho, u1, ↓zb, Option.bind_some, List.mem_singleton, if_true]
  have x2 : f_X12_some (fg_X12 N D) N sB 39 = f_X12_some_4 (fg_X12 N D) N 39 N sB' := by
    unfold f_X12_some
    simp only [u2, Option.bind_some, t39 hs, List.mem_singleton, if_true]
  rw [x1, x2]
  rcases u5 with ⟨p', sz', f', rfl, v1, v2, v3, v4⟩ | ⟨n, sz', f', rfl, v1, v2⟩
  · obtain ⟨c1, c2, c3⟩ := v1.b
    have v5 := v4.1
    obtain ⟨sF, sG, r, l1, l2, l3, l4, l5⟩ := j_l0 ho5 hc5 J2 hop (by omega) hz (nI p) 101 N N 0 sA' sB' p' sz' f' (by omega) (by omega) (by omega) (by omega) hA' v2 v1 v3 (v4.mono (by omega))
    exact ⟨sF, sG, r, l1, l2, u3.tr l3, u4.tr l4, l5⟩
  · have hn := v1.2.1
    have v17 := v1.2.2.2
    have e3 : f_X5_get sA' 5 (ng n) = some (-1) := f_getN (ng_neg (by omega))
    obtain ⟨M, rfl⟩ : ∃ m, N = m + 1 := ⟨N - 1, by omega⟩
    refine ⟨sA', sB', ng n, ?_, ?_, u3, u4, Or.inr ⟨n, sz', f', rfl, v1, v2⟩⟩
    · rw [f_X6_either_12]
      simp (disch := omega) only [hA'.tg5, ↓bs e3, n_m1', ↓reduceIte, List.mem_singleton, Option.bind_some, if_true, if_false, zM_PM, zLn_PM, zTg_PM, zR_PM, ↓zb, ↓zo, ↓zl, n_lt0, n_le, n_lt, n_eq, n_eq0, n_gt0, n_le0, n_ge0, n_zin, n_nat, nI_add, and_self, true_or, false_or, or_false, if_pos, if_neg, f_in_nI, Nat.reduceAdd]
    · rw [f_X12_some_4]
      simp (disch := omega) only [v17, t39 hs', ↓reduceIte, List.mem_singleton, Option.bind_some, if_true, if_false, zM_PM, zLn_PM, zTg_PM, zR_PM, ↓zb, ↓zo, ↓zl, n_lt0, n_le, n_lt, n_eq, n_eq0, n_gt0, n_le0, n_ge0, n_zin, n_nat, nI_add, and_self, true_or, false_or, or_false, if_pos, if_neg, f_in_nI, Nat.reduceAdd]
theorem j_all {L : Nat} {t : Nat → Nat} {act o c N : Nat} (hN : 3000 ≤ N) : ∀ D, JJ L t act o c N D 0 ∧ JJ L t act o c N D 1 ∧ JJ L t act o c N D 2
  | 0 => ⟨fun op h1 h2 => absurd h2 (by omega), fun op h1 h2 => absurd h2 (by omega), fun op h1 h2 => absurd h2 (by omega)⟩
  | D + 1 => by
    obtain ⟨h0, h1, h2⟩ := j_all hN D
    exact ⟨j_p0 hN h1, j_p1 hN h2, j_single hN h0 h2⟩
