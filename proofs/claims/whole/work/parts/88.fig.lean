/-! figures -/
def Fg (L : Nat) (t : Nat → Nat) (p : Nat) : Prop := p < L ∧ 48 ≤ t p ∧ t p ≤ 57
theorem fig_y {L : Nat} {t : Nat → Nat} {p : Nat} (h : Fg L t p) : tx L t p = nI (t p) ∧ f_X6_isFigure (tx L t p) = some (nI 1) ∧ f_X12_in (tx L t p) (nI 48) (nI 57) = some (nI 1) := by
  obtain ⟨h1, h2, h3⟩ := h
  have e : tx L t p = nI (t p) := by unfold tx; rw [if_pos h1]
  rw [e]
  refine ⟨rfl, ?_, ?_⟩
  · unfold f_X6_isFigure
    simp (disch := omega) only [↓reduceIte, List.mem_singleton, Option.bind_some, if_true, if_false, zM_PM, zLn_PM, zTg_PM, zR_PM, ↓zb, ↓zo, ↓zl, n_lt0, n_le, n_lt, n_eq, n_eq0, n_gt0, n_le0, n_ge0, n_zin, n_nat, nI_add, and_self, true_or, false_or, or_false, if_pos, if_neg, f_in_nI, Nat.reduceAdd]
  · rw [f_in_nI (by omega) (by omega) (by omega), if_pos ⟨h2, h3⟩]
theorem fig_n {L : Nat} {t : Nat → Nat} {p : Nat} (ht : ∀ i, i < L → t i < 128) (h : ¬ Fg L t p) : f_X6_isFigure (tx L t p) = some (nI 0) ∧ f_X12_in (tx L t p) (nI 48) (nI 57) = some (nI 0) := by
  unfold Fg at h
  unfold tx
  by_cases q : p < L
  · have h1 := ht p q
    rw [if_pos q]
    refine ⟨?_, ?_⟩
    · unfold f_X6_isFigure
      by_cases q2 : t p < 48 <;> simp (disch := omega) only [q2, ↓reduceIte, List.mem_singleton, Option.bind_some, if_true, if_false, zM_PM, zLn_PM, zTg_PM, zR_PM, ↓zb, ↓zo, ↓zl, n_lt0, n_le, n_lt, n_eq, n_eq0, n_gt0, n_le0, n_ge0, n_zin, n_nat, nI_add, and_self, true_or, false_or, or_false, if_pos, if_neg, f_in_nI, Nat.reduceAdd]
    · rw [f_in_nI (by omega) (by omega) (by omega), if_neg (by omega)]
  · rw [if_neg q]
    exact ⟨by decide +kernel, by decide +kernel⟩
theorem val_step {s : zS} (h5 : zTg s 5 = 15) {q p' c x : Nat} (hq : q < p') (hp : p' < 1000) (e : f_X5_get s 5 (nI q) = some (nI c)) (hc : 48 ≤ c) (hc2 : c < 128) (hx : x < 1000) (N : Nat) (a1 : Int32) (fuel : Nat) : f_X6_valueOf_5 N s 5 a1 (nI p') (fuel + 1) (nI x) (nI q) = f_X6_valueOf_5 N s 5 a1 (nI p') fuel (nI (10 * x + (c - 48))) (nI (q + 1)) := by
  have nq : ¬ p' ≤ q := by omega
  have e3 : x * 10 + c - 48 = 10 * x + (c - 48) := by omega
  rw [f_X6_valueOf_5]
  simp (disch := omega) only [h5, ↓bs e, n_mul, pk_sub, nq, e3, ↓reduceIte, List.mem_singleton, Option.bind_some, if_true, if_false, zM_PM, zLn_PM, zTg_PM, zR_PM, ↓zb, ↓zo, ↓zl, n_lt0, n_le, n_lt, n_eq, n_eq0, n_gt0, n_le0, n_ge0, n_zin, n_nat, nI_add, and_self, true_or, false_or, or_false, if_pos, if_neg, f_in_nI, Nat.reduceAdd]
theorem val_end {s : zS} {p' x : Nat} (hp : p' < 1000) (N : Nat) (a1 : Int32) (fuel : Nat) : f_X6_valueOf_5 N s 5 a1 (nI p') (fuel + 1) (nI x) (nI p') = some (nI x) := by
  rw [f_X6_valueOf_5, if_pos (by rw [n_le (by omega) (by omega)]; omega)]
theorem fig_val {L : Nat} {t : Nat → Nat} {p p' v : Nat} (h : (p' = p + 1 ∧ v = t p - 48) ∨ (p' = p + 2 ∧ Fg L t (p + 1) ∧ v = 10 * (t p - 48) + (t (p + 1) - 48))) (hf : Fg L t p) {s : zS} (hs : TpA s L t) {N : Nat} (hN : 3000 ≤ N) : f_X6_valueOf N s 5 (nI p) (nI p') = some (nI v) := by
  obtain ⟨h1, h2, h3⟩ := hf
  have hL := hs.2.1
  have e1 := hs.get (i := p) (by omega)
  have e2 := hs.get (i := p + 1) (by omega)
  have d1 : tx L t p = nI (t p) := by unfold tx; rw [if_pos h1]
  rw [d1] at e1
  obtain ⟨M, rfl⟩ : ∃ m, N = m + 3 := ⟨N - 3, by omega⟩
  unfold f_X6_valueOf
  rcases h with ⟨rfl, rfl⟩ | ⟨rfl, ⟨g1, g2, g3⟩, rfl⟩
  · rw [val_step hs.tg5 (by omega) (by omega) e1 h2 (by omega) (by omega), val_end (by omega)]
    congr 2; omega
  · have d2 : tx L t (p + 1) = nI (t (p + 1)) := by unfold tx; rw [if_pos g1]
    rw [d2] at e2
    rw [val_step hs.tg5 (by omega) (by omega) e1 h2 (by omega) (by omega), val_step hs.tg5 (by omega) (by omega) e2 g2 (by omega) (by omega), val_end (by omega)]
    congr 2; omega
theorem m_fig68 {s : zS} {L : Nat} {t : Nat → Nat} {act p op : Nat} (g : Good s L t act p op) (hf : Fg L t p) (K0 : zS → Int32 → Int32 → Option (zS × Int32)) (N : Nat) (v i : Nat) (hv : v ≤ 9) : f_X12_figures_68 N 39 K0 s (nI v) (nI i) = K0 (zPM s 39 5 (nI (p + 1))) (nI (10 * v + (t p - 48))) (nI (i + 1)) ∧ Good (zPM s 39 5 (nI (p + 1))) L t act (p + 1) op := by
  obtain ⟨b1, b2, b3⟩ := g.b
  obtain ⟨gt, ga, gp, go, g4, g5, g7, g8⟩ := id g
  have hs := gt.1
  have e2 := gt.here g5 gp
  rw [(fig_y hf).1] at e2
  obtain ⟨h1, h2, h3⟩ := hf
  refine ⟨?_, g.rm (RM.rf.pm (by omega) _) (by rw [zM_PM, if_pos ⟨rfl, rfl⟩]) (by omega) (by rw [zM_PM, if_neg (by omega)]; exact g7) (by rw [zM_PM, if_neg (by omega)]; exact g8) go⟩
  unfold f_X12_figures_68
  simp (disch := omega) only [↓bs e2, g5, n_mul, pk_sub, t39 hs, ↓reduceIte, List.mem_singleton, Option.bind_some, if_true, if_false, zM_PM, zLn_PM, zTg_PM, zR_PM, ↓zb, ↓zo, ↓zl, n_lt0, n_le, n_lt, n_eq, n_eq0, n_gt0, n_le0, n_ge0, n_zin, n_nat, nI_add, and_self, true_or, false_or, or_false, if_pos, if_neg, f_in_nI, Nat.reduceAdd]
  congr 2; omega
theorem j_digits {sA sB : zS} {L : Nat} {t : Nat → Nat} {act p op : Nat} {r : Int32} (hA : TpA sA L t) (h : PS r sB L t act p op) {N : Nat} (hN : 3000 ≤ N) : ∃ r' sB' v p', f_X6_digits sA 5 r = some r' ∧ f_X12_figures N sB 39 = some (sB', nI v) ∧ RM sB sB' ∧ v ≤ 99 ∧ p < p' ∧ PS r' sB' L t act p' op ∧ (0 ≤ r' → ∀ s, TpA s L t → f_X6_valueOf N s 5 r r' = some (nI v)) := by
  rcases h with ⟨rfl, g⟩ | ⟨n, rfl, g⟩
  · obtain ⟨b1, b2, b3⟩ := g.b
    obtain ⟨gt, ga, gp, go, g4, g5, g7, g8⟩ := id g
    have hs := gt.1
    have e1 := hA.get (i := p) (by omega)
    have e2 := gt.here g5 gp
    obtain ⟨M, rfl⟩ : ∃ m, N = m + 3 := ⟨N - 3, by omega⟩
    by_cases q : Fg L t p
    rotate_left
    · obtain ⟨q1, q2⟩ := fig_n gt.2.2.1 q
      refine ⟨ng p, zPM sB 39 7 (nI 1), 0, p + 1, ?_, ?_, RM.rf.pm (by omega) _, by omega, by omega, Or.inr ⟨p, rfl, hs.pm _ _ _, b3, ?_, ?_⟩, fun z => absurd z (by rw [m_0le (ng_neg (by omega))]; exact id)⟩
      · unfold f_X6_digits
        simp (disch := omega) only [hA.tg5, ↓bs e1, ↓bs q1, ↓bs (stuck_p (p := p) (by omega)), ↓reduceIte, List.mem_singleton, Option.bind_some, if_true, if_false, zM_PM, zLn_PM, zTg_PM, zR_PM, ↓zb, ↓zo, ↓zl, n_lt0, n_le, n_lt, n_eq, n_eq0, n_gt0, n_le0, n_ge0, n_zin, n_nat, nI_add, and_self, true_or, false_or, or_false, if_pos, if_neg, f_in_nI, Nat.reduceAdd]
      · unfold f_X12_figures f_X12_figures_22 f_X12_figures_27
        rw [f_X12_figures_34]
        simp (disch := omega) only [g7, ↓bs e2, ↓bs q2, show zB (nI 1) from by decide, t39 hs, ↓reduceIte, List.mem_singleton, Option.bind_some, if_true, if_false, zM_PM, zLn_PM, zTg_PM, zR_PM, ↓zb, ↓zo, ↓zl, n_lt0, n_le, n_lt, n_eq, n_eq0, n_gt0, n_le0, n_ge0, n_zin, n_nat, nI_add, and_self, true_or, false_or, or_false, if_pos, if_neg, f_in_nI, Nat.reduceAdd]
      · rw [zM_PM, if_neg (by omega)]; exact g5
      · rw [zM_PM, if_pos ⟨rfl, rfl⟩]
    obtain ⟨q0, q1, q2⟩ := fig_y q
    obtain ⟨q3, q4, q5⟩ := id q
    have e1' : f_X5_get sA 5 (nI p) = some (nI (t p)) := by rw [e1, q0]
    have e3 := hA.get (i := p + 1) (by omega)
    have q1' : f_X6_isFigure (nI (t p)) = some (nI 1) := by rw [← q0]; exact q1
    have g0 : Good (zPM sB 39 7 (nI 0)) L t act p op := g.rm (RM.rf.pm (by omega) _) (by rw [zM_PM, if_neg (by omega)]; exact g5) b2 (by rw [zM_PM, if_pos ⟨rfl, rfl⟩]) (by rw [zM_PM, if_neg (by omega)]; exact g8) go
    have fm0 : f_X12_figures (M + 3) sB 39 = f_X12_figures_34 (M + 3) 39 (M + 3) (zPM sB 39 7 (nI 0)) (nI 0) (nI 0) := by
      unfold f_X12_figures f_X12_figures_27
      simp (disch := omega) only [g7, ↓bs e2, ↓bs q2, show zB (nI 0) from by decide, t39 hs, ↓reduceIte, List.mem_singleton, Option.bind_some, if_true, if_false, zM_PM, zLn_PM, zTg_PM, zR_PM, ↓zb, ↓zo, ↓zl, n_lt0, n_le, n_lt, n_eq, n_eq0, n_gt0, n_le0, n_ge0, n_zin, n_nat, nI_add, and_self, true_or, false_or, or_false, if_pos, if_neg, f_in_nI, Nat.reduceAdd]
    have r0 : RM sB (zPM sB 39 7 (nI 0)) := RM.rf.pm (by omega) _
    generalize zPM sB 39 7 (nI 0) = s0 at *
    have e4 := g0.1.here g0.2.2.2.2.2.1 b2
    have hs0 := g0.1.1
    have g07 := g0.2.2.2.2.2.2.1
    have fm1 : ∀ F, f_X12_figures_34 (M + 3) 39 (F + 1) s0 (nI 0) (nI 0) = f_X12_figures_34 (M + 3) 39 F (zPM s0 39 5 (nI (p + 1))) (nI (t p - 48)) (nI 1) := fun F => by
      have h68 := (m_fig68 g0 q (f_X12_figures_34 (M + 3) 39 F) (M + 3) 0 0 (by omega)).1
      rw [show 10 * 0 + (t p - 48) = t p - 48 by omega] at h68
      rw [f_X12_figures_34]
      simp (disch := omega) only [g07, ↓bs e4, ↓bs q2, h68, t39 hs0, ↓reduceIte, List.mem_singleton, Option.bind_some, if_true, if_false, zM_PM, zLn_PM, zTg_PM, zR_PM, ↓zb, ↓zo, ↓zl, n_lt0, n_le, n_lt, n_eq, n_eq0, n_gt0, n_le0, n_ge0, n_zin, n_nat, nI_add, and_self, true_or, false_or, or_false, if_pos, if_neg, f_in_nI, Nat.reduceAdd]
    have g1 := (m_fig68 g0 q (fun _ _ _ => none) (M + 3) 0 0 (by omega)).2
    have r1 : RM sB (zPM s0 39 5 (nI (p + 1))) := r0.pm (by omega) _
    rw [fm0, fm1]
    generalize zPM s0 39 5 (nI (p + 1)) = s1 at *
    have b4 := g1.2.2.1
    have e5 := g1.1.here g1.2.2.2.2.2.1 b4
    have hs1 := g1.1.1
    have g17 := g1.2.2.2.2.2.2.1
    by_cases z : Fg L t (p + 1) ∧ t p ≠ 48
    · obtain ⟨z0, z1, z2⟩ := fig_y z.1
      obtain ⟨z3, z4, z5⟩ := id z.1
      have z6 := z.2
      have fm2 : ∀ F, f_X12_figures_34 (M + 3) 39 (F + 2) s1 (nI (t p - 48)) (nI 1) = some (zPM s1 39 5 (nI (p + 1 + 1)), nI (10 * (t p - 48) + (t (p + 1) - 48))) := fun F => by
        have h68 := (m_fig68 g1 z.1 (f_X12_figures_34 (M + 3) 39 (F + 1)) (M + 3) (t p - 48) 1 (by omega)).1
        have e6 : ∀ w, f_X12_figures_34 (M + 3) 39 (F + 1) (zPM s1 39 5 (nI (p + 1 + 1))) w (nI (1 + 1)) = some (zPM s1 39 5 (nI (p + 1 + 1)), w) := fun w => by
          rw [f_X12_figures_34]
          simp (disch := omega) only [↓reduceIte, List.mem_singleton, Option.bind_some, if_true, if_false, zM_PM, zLn_PM, zTg_PM, zR_PM, ↓zb, ↓zo, ↓zl, n_lt0, n_le, n_lt, n_eq, n_eq0, n_gt0, n_le0, n_ge0, n_zin, n_nat, nI_add, and_self, true_or, false_or, or_false, if_pos, if_neg, f_in_nI, Nat.reduceAdd]
        rw [e6] at h68
        rw [f_X12_figures_34]
        simp (disch := omega) only [g17, ↓bs e5, ↓bs z2, h68, t39 hs1, ↓reduceIte, List.mem_singleton, Option.bind_some, if_true, if_false, zM_PM, zLn_PM, zTg_PM, zR_PM, ↓zb, ↓zo, ↓zl, n_lt0, n_le, n_lt, n_eq, n_eq0, n_gt0, n_le0, n_ge0, n_zin, n_nat, nI_add, and_self, true_or, false_or, or_false, if_pos, if_neg, f_in_nI, Nat.reduceAdd]
      have g2 := (m_fig68 g1 z.1 (fun _ _ _ => none) (M + 3) (t p - 48) 1 (by omega)).2
      refine ⟨nI (p + 2), _, _, p + 2, ?_, fm2 M, r1.pm (by omega) _, by omega, by omega, Or.inl ⟨rfl, g2⟩, fun _ s hs => fig_val (Or.inr ⟨rfl, z.1, rfl⟩) q hs hN⟩
      unfold f_X6_digits
      simp (disch := omega) only [hA.tg5, ↓bs e1', ↓bs q1', ↓bs e3, ↓bs z1, ↓reduceIte, List.mem_singleton, Option.bind_some, if_true, if_false, zM_PM, zLn_PM, zTg_PM, zR_PM, ↓zb, ↓zo, ↓zl, n_lt0, n_le, n_lt, n_eq, n_eq0, n_gt0, n_le0, n_ge0, n_zin, n_nat, nI_add, and_self, true_or, false_or, or_false, if_pos, if_neg, f_in_nI, Nat.reduceAdd]
    · have fm2 : ∀ F, f_X12_figures_34 (M + 3) 39 (F + 2) s1 (nI (t p - 48)) (nI 1) = some (s1, nI (t p - 48)) := fun F => by
        rw [f_X12_figures_34]
        by_cases y : Fg L t (p + 1)
        · have y2 : t p = 48 := by
            by_cases y3 : t p = 48
            · exact y3
            · exact absurd ⟨y, y3⟩ z
          obtain ⟨z0, z1, z2⟩ := fig_y y
          simp (disch := omega) only [g17, ↓bs e5, ↓bs z2, y2, t39 hs1, Nat.sub_self, ↓reduceIte, List.mem_singleton, Option.bind_some, if_true, if_false, zM_PM, zLn_PM, zTg_PM, zR_PM, ↓zb, ↓zo, ↓zl, n_lt0, n_le, n_lt, n_eq, n_eq0, n_gt0, n_le0, n_ge0, n_zin, n_nat, nI_add, and_self, true_or, false_or, or_false, if_pos, if_neg, f_in_nI, Nat.reduceAdd]
        · obtain ⟨z1, z2⟩ := fig_n gt.2.2.1 y
          simp (disch := omega) only [g17, ↓bs e5, ↓bs z2, t39 hs1, ↓reduceIte, List.mem_singleton, Option.bind_some, if_true, if_false, zM_PM, zLn_PM, zTg_PM, zR_PM, ↓zb, ↓zo, ↓zl, n_lt0, n_le, n_lt, n_eq, n_eq0, n_gt0, n_le0, n_ge0, n_zin, n_nat, nI_add, and_self, true_or, false_or, or_false, if_pos, if_neg, f_in_nI, Nat.reduceAdd]
      refine ⟨nI (p + 1), s1, t p - 48, p + 1, ?_, fm2 M, r1, by omega, by omega, Or.inl ⟨rfl, g1⟩, fun _ s hs => fig_val (Or.inl ⟨rfl, rfl⟩) q hs hN⟩
      unfold f_X6_digits
      by_cases y2 : t p = 48
      · rw [y2] at e1' q1'
        simp (disch := omega) only [hA.tg5, ↓bs e1', ↓bs q1', ↓reduceIte, List.mem_singleton, Option.bind_some, if_true, if_false, zM_PM, zLn_PM, zTg_PM, zR_PM, ↓zb, ↓zo, ↓zl, n_lt0, n_le, n_lt, n_eq, n_eq0, n_gt0, n_le0, n_ge0, n_zin, n_nat, nI_add, and_self, true_or, false_or, or_false, if_pos, if_neg, f_in_nI, Nat.reduceAdd]
      · have y : ¬ Fg L t (p + 1) := fun y => z ⟨y, y2⟩
        obtain ⟨z1, z2⟩ := fig_n gt.2.2.1 y
        simp (disch := omega) only [hA.tg5, ↓bs e1', ↓bs q1', ↓bs e3, ↓bs z1, ↓reduceIte, List.mem_singleton, Option.bind_some, if_true, if_false, zM_PM, zLn_PM, zTg_PM, zR_PM, ↓zb, ↓zo, ↓zl, n_lt0, n_le, n_lt, n_eq, n_eq0, n_gt0, n_le0, n_ge0, n_zin, n_nat, nI_add, and_self, true_or, false_or, or_false, if_pos, if_neg, f_in_nI, Nat.reduceAdd]
  · obtain ⟨hs, h1, h5, h7⟩ := id g
    obtain ⟨M, rfl⟩ : ∃ m, N = m + 3 := ⟨N - 3, by omega⟩
    refine ⟨ng n, zPM sB 39 7 (nI 1), 0, p + 1, ?_, ?_, RM.rf.pm (by omega) _, by omega, by omega, Or.inr ⟨n, rfl, hs.pm _ _ _, h1, ?_, ?_⟩, fun z => absurd z (by rw [m_0le (ng_neg (by omega))]; exact id)⟩
    · have i1 : f_X6_isFigure (-1) = some (nI 0) := by decide +kernel
      unfold f_X6_digits
      simp (disch := omega) only [hA.tg5, ↓bs (f_getN (st := sA) (o := 5) (ng_neg (n := n) (by omega))), ↓bs i1, ↓bs (stuck_n (n := n) (by omega)), ↓reduceIte, List.mem_singleton, Option.bind_some, if_true, if_false, zM_PM, zLn_PM, zTg_PM, zR_PM, ↓zb, ↓zo, ↓zl, n_lt0, n_le, n_lt, n_eq, n_eq0, n_gt0, n_le0, n_ge0, n_zin, n_nat, nI_add, and_self, true_or, false_or, or_false, if_pos, if_neg, f_in_nI, Nat.reduceAdd]
    · unfold f_X12_figures f_X12_figures_22 f_X12_figures_27
      rw [f_X12_figures_34]
      simp (disch := omega) only [h7, show zB (nI 1) from by decide, t39 hs, ↓reduceIte, List.mem_singleton, Option.bind_some, if_true, if_false, zM_PM, zLn_PM, zTg_PM, zR_PM, ↓zb, ↓zo, ↓zl, n_lt0, n_le, n_lt, n_eq, n_eq0, n_gt0, n_le0, n_ge0, n_zin, n_nat, nI_add, and_self, true_or, false_or, or_false, if_pos, if_neg, f_in_nI, Nat.reduceAdd]
    · rw [zM_PM, if_neg (by omega)]; exact h5
    · rw [zM_PM, if_pos ⟨rfl, rfl⟩]
