/-! a test -/
theorem ch_ix : ∀ y, y < 128 → ((nI y).toUInt32 % 65536).toInt32 = nI y ∧ (nI y).toInt8.toInt32 = nI y ∧ f_J1_canEncode_9a6ad (nI y) = some (nI 1) := by decide +kernel
theorem ch_get : ∀ a, a < 12 → ∀ i, i < zsl a → (zsb a).getD i 0 = nI (zch a i) := by decide +kernel
theorem ch_lat : ∀ a, a < 12 → f_J0_isLatin1_aae02 a = some (nI 1) ∧ 1 ≤ zsl a := by decide +kernel
theorem m_among_no {s : zS} (hs : Sh s) {a : Nat} (ha : a < 12) {x : Int32} (hx : f_X12_here s 39 = some x) (hn : ∀ j, j < zsl a → x ≠ nI (zch a j)) (N : Nat) : ∀ k i fuel, i + k = zsl a → k < fuel → f_X12_among_2 N 39 a fuel s (nI i) = some (s, -1) := by
  have l1 := ch_len a ha
  have z1 : a < zsN := Nat.lt_of_lt_of_le ha (by decide)
  have l1b := l1.2
  intro k
  induction k with
  | zero =>
    intro i fuel h1 h2
    obtain ⟨fuel, rfl⟩ : ∃ m, fuel = m + 1 := ⟨fuel - 1, by omega⟩
    have hi : i = zsl a := by omega
    rw [f_X12_among_2]
    simp (disch := omega) only [z1, ↓bs l1.1, hi, ↓reduceIte, List.mem_singleton, Option.bind_some, if_true, if_false, zM_PM, zLn_PM, zTg_PM, zR_PM, ↓zb, ↓zo, ↓zl, n_lt0, n_le, n_lt, n_eq, n_eq0, n_gt0, n_le0, n_ge0, n_zin, n_nat, nI_add, and_self, true_or, false_or, or_false, if_pos, if_neg, f_in_nI, Nat.reduceAdd]
  | succ k ih =>
    intro i fuel h1 h2
    obtain ⟨fuel, rfl⟩ : ∃ m, fuel = m + 1 := ⟨fuel - 1, by omega⟩
    have c1 := ch_at a ha i (by omega)
    have e := ih (i + 1) fuel (by omega) (by omega)
    have hne := hn i (by omega)
    rw [f_X12_among_2]
    simp (disch := omega) only [z1, ↓bs l1.1, ↓bs c1.1, ↓bs hx, hne, e, t39 hs, ↓reduceIte, List.mem_singleton, Option.bind_some, if_true, if_false, zM_PM, zLn_PM, zTg_PM, zR_PM, ↓zb, ↓zo, ↓zl, n_lt0, n_le, n_lt, n_eq, n_eq0, n_gt0, n_le0, n_ge0, n_zin, n_nat, nI_add, and_self, true_or, false_or, or_false, if_pos, if_neg, f_in_nI, Nat.reduceAdd]
theorem j_among {s : zS} (hs : Sh s) {a : Nat} (ha : a < 6) {y p : Nat} (hy : y < 128) (hp : p ≤ 100) (h5 : zM s 39 5 = nI p) (hx : f_X12_here s 39 = some (nI y)) (N : Nat) (c1 c2 : Int32) : ∀ k i f1 f2, i + k = zsl a → k < f1 → k < f2 → (∃ m, m < zsl a ∧ f_J1_indexOfChar_4cfef_7 N a c1 c2 (nI (zsl a)) f1 (nI y) (nI i) = some (nI m) ∧ f_X12_among_2 N 39 (a + 6) f2 s (nI i) = some (zPM s 39 5 (nI (p + 1)), nI m)) ∨ (f_J1_indexOfChar_4cfef_7 N a c1 c2 (nI (zsl a)) f1 (nI y) (nI i) = some (-1) ∧ f_X12_among_2 N 39 (a + 6) f2 s (nI i) = some (s, -1)) := by
  have l1 := ch_len a (by omega)
  have l2 := ch_len (a + 6) (by omega)
  obtain ⟨l3, l4⟩ := ch_two a ha
  have z1 : a < zsN := Nat.lt_of_lt_of_le ha (by decide)
  have z2 : a + 6 < zsN := Nat.lt_of_lt_of_le (show a + 6 < 12 by omega) (by decide)
  have l1b := l1.2
  rw [l3] at l2
  intro k
  induction k with
  | zero =>
    intro i f1 f2 h1 h2 h3
    obtain ⟨f1, rfl⟩ : ∃ m, f1 = m + 1 := ⟨f1 - 1, by omega⟩
    obtain ⟨f2, rfl⟩ : ∃ m, f2 = m + 1 := ⟨f2 - 1, by omega⟩
    have hi : i = zsl a := by omega
    refine Or.inr ⟨?_, ?_⟩
    · rw [f_J1_indexOfChar_4cfef_7]
      simp (disch := omega) only [hi, ↓reduceIte, List.mem_singleton, Option.bind_some, if_true, if_false, zM_PM, zLn_PM, zTg_PM, zR_PM, ↓zb, ↓zo, ↓zl, n_lt0, n_le, n_lt, n_eq, n_eq0, n_gt0, n_le0, n_ge0, n_zin, n_nat, nI_add, and_self, true_or, false_or, or_false, if_pos, if_neg, f_in_nI, Nat.reduceAdd]
    · rw [f_X12_among_2]
      simp (disch := omega) only [z2, ↓bs l2.1, hi, ↓reduceIte, List.mem_singleton, Option.bind_some, if_true, if_false, zM_PM, zLn_PM, zTg_PM, zR_PM, ↓zb, ↓zo, ↓zl, n_lt0, n_le, n_lt, n_eq, n_eq0, n_gt0, n_le0, n_ge0, n_zin, n_nat, nI_add, and_self, true_or, false_or, or_false, if_pos, if_neg, f_in_nI, Nat.reduceAdd]
  | succ k ih =>
    intro i f1 f2 h1 h2 h3
    obtain ⟨f1, rfl⟩ : ∃ m, f1 = m + 1 := ⟨f1 - 1, by omega⟩
    obtain ⟨f2, rfl⟩ : ∃ m, f2 = m + 1 := ⟨f2 - 1, by omega⟩
    have c1 := ch_at a (by omega) i (by omega)
    have c2 := ch_at (a + 6) (by omega) i (by omega)
    rw [l4 i (by omega)] at c2
    have c3 := ch_get a (by omega) i (by omega)
    have c1b := c1.2
    rw [f_J1_indexOfChar_4cfef_7, f_X12_among_2]
    by_cases q : y = zch a i
    · refine Or.inl ⟨i, by omega, ?_, ?_⟩
      · simp (disch := omega) only [z1, c3, q, ↓reduceIte, List.mem_singleton, Option.bind_some, if_true, if_false, zM_PM, zLn_PM, zTg_PM, zR_PM, ↓zb, ↓zo, ↓zl, n_lt0, n_le, n_lt, n_eq, n_eq0, n_gt0, n_le0, n_ge0, n_zin, n_nat, nI_add, and_self, true_or, false_or, or_false, if_pos, if_neg, f_in_nI, Nat.reduceAdd]
      · simp (disch := omega) only [z2, ↓bs l2.1, ↓bs c2.1, ↓bs hx, q, h5, t39 hs, ↓reduceIte, List.mem_singleton, Option.bind_some, if_true, if_false, zM_PM, zLn_PM, zTg_PM, zR_PM, ↓zb, ↓zo, ↓zl, n_lt0, n_le, n_lt, n_eq, n_eq0, n_gt0, n_le0, n_ge0, n_zin, n_nat, nI_add, and_self, true_or, false_or, or_false, if_pos, if_neg, f_in_nI, Nat.reduceAdd]
    · have q' : ¬ zch a i = y := fun z => q z.symm
      rcases ih (i + 1) f1 f2 (by omega) (by omega) (by omega) with ⟨m, e0, e1, e2⟩ | ⟨e1, e2⟩
      · refine Or.inl ⟨m, e0, ?_, ?_⟩
        · simp (disch := omega) only [z1, c3, q', e1, ↓reduceIte, List.mem_singleton, Option.bind_some, if_true, if_false, zM_PM, zLn_PM, zTg_PM, zR_PM, ↓zb, ↓zo, ↓zl, n_lt0, n_le, n_lt, n_eq, n_eq0, n_gt0, n_le0, n_ge0, n_zin, n_nat, nI_add, and_self, true_or, false_or, or_false, if_pos, if_neg, f_in_nI, Nat.reduceAdd]
        · simp (disch := omega) only [z2, ↓bs l2.1, ↓bs c2.1, ↓bs hx, q, e2, t39 hs, ↓reduceIte, List.mem_singleton, Option.bind_some, if_true, if_false, zM_PM, zLn_PM, zTg_PM, zR_PM, ↓zb, ↓zo, ↓zl, n_lt0, n_le, n_lt, n_eq, n_eq0, n_gt0, n_le0, n_ge0, n_zin, n_nat, nI_add, and_self, true_or, false_or, or_false, if_pos, if_neg, f_in_nI, Nat.reduceAdd]
      · refine Or.inr ⟨?_, ?_⟩
        · simp (disch := omega) only [z1, c3, q', e1, ↓reduceIte, List.mem_singleton, Option.bind_some, if_true, if_false, zM_PM, zLn_PM, zTg_PM, zR_PM, ↓zb, ↓zo, ↓zl, n_lt0, n_le, n_lt, n_eq, n_eq0, n_gt0, n_le0, n_ge0, n_zin, n_nat, nI_add, and_self, true_or, false_or, or_false, if_pos, if_neg, f_in_nI, Nat.reduceAdd]
        · simp (disch := omega) only [z2, ↓bs l2.1, ↓bs c2.1, ↓bs hx, q, e2, t39 hs, ↓reduceIte, List.mem_singleton, Option.bind_some, if_true, if_false, zM_PM, zLn_PM, zTg_PM, zR_PM, ↓zb, ↓zo, ↓zl, n_lt0, n_le, n_lt, n_eq, n_eq0, n_gt0, n_le0, n_ge0, n_zin, n_nat, nI_add, and_self, true_or, false_or, or_false, if_pos, if_neg, f_in_nI, Nat.reduceAdd]
theorem x_place {a y : Nat} (ha : a < 6) (hy : y < 128) (N : Nat) : f_X6_placeIn N a (nI y) = f_J1_indexOfChar_4cfef_7 N a (nI y) (nI 0) (nI (zsl a)) N (nI y) (nI 0) := by
  obtain ⟨i1, i2, i3⟩ := ch_ix y hy
  have l1 := ch_len a (by omega)
  obtain ⟨l2, l3⟩ := ch_lat a (by omega)
  have l1b := l1.2
  have z1 : a < zsN := Nat.lt_of_lt_of_le ha (by decide)
  have e : ∀ x : Option Int32, x.bind (fun r => some r) = x := fun x => by cases x <;> rfl
  unfold f_X6_placeIn f_J0_indexOf_0f7a4 f_J0_indexOf_7cf53 f_J1_indexOf_4cfef f_J1_indexOfChar_4cfef
  simp (disch := omega) only [i1, i2, e, ↓bs i3, z1, ↓bs l1.1, ↓bs l2, ↓reduceIte, List.mem_singleton, Option.bind_some, if_true, if_false, zM_PM, zLn_PM, zTg_PM, zR_PM, ↓zb, ↓zo, ↓zl, n_lt0, n_le, n_lt, n_eq, n_eq0, n_gt0, n_le0, n_ge0, n_zin, n_nat, nI_add, and_self, true_or, false_or, or_false, if_pos, if_neg, f_in_nI, Nat.reduceAdd]
theorem place_among {s : zS} {L : Nat} {t : Nat → Nat} {act p op a : Nat} (g : Good s L t act p op) (ha : a < 6) {N : Nat} (hN : 3000 ≤ N) : (∃ m, m < zsl a ∧ p < L ∧ f_X6_placeIn N a (tx L t p) = some (nI m) ∧ f_X12_among N s 39 (a + 6) = some (zPM s 39 5 (nI (p + 1)), nI m)) ∨ (f_X6_placeIn N a (tx L t p) = some (-1) ∧ f_X12_among N s 39 (a + 6) = some (s, -1)) := by
  obtain ⟨b1, b2, b3⟩ := g.b
  obtain ⟨gt, ga, gp, go, g4, g5, g7, g8⟩ := id g
  have hs := gt.1
  have e2 := gt.here g5 gp
  have l1 := (ch_len a (by omega)).2
  by_cases q : p < L
  · have e : tx L t p = nI (t p) := by unfold tx; rw [if_pos q]
    rw [e] at e2 ⊢
    rw [x_place ha (gt.2.2.1 p q)]
    rcases j_among hs ha (gt.2.2.1 p q) b3 g5 e2 N (nI (t p)) (nI 0) (zsl a) 0 N N (by omega) (by omega) (by omega) with ⟨m, e3, e4, e5⟩ | ⟨e4, e5⟩
    · exact Or.inl ⟨m, e3, q, e4, e5⟩
    · exact Or.inr ⟨e4, e5⟩
  · have e : tx L t p = -1 := by unfold tx; rw [if_neg q]
    rw [e] at e2 ⊢
    refine Or.inr ⟨?_, ?_⟩
    · unfold f_X6_placeIn
      rw [if_neg (by decide)]
    · have l3 := (ch_two a ha).1
      exact m_among_no hs (a := a + 6) (by omega) e2 (fun j hj => fun z => by
        have c := (ch_at (a + 6) (by omega) j hj).2
        exact absurd z.symm (by rw [n_m1 (by omega)]; exact id)) N (zsl (a + 6)) 0 N (by omega) (by omega)
theorem figures_bad {s : zS} {n : Nat} (h : Bad s n) {N : Nat} (hN : 3000 ≤ N) : ∃ s', f_X12_figures N s 39 = some (s', nI 0) ∧ RM s s' ∧ Bad s' n := by
  obtain ⟨hs, h1, h5, h7⟩ := h
  obtain ⟨M, rfl⟩ : ∃ m, N = m + 1 := ⟨N - 1, by omega⟩
  refine ⟨zPM s 39 7 (nI 1), ?_, RM.rf.pm (by omega) _, hs.pm _ _ _, h1, ?_, ?_⟩
  · unfold f_X12_figures f_X12_figures_22 f_X12_figures_27
    rw [f_X12_figures_34]
    simp (disch := omega) only [h7, show zB (nI 1) from by decide, t39 hs, ↓reduceIte, List.mem_singleton, Option.bind_some, if_true, if_false, zM_PM, zLn_PM, zTg_PM, zR_PM, ↓zb, ↓zo, ↓zl, n_lt0, n_le, n_lt, n_eq, n_eq0, n_gt0, n_le0, n_ge0, n_zin, n_nat, nI_add, and_self, true_or, false_or, or_false, if_pos, if_neg, f_in_nI, Nat.reduceAdd]
  · rw [zM_PM, if_neg (by omega)]; exact h5
  · rw [zM_PM, if_pos ⟨rfl, rfl⟩]
theorem f169_bad {s : zS} {n : Nat} (hs : Sh s) (h1 : n ≤ 100) (h5 : zM s 39 5 = nI n) {N : Nat} (hN : 3000 ≤ N) (rec_ : Nat → zS → Nat → Option zS) (x2 x3 : Int32) : ∃ s', f_X12_factor_169 rec_ N 39 s x2 x3 (nI 1) = some s' ∧ RM s s' ∧ Bad s' n := by
  have hb : Bad (zPM s 39 7 (nI 1)) n := ⟨hs.pm _ _ _, h1, by rw [zM_PM, if_neg (by omega)]; exact h5, by rw [zM_PM, if_pos ⟨rfl, rfl⟩]⟩
  obtain ⟨s', e, m, b⟩ := figures_bad hb hN
  refine ⟨s', ?_, (RM.rf.pm (by omega) _).tr m, b⟩
  unfold f_X12_factor_169
  simp (disch := omega) only [e, ↓bs (m_emit_bad b _), show zB (nI 1) from by decide, t39 hs, t39 b.1, ↓reduceIte, List.mem_singleton, Option.bind_some, if_true, if_false, zM_PM, zLn_PM, zTg_PM, zR_PM, ↓zb, ↓zo, ↓zl, n_lt0, n_le, n_lt, n_eq, n_eq0, n_gt0, n_le0, n_ge0, n_zin, n_nat, nI_add, and_self, true_or, false_or, or_false, if_pos, if_neg, f_in_nI, Nat.reduceAdd]
def Out (L : Nat) (t : Nat → Nat) (act o c : Nat) (sA sB : zS) (p op sz : Nat) (f : Nat → Nat) (B e : Nat) (x : Option (zS × Int32)) (y : Option zS) : Prop :=
  ∃ sA' sB' r, x = some (sA', r) ∧ y = some sB' ∧ RA o c sA sA' ∧ RB act sB sB' ∧ ((∃ p' sz' f', r = nI p' ∧ Good sB' L t act p' op ∧ AC sA' o c sz' f' ∧ BC sB' act sz' f' ∧ Ex p sz f p' sz' f' B e) ∨ (∃ n sz' f', r = ng n ∧ Bad sB' n ∧ AC sA' o c sz' f'))
theorem j_test {sA sB : zS} {L : Nat} {t : Nat → Nat} {act o c p op sz : Nat} {f : Nat → Nat} (hA : TpA sA L t) (hC : AC sA o c sz f) (g : Good sB L t act p op) (hB : BC sB act sz f) (hz : sz ≤ p) {N : Nat} (hN : 3000 ≤ N) (rec_ : Nat → zS → Nat → Option zS) {B : Nat} (hBB : B ≤ 18) : Out L t act o c sA sB p op sz f B 1 (f_X6_test N sA o 5 (nI p)) (zb (f_X12_among N sB 39 10) (fun st21 r22 => if r22 = (-1 : Int32) then f_X12_factor_130 rec_ N 39 st21 r22 (nI 1) else f_X12_factor_130 rec_ N 39 st21 r22 (nI 0))) := by
  obtain ⟨b1, b2, b3⟩ := g.b
  obtain ⟨gt, ga, gp, go, g4, g5, g7, g8⟩ := id g
  have hs := gt.1
  have e1 := hA.get (i := p) (by omega)
  have e2 := hA.get (i := p + 1) (by omega)
  have ho := hC.1
  have ho5 : 47 ≤ o := hC.2.2.2.2.1
  have hc5 : 47 ≤ c := hC.2.2.2.2.2.1
  rcases place_among g (a := 4) (by omega) hN with ⟨m, m1, m2, m3, m4⟩ | ⟨m3, m4⟩
  rotate_left
  · obtain ⟨s', q1, q2, q3⟩ := f169_bad (s := zPM sB 39 7 (nI 1)) (n := p) (hs.pm _ _ _) b3 (by rw [zM_PM, if_neg (by omega)]; exact g5) hN rec_ (-1) (nI 0)
    refine ⟨sA, s', ng p, ?_, ?_, RA.rf, ((RM.rf.pm (j := 7) (by omega) (nI 1)).tr q2).rb, Or.inr ⟨p, sz, f, rfl, q3, hC⟩⟩
    · unfold f_X6_test
      simp (disch := omega) only [hA.tg5, ↓bs e1, ↓bs m3, ↓bs (stuck_p (p := p) (by omega)), show (0 ≤ (-1 : Int32)) = False by decide, ↓reduceIte, List.mem_singleton, Option.bind_some, if_true, if_false, zM_PM, zLn_PM, zTg_PM, zR_PM, ↓zb, ↓zo, ↓zl, n_lt0, n_le, n_lt, n_eq, n_eq0, n_gt0, n_le0, n_ge0, n_zin, n_nat, nI_add, and_self, true_or, false_or, or_false, if_pos, if_neg, f_in_nI, Nat.reduceAdd]
    · unfold f_X12_factor_130 f_X12_factor_150 f_X12_factor_164
      simp (disch := omega) only [show f_X12_among N sB 39 10 = some (sB, -1) from m4, q1, show zB (nI 1) from by decide, t39 hs, ↓reduceIte, List.mem_singleton, Option.bind_some, if_true, if_false, zM_PM, zLn_PM, zTg_PM, zR_PM, ↓zb, ↓zo, ↓zl, n_lt0, n_le, n_lt, n_eq, n_eq0, n_gt0, n_le0, n_ge0, n_zin, n_nat, nI_add, and_self, true_or, false_or, or_false, if_pos, if_neg, f_in_nI, Nat.reduceAdd]
  have m1' : m < 6 := m1
  have g1 : Good (zPM (zPM sB 39 5 (nI (p + 1))) 39 7 (nI 0)) L t act (p + 1) op := g.rm ((RM.rf.pm (by omega) _).pm (by omega) _) (by rw [zM_PM, if_neg (by omega), zM_PM, if_pos ⟨rfl, rfl⟩]) (by omega) (by rw [zM_PM, if_pos ⟨rfl, rfl⟩]) (by rw [zM_PM, if_neg (by omega), zM_PM, if_neg (by omega)]; exact g8) go
  have fm1 : (zb (f_X12_among N sB 39 10) (fun st21 r22 => if r22 = (-1 : Int32) then f_X12_factor_130 rec_ N 39 st21 r22 (nI 1) else f_X12_factor_130 rec_ N 39 st21 r22 (nI 0))) = zb (f_X12_among N (zPM (zPM sB 39 5 (nI (p + 1))) 39 7 (nI 0)) 39 11) (fun st25 r26 => f_X12_factor_150 rec_ N 39 st25 (nI m) r26) := by
    unfold f_X12_factor_130
    simp (disch := omega) only [show f_X12_among N sB 39 10 = some (zPM sB 39 5 (nI (p + 1)), nI m) from m4, n_m1, show zB (nI 0) from by decide, t39 hs, ↓zb, Option.bind_some, if_neg, if_pos, zTg_PM, List.mem_singleton, zM_PM, n_eq0, and_self, if_true, if_false, id]
  have r1 : RM sB (zPM (zPM sB 39 5 (nI (p + 1))) 39 7 (nI 0)) := (RM.rf.pm (by omega) _).pm (by omega) _
  rw [fm1]
  generalize zPM (zPM sB 39 5 (nI (p + 1))) 39 7 (nI 0) = s1 at *
  have g17 := g1.2.2.2.2.2.2.1
  have g15 := g1.2.2.2.2.2.1
  have g18 := g1.2.2.2.2.2.2.2
  have hs1 := g1.1.1
  rcases place_among g1 (a := 5) (by omega) hN with ⟨i, i1, i2, i3, i4⟩ | ⟨i3, i4⟩
  rotate_left
  · obtain ⟨s', q1, q2, q3⟩ := f169_bad (s := s1) (n := p + 1) hs1 (by omega) g15 hN rec_ (nI m) (-1)
    refine ⟨sA, s', ng (p + 1), ?_, ?_, RA.rf, (r1.tr q2).rb, Or.inr ⟨p + 1, sz, f, rfl, q3, hC⟩⟩
    · unfold f_X6_test
      simp (disch := omega) only [hA.tg5, ↓bs e1, ↓bs m3, ↓bs e2, ↓bs i3, ↓bs (stuck_p (p := p + 1) (by omega)), show (0 ≤ (-1 : Int32)) = False by decide, ↓reduceIte, List.mem_singleton, Option.bind_some, if_true, if_false, zM_PM, zLn_PM, zTg_PM, zR_PM, ↓zb, ↓zo, ↓zl, n_lt0, n_le, n_lt, n_eq, n_eq0, n_gt0, n_le0, n_ge0, n_zin, n_nat, nI_add, and_self, true_or, false_or, or_false, if_pos, if_neg, f_in_nI, Nat.reduceAdd]
    · unfold f_X12_factor_150 f_X12_factor_164
      simp (disch := omega) only [show f_X12_among N s1 39 11 = some (s1, -1) from i4, g17, q1, t39 hs1, ↓reduceIte, List.mem_singleton, Option.bind_some, if_true, if_false, zM_PM, zLn_PM, zTg_PM, zR_PM, ↓zb, ↓zo, ↓zl, n_lt0, n_le, n_lt, n_eq, n_eq0, n_gt0, n_le0, n_ge0, n_zin, n_nat, nI_add, and_self, true_or, false_or, or_false, if_pos, if_neg, f_in_nI, Nat.reduceAdd]
  have i1' : i < 3 := i1
  have g2 : Good (zPM (zPM s1 39 5 (nI (p + 1 + 1))) 39 7 (nI 0)) L t act (p + 2) op := g1.rm ((RM.rf.pm (by omega) _).pm (by omega) _) (by rw [zM_PM, if_neg (by omega), zM_PM, if_pos ⟨rfl, rfl⟩]) (by omega) (by rw [zM_PM, if_pos ⟨rfl, rfl⟩]) (by rw [zM_PM, if_neg (by omega), zM_PM, if_neg (by omega)]; exact g18) go
  have r2 : RM sB (zPM (zPM s1 39 5 (nI (p + 1 + 1))) 39 7 (nI 0)) := (r1.pm (by omega) _).pm (by omega) _
  have fm2 : zb (f_X12_among N s1 39 11) (fun st25 r26 => f_X12_factor_150 rec_ N 39 st25 (nI m) r26) = zb (f_X12_figures N (zPM (zPM s1 39 5 (nI (p + 1 + 1))) 39 7 (nI 0)) 39) (fun st30 r31 => if zTg st30 39 ∈ [22] then Option.bind (f_X12_emits st30 39 ((nI m + (nI 8) * nI i) + ((nI 32) * r31))) (fun st34 => some st34) else none) := by
    unfold f_X12_factor_150 f_X12_factor_169
    simp (disch := omega) only [show f_X12_among N s1 39 11 = some (zPM s1 39 5 (nI (p + 1 + 1)), nI i) from i4, n_m1, show zB (nI 0) from by decide, t39 hs1, ↓zb, Option.bind_some, if_neg, if_pos, zTg_PM, List.mem_singleton, zM_PM, n_eq0, g17, and_self, if_true, if_false, id]
  rw [fm2]
  generalize zPM (zPM s1 39 5 (nI (p + 1 + 1))) 39 7 (nI 0) = s2 at *
  obtain ⟨r', s3, v, p', d1, d2, d3, d4, d5, d6, d7⟩ := j_digits hA (Or.inl ⟨rfl, g2⟩) hN
  have hB3 : BC s3 act sz f := (hB.rm r2).rm d3
  rcases d6 with ⟨rfl, g3⟩ | ⟨n, rfl, bd⟩
  · have gp3 := g3.2.2.1
    have d8 := d7 (nI_pos' (by omega)) sA hA
    obtain ⟨sA', sz', f', y1, y2, y3, y4⟩ := x_put hC (m * 300 + i * 100 + v)
    obtain ⟨rfl, rfl⟩ := y4 (by omega)
    obtain ⟨s4, w1, w2, w3, w4⟩ := m_emit g3 hB3 (by omega) (m * 300 + i * 100 + v)
    rw [← stp_test (by omega) (by omega) d4] at w1
    refine ⟨sA', s4, nI p', ?_, ?_, y2, (r2.tr d3).rb.tr w2, Or.inl ⟨p', sz + 1, _, rfl, w3, y3, w4, by omega, by omega, by omega, fun j hj => updN_lt _ _ _ _ hj, fun d hd hf => by rw [depN_put _ hf]; exact dep_push (by omega) (by omega)⟩⟩
    · unfold f_X6_test
      simp (disch := omega) only [hA.tg5, ↓bs e1, ↓bs m3, ↓bs e2, ↓bs i3, nI_add, ↓bs d1, ↓bs d8, n_mul, ho, ↓bs y1, ↓reduceIte, List.mem_singleton, Option.bind_some, if_true, if_false, zM_PM, zLn_PM, zTg_PM, zR_PM, ↓zb, ↓zo, ↓zl, n_lt0, n_le, n_lt, n_eq, n_eq0, n_gt0, n_le0, n_ge0, n_zin, n_nat, nI_add, and_self, true_or, false_or, or_false, if_pos, if_neg, f_in_nI, Nat.reduceAdd]
    · simp (disch := omega) only [d2, ↓zb, Option.bind_some, t39 g3.1.1, ↓bs w1, List.mem_singleton, if_true]
  · have hbn := bd.2.1
    refine ⟨sA, s3, ng n, ?_, ?_, RA.rf, (r2.tr d3).rb, Or.inr ⟨n, sz, f, rfl, bd, hC⟩⟩
    · unfold f_X6_test
      simp (disch := omega) only [hA.tg5, ↓bs e1, ↓bs m3, ↓bs e2, ↓bs i3, nI_add, ↓bs d1, ng_neg (n := n) (by omega), ↓reduceIte, List.mem_singleton, Option.bind_some, if_true, if_false, zM_PM, zLn_PM, zTg_PM, zR_PM, ↓zb, ↓zo, ↓zl, n_lt0, n_le, n_lt, n_eq, n_eq0, n_gt0, n_le0, n_ge0, n_zin, n_nat, nI_add, and_self, true_or, false_or, or_false, if_pos, if_neg, f_in_nI, Nat.reduceAdd]
    · simp (disch := omega) only [d2, ↓zb, Option.bind_some, t39 bd.1, ↓bs (m_emit_bad bd _), List.mem_singleton, if_true]
