/-! rests -/
def wR (S : Nat → Nat) (n r g : Nat) : Nat := (n - n / g * g) * S (n / g + 1) + (g - (n - n / g * g)) * S (n / g) + (g - 1) * r
theorem wR_le {S : Nat → Nat} (hS : ∀ q, q ≤ 41 → S q ≤ 4000) {n r g : Nat} (hn : n ≤ 40) (hr : r ≤ 99) (hg : 1 ≤ g) (hgn : g ≤ n) : wR S n r g ≤ 400000 ∧ n / g ≤ 40 ∧ n / g * g ≤ n ∧ n - n / g * g ≤ g := by
  have q1 : n / g ≤ n := Nat.div_le_self n g
  have q2 : n / g * g ≤ n := Nat.div_mul_le_self n g
  have q3 : n - n / g * g ≤ g := by
    have e := Nat.mod_add_div n g
    rw [Nat.mul_comm] at e
    have := Nat.mod_lt n (show g > 0 by omega)
    omega
  refine ⟨?_, by omega, q2, q3⟩
  have s1 := hS (n / g) (by omega)
  have s2 := hS (n / g + 1) (by omega)
  have b1 : (n - n / g * g) * S (n / g + 1) ≤ 40 * 4000 := Nat.mul_le_mul (by omega) s2
  have b2 : (g - (n - n / g * g)) * S (n / g) ≤ 40 * 4000 := Nat.mul_le_mul (by omega) s1
  have b3 : (g - 1) * r ≤ 40 * 99 := Nat.mul_le_mul (by omega) hr
  unfold wR
  omega
theorem x_with {st : zS} (hs : Sh st) {w : Nat} {S : Nat → Nat} (hS : ∀ q, q ≤ 41 → S q ≤ 4000 ∧ f_X2_secondsOf st 1 (nI w) (nI q) = some (nI (S q))) {n r g : Nat} (hn : n ≤ 40) (hr : r ≤ 99) (hg : 1 ≤ g) (hgn : g ≤ n) : f_X11_withRests st 0 (nI w) (nI n) (nI r) (nI g) = some (nI (wR S n r g)) := by
  obtain ⟨-, b1, b2, b3⟩ := wR_le (fun q hq => (hS q hq).1) hn hr hg hgn
  have e1 := (hS (n / g) (by omega)).2
  have e2 := (hS (n / g + 1) (by omega)).2
  have e3 : nI n / nI g = nI (n / g) := pk_div (by omega) (by omega) (by omega)
  clear hS
  unfold f_X11_withRests wR
  generalize n / g = q at *
  simp (disch := omega) only [e3, pk_mul, pk_sub, ↓bs e1, ↓bs e2, ↓reduceIte, List.mem_singleton, Option.bind_some, if_true, if_false, zM_PM, zLn_PM, zTg_PM, zR_PM, ↓zb, ↓zo, ↓zl, n_lt0, n_le, n_lt, n_eq, n_eq0, n_gt0, n_le0, n_ge0, n_zin, n_nat, nI_add, and_self, true_or, false_or, or_false, if_pos, if_neg, f_in_nI, Nat.reduceAdd, t0 hs, ↓bs (r0_0 hs), t1 hs, show (g = 0) = False from eq_false (by omega), not_false_eq_true]
theorem rests_step {st : zS} (hs : Sh st) {N w : Nat} {S : Nat → Nat} (hS : ∀ q, q ≤ 41 → S q ≤ 4000 ∧ f_X12_secondsOf N st 39 (nI w) (nI q) = some (nI (S q))) {n r g : Nat} (hn : n ≤ 40) (hr : r ≤ 99) (hg : 1 ≤ g) (hgn : g ≤ n) (a4 : Int32) (m : Nat) (x5 : Int32) {l : Nat} (hl : l ≤ 1000000) : f_X12_rests_53 N st 39 (nI w) (nI n) (nI r) a4 (m + 1) x5 (nI l) (nI g) = if l ≤ wR S n r g then f_X12_rests_53 N st 39 (nI w) (nI n) (nI r) a4 m x5 (nI l) (nI (g + 1)) else f_X12_rests_53 N st 39 (nI w) (nI n) (nI r) a4 m (nI g) (nI (wR S n r g)) (nI (g + 1)) := by
  obtain ⟨b0, b1, b2, b3⟩ := wR_le (fun q hq => (hS q hq).1) hn hr hg hgn
  have e1 := (hS (n / g) (by omega)).2
  have e2 := (hS (n / g + 1) (by omega)).2
  have e3 : nI n / nI g = nI (n / g) := pk_div (by omega) (by omega) (by omega)
  clear hS
  rw [f_X12_rests_53]
  unfold f_X12_rests_118 f_X12_rests_134
  have e4 : (n - n / g * g) * S (n / g + 1) + (g - (n - n / g * g)) * S (n / g) + (g - 1) * r = wR S n r g := rfl
  generalize n / g = q at *
  by_cases hq : l ≤ wR S n r g <;>
    simp (disch := omega) only [hq, e4, e3, pk_mul, pk_sub, ↓bs e1, ↓bs e2, ↓reduceIte, List.mem_singleton, Option.bind_some, if_true, if_false, zM_PM, zLn_PM, zTg_PM, zR_PM, ↓zb, ↓zo, ↓zl, n_lt0, n_le, n_lt, n_eq, n_eq0, n_gt0, n_le0, n_ge0, n_zin, n_nat, nI_add, and_self, true_or, false_or, or_false, if_pos, if_neg, f_in_nI, Nat.reduceAdd, t39 hs, show (g = 0) = False from eq_false (by omega), not_false_eq_true]
theorem rests_loop {st : zS} (hs : Sh st) {N w : Nat} {S : Nat → Nat} (hX : ∀ q, q ≤ 41 → S q ≤ 4000 ∧ f_X2_secondsOf st 1 (nI w) (nI q) = some (nI (S q))) (hM : ∀ q, q ≤ 41 → S q ≤ 4000 ∧ f_X12_secondsOf N st 39 (nI w) (nI q) = some (nI (S q))) {n r : Nat} (hn : n ≤ 40) (hr : r ≤ 99) {a4 : Int32} (ha : a4 = 0 ∨ a4 = nI 1) : ∀ k f1 f2 i best, i + k = n + 1 → k < f1 → k < f2 → 1 ≤ i → 1 ≤ best → best ≤ n → ∃ y, f_X11_rests_47 N st 0 (nI w) (nI n) (nI r) a4 f1 (nI best) (nI i) = some y ∧ f_X12_rests_53 N st 39 (nI w) (nI n) (nI r) a4 f2 (nI best) (nI (wR S n r best)) (nI i) = some y := by
  intro k
  induction k with
  | zero =>
    intro f1 f2 i best h1 h2 h3 h4 h5 h6
    obtain ⟨f1, rfl⟩ : ∃ m, f1 = m + 1 := ⟨f1 - 1, by omega⟩
    obtain ⟨f2, rfl⟩ : ∃ m, f2 = m + 1 := ⟨f2 - 1, by omega⟩
    have e := x_with hs hX hn hr h5 h6
    clear hX hM
    have hi : i = n + 1 := by omega
    subst hi
    unfold f_X11_rests_47 f_X12_rests_53
    rcases ha with rfl | rfl
    · refine ⟨nI best, ?_, ?_⟩ <;> simp (disch := omega) only [eq_self, ↓reduceIte, List.mem_singleton, Option.bind_some, if_true, if_false, zM_PM, zLn_PM, zTg_PM, zR_PM, ↓zb, ↓zo, ↓zl, n_lt0, n_le, n_lt, n_eq, n_eq0, n_gt0, n_le0, n_ge0, n_zin, n_nat, nI_add, and_self, true_or, false_or, or_false, if_pos, if_neg, f_in_nI, Nat.reduceAdd]
    · refine ⟨nI (wR S n r best), ?_, ?_⟩
      · simp (disch := omega) only [↓bs e, ↓reduceIte, List.mem_singleton, Option.bind_some, if_true, if_false, zM_PM, zLn_PM, zTg_PM, zR_PM, ↓zb, ↓zo, ↓zl, n_lt0, n_le, n_lt, n_eq, n_eq0, n_gt0, n_le0, n_ge0, n_zin, n_nat, nI_add, and_self, true_or, false_or, or_false, if_pos, if_neg, f_in_nI, Nat.reduceAdd, t0 hs]
      · simp (disch := omega) only [↓reduceIte, List.mem_singleton, Option.bind_some, if_true, if_false, zM_PM, zLn_PM, zTg_PM, zR_PM, ↓zb, ↓zo, ↓zl, n_lt0, n_le, n_lt, n_eq, n_eq0, n_gt0, n_le0, n_ge0, n_zin, n_nat, nI_add, and_self, true_or, false_or, or_false, if_pos, if_neg, f_in_nI, Nat.reduceAdd]
  | succ k ih =>
    intro f1 f2 i best h1 h2 h3 h4 h5 h6
    obtain ⟨f1, rfl⟩ : ∃ m, f1 = m + 1 := ⟨f1 - 1, by omega⟩
    obtain ⟨f2, rfl⟩ : ∃ m, f2 = m + 1 := ⟨f2 - 1, by omega⟩
    have e1 := x_with hs hX hn hr h5 h6
    have e2 := x_with hs hX hn hr h4 (show i ≤ n by omega)
    have b1 := (wR_le (fun q hq => (hX q hq).1) hn hr h5 h6).1
    have b2 := (wR_le (fun q hq => (hX q hq).1) hn hr h4 (show i ≤ n by omega)).1
    rw [rests_step hs hM hn hr h4 (by omega) a4 f2 (nI best) (by omega)]
    obtain ⟨y1, u1, u2⟩ := ih f1 f2 (i + 1) best (by omega) (by omega) (by omega) (by omega) h5 h6
    obtain ⟨y2, v1, v2⟩ := ih f1 f2 (i + 1) i (by omega) (by omega) (by omega) (by omega) h4 (by omega)
    clear ih hX hM
    rw [f_X11_rests_47]
    unfold f_X11_rests_78
    by_cases hq : wR S n r best ≤ wR S n r i
    · refine ⟨y1, ?_, ?_⟩
      · simp (disch := omega) only [hq, ↓bs e1, ↓bs e2, ↓reduceIte, List.mem_singleton, Option.bind_some, if_true, if_false, zM_PM, zLn_PM, zTg_PM, zR_PM, ↓zb, ↓zo, ↓zl, n_lt0, n_le, n_lt, n_eq, n_eq0, n_gt0, n_le0, n_ge0, n_zin, n_nat, nI_add, and_self, true_or, false_or, or_false, if_pos, if_neg, f_in_nI, Nat.reduceAdd, t0 hs]
        exact u1
      · rw [if_pos hq]; exact u2
    · refine ⟨y2, ?_, ?_⟩
      · simp (disch := omega) only [hq, ↓bs e1, ↓bs e2, ↓reduceIte, List.mem_singleton, Option.bind_some, if_true, if_false, zM_PM, zLn_PM, zTg_PM, zR_PM, ↓zb, ↓zo, ↓zl, n_lt0, n_le, n_lt, n_eq, n_eq0, n_gt0, n_le0, n_ge0, n_zin, n_nat, nI_add, and_self, true_or, false_or, or_false, if_pos, if_neg, f_in_nI, Nat.reduceAdd, t0 hs]
        exact v1
      · rw [if_neg hq]; exact v2
theorem s_rests {st : zS} (h : Inv st) {N : Nat} (hN : 3000 ≤ N) (a1 a2 a3 a4 : Int32) : ∃ (r : Int32) (st1 st2 : zS), (f_X11_rests N st 0 a1 a2 a3 a4 = some r ∧ st1 = st) ∧ (f_X12_rests N st1 39 a1 a2 a3 a4 = some r ∧ st2 = st1) ∧ Sh st1 ∧ Inv st2 := by
  have hs := h.1
  have h6 := h.2.1.1.1.2
  suffices q : ∃ r : Int32, f_X11_rests N st 0 a1 a2 a3 a4 = some r ∧ f_X12_rests N st 39 a1 a2 a3 a4 = some r by
    obtain ⟨r, q1, q2⟩ := q
    exact ⟨r, st, st, ⟨q1, rfl⟩, ⟨q2, rfl⟩, h.1, h⟩
  unfold f_X11_rests f_X12_rests
  rcases way_cases h a1 with ha | ⟨w, x, hw, rfl, hx, hL⟩
  · refine ⟨-1, ?_, ?_⟩
    · simp (disch := omega) only [↓bs (x_wayN h ha), ↓reduceIte, List.mem_singleton, Option.bind_some, if_true, if_false, zM_PM, zLn_PM, zTg_PM, zR_PM, ↓zb, ↓zo, ↓zl, n_lt0, n_le, n_lt, n_eq, n_eq0, n_gt0, n_le0, n_ge0, n_zin, n_nat, nI_add, and_self, true_or, false_or, or_false, if_pos, if_neg, f_in_nI, Nat.reduceAdd, t0 hs, ↓bs (r0_0 hs), t1 hs]
    · simp (disch := omega) only [↓bs (m_wayN h ha), ↓reduceIte, List.mem_singleton, Option.bind_some, if_true, if_false, zM_PM, zLn_PM, zTg_PM, zR_PM, ↓zb, ↓zo, ↓zl, n_lt0, n_le, n_lt, n_eq, n_eq0, n_gt0, n_le0, n_ge0, n_zin, n_nat, nI_add, and_self, true_or, false_or, or_false, if_pos, if_neg, f_in_nI, Nat.reduceAdd, t39 hs]
  clear hL
  obtain ⟨g1, g2⟩ := f_isPt (a := a4)
  by_cases hp : a4 = 0 ∨ a4 = nI 1
  · rw [if_pos hp] at g1 g2
    rcases f_isLen (a := a2) with ⟨n, n1, n2, rfl, l1, l2⟩ | ⟨l1, l2⟩
    · rcases i_neg a3 with z | ⟨r, hr, rfl⟩
      · refine ⟨-2, ?_, ?_⟩
        · simp (disch := omega) only [z, ↓bs (x_wayS h hw hx), ↓bs g1, ↓bs l1, ↓reduceIte, List.mem_singleton, Option.bind_some, if_true, if_false, zM_PM, zLn_PM, zTg_PM, zR_PM, ↓zb, ↓zo, ↓zl, n_lt0, n_le, n_lt, n_eq, n_eq0, n_gt0, n_le0, n_ge0, n_zin, n_nat, nI_add, and_self, true_or, false_or, or_false, if_pos, if_neg, f_in_nI, Nat.reduceAdd, t0 hs, ↓bs (r0_0 hs), t1 hs]
        · simp (disch := omega) only [↓bs (m_wayS h hw), ↓bs g2, ↓bs l2, f_in_neg z, ↓reduceIte, List.mem_singleton, Option.bind_some, if_true, if_false, zM_PM, zLn_PM, zTg_PM, zR_PM, ↓zb, ↓zo, ↓zl, n_lt0, n_le, n_lt, n_eq, n_eq0, n_gt0, n_le0, n_ge0, n_zin, n_nat, nI_add, and_self, true_or, false_or, or_false, if_pos, if_neg, f_in_nI, Nat.reduceAdd, t39 hs]
      · by_cases hr2 : r ≤ 99
        · obtain ⟨S, P, sp⟩ := sp_all h hN
          have hX : ∀ q, q ≤ 41 → S w q ≤ 4000 ∧ f_X2_secondsOf st 1 (nI w) (nI q) = some (nI (S w q)) := fun q hq => ⟨((sp w q hw).1 hq).1, ((sp w q hw).1 hq).2.1⟩
          have hM : ∀ q, q ≤ 41 → S w q ≤ 4000 ∧ f_X12_secondsOf N st 39 (nI w) (nI q) = some (nI (S w q)) := fun q hq => ⟨((sp w q hw).1 hq).1, ((sp w q hw).1 hq).2.2⟩
          obtain ⟨f2, hf2⟩ : ∃ m, N = m + 1 := ⟨N - 1, by omega⟩
          obtain ⟨y, y1, y2⟩ := rests_loop hs hX hM n2 hr2 hp (n - 1) N f2 2 1 (by omega) (by omega) (by omega) (by omega) (by omega) n1
          have b := (wR_le (fun q hq => (hX q hq).1) n2 hr2 (Nat.le_refl 1) n1).1
          have e : f_X12_rests_53 N st 39 (nI w) (nI n) (nI r) a4 N (nI 0) (nI 1000000) (nI 1) = some y := by
            have e0 : f_X12_rests_53 N st 39 (nI w) (nI n) (nI r) a4 N = f_X12_rests_53 N st 39 (nI w) (nI n) (nI r) a4 (f2 + 1) := by rw [← hf2]
            rw [e0, rests_step hs hM n2 hr2 (Nat.le_refl 1) n1 a4 f2 (nI 0) (by omega), if_neg (by omega)]
            exact y2
          clear sp hX hM
          refine ⟨y, ?_, ?_⟩
          · simp (disch := omega) only [↓bs (x_wayS h hw hx), ↓bs g1, ↓bs l1, ↓reduceIte, List.mem_singleton, Option.bind_some, if_true, if_false, zM_PM, zLn_PM, zTg_PM, zR_PM, ↓zb, ↓zo, ↓zl, n_lt0, n_le, n_lt, n_eq, n_eq0, n_gt0, n_le0, n_ge0, n_zin, n_nat, nI_add, and_self, true_or, false_or, or_false, if_pos, if_neg, f_in_nI, Nat.reduceAdd, t0 hs, ↓bs (r0_0 hs), t1 hs]
            exact y1
          · simp (disch := omega) only [↓bs (m_wayS h hw), ↓bs g2, ↓bs l2, ↓reduceIte, List.mem_singleton, Option.bind_some, if_true, if_false, zM_PM, zLn_PM, zTg_PM, zR_PM, ↓zb, ↓zo, ↓zl, n_lt0, n_le, n_lt, n_eq, n_eq0, n_gt0, n_le0, n_ge0, n_zin, n_nat, nI_add, and_self, true_or, false_or, or_false, if_pos, if_neg, f_in_nI, Nat.reduceAdd, t39 hs]
            exact e
        · refine ⟨-2, ?_, ?_⟩
          · simp (disch := omega) only [↓bs (x_wayS h hw hx), ↓bs g1, ↓bs l1, ↓reduceIte, List.mem_singleton, Option.bind_some, if_true, if_false, zM_PM, zLn_PM, zTg_PM, zR_PM, ↓zb, ↓zo, ↓zl, n_lt0, n_le, n_lt, n_eq, n_eq0, n_gt0, n_le0, n_ge0, n_zin, n_nat, nI_add, and_self, true_or, false_or, or_false, if_pos, if_neg, f_in_nI, Nat.reduceAdd, t0 hs, ↓bs (r0_0 hs), t1 hs]
          · simp (disch := omega) only [↓bs (m_wayS h hw), ↓bs g2, ↓bs l2, ↓reduceIte, List.mem_singleton, Option.bind_some, if_true, if_false, zM_PM, zLn_PM, zTg_PM, zR_PM, ↓zb, ↓zo, ↓zl, n_lt0, n_le, n_lt, n_eq, n_eq0, n_gt0, n_le0, n_ge0, n_zin, n_nat, nI_add, and_self, true_or, false_or, or_false, if_pos, if_neg, f_in_nI, Nat.reduceAdd, t39 hs]
    · refine ⟨-2, ?_, ?_⟩
      · simp (disch := omega) only [↓bs (x_wayS h hw hx), ↓bs g1, ↓bs l1, ↓reduceIte, List.mem_singleton, Option.bind_some, if_true, if_false, zM_PM, zLn_PM, zTg_PM, zR_PM, ↓zb, ↓zo, ↓zl, n_lt0, n_le, n_lt, n_eq, n_eq0, n_gt0, n_le0, n_ge0, n_zin, n_nat, nI_add, and_self, true_or, false_or, or_false, if_pos, if_neg, f_in_nI, Nat.reduceAdd, t0 hs, ↓bs (r0_0 hs), t1 hs]
      · simp (disch := omega) only [↓bs (m_wayS h hw), ↓bs g2, ↓bs l2, ↓reduceIte, List.mem_singleton, Option.bind_some, if_true, if_false, zM_PM, zLn_PM, zTg_PM, zR_PM, ↓zb, ↓zo, ↓zl, n_lt0, n_le, n_lt, n_eq, n_eq0, n_gt0, n_le0, n_ge0, n_zin, n_nat, nI_add, and_self, true_or, false_or, or_false, if_pos, if_neg, f_in_nI, Nat.reduceAdd, t39 hs]
  · rw [if_neg hp] at g1 g2
    refine ⟨-1, ?_, ?_⟩
    · simp (disch := omega) only [↓bs (x_wayS h hw hx), ↓bs g1, ↓reduceIte, List.mem_singleton, Option.bind_some, if_true, if_false, zM_PM, zLn_PM, zTg_PM, zR_PM, ↓zb, ↓zo, ↓zl, n_lt0, n_le, n_lt, n_eq, n_eq0, n_gt0, n_le0, n_ge0, n_zin, n_nat, nI_add, and_self, true_or, false_or, or_false, if_pos, if_neg, f_in_nI, Nat.reduceAdd, t0 hs, ↓bs (r0_0 hs), t1 hs]
    · simp (disch := omega) only [↓bs (m_wayS h hw), ↓bs g2, ↓reduceIte, List.mem_singleton, Option.bind_some, if_true, if_false, zM_PM, zLn_PM, zTg_PM, zR_PM, ↓zb, ↓zo, ↓zl, n_lt0, n_le, n_lt, n_eq, n_eq0, n_gt0, n_le0, n_ge0, n_zin, n_nat, nI_add, and_self, true_or, false_or, or_false, if_pos, if_neg, f_in_nI, Nat.reduceAdd, t39 hs]
