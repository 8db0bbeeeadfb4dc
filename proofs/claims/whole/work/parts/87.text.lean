/-! the text of a school, on both sides -/
def tx (L : Nat) (t : Nat → Nat) (i : Nat) : Int32 := if i < L then nI (t i) else -1
def ng (n : Nat) : Int32 := -1 - nI n
theorem ng_eq (n : Nat) : ng n = nI 0 - nI (n + 1) := by
  unfold ng
  rw [← nI_1, nI_0]
  grind
theorem ng_neg {n : Nat} (h : n < 1000) : ng n < 0 := by rw [ng_eq]; exact pk_sneg (by omega) (by omega)
theorem ng_ng (n : Nat) : (-1 : Int32) - ng n = nI n := by unfold ng; grind
def TpA (s : zS) (L : Nat) (t : Nat → Nat) : Prop := Sh s ∧ L ≤ 100 ∧ (∀ i, i < L → t i < 128) ∧ zM s 5 1 = nI L ∧ ∀ i, i < L → zM s 6 i = nI (t i)
def TpB (s : zS) (L : Nat) (t : Nat → Nat) : Prop := Sh s ∧ L ≤ 100 ∧ (∀ i, i < L → t i < 128) ∧ zM s 39 6 = nI L ∧ ∀ i, i < L → zM s 40 (128 + i) = nI (t i)
theorem TpA.get {s : zS} {L : Nat} {t : Nat → Nat} (h : TpA s L t) {i : Nat} (hi : i < 2147483648) : f_X5_get s 5 (nI i) = some (tx L t i) := by
  obtain ⟨hs, h1, h2, h3, h4⟩ := h
  rw [f_get (ns5 hs) h3 h1 (by omega) hi]
  unfold tx
  by_cases q : i < L
  · rw [if_pos q, if_pos q, h4 i q]
  · rw [if_neg q, if_neg q]
theorem TpA.tg5 {s : zS} {L : Nat} {t : Nat → Nat} (h : TpA s L t) : zTg s 5 = 15 := t5 h.1
theorem TpB.here {s : zS} {L : Nat} {t : Nat → Nat} (h : TpB s L t) {p : Nat} (hp : zM s 39 5 = nI p) (hi : p ≤ L) : f_X12_here s 39 = some (tx L t p) := by
  obtain ⟨hs, h1, h2, h3, h4⟩ := h
  unfold f_X12_here tx
  by_cases q : p < L
  · have e := h4 p q
    simp (disch := omega) only [hp, h3, e, q, ↓reduceIte, List.mem_singleton, Option.bind_some, if_true, if_false, zM_PM, zLn_PM, zTg_PM, zR_PM, ↓zb, ↓zo, ↓zl, n_lt0, n_le, n_lt, n_eq, n_eq0, n_gt0, n_le0, n_ge0, n_zin, n_nat, nI_add, and_self, true_or, false_or, or_false, if_pos, if_neg, f_in_nI, Nat.reduceAdd, t39 hs, ↓bs (r39_1 hs), t40 hs, l40 hs]
  · simp (disch := omega) only [hp, h3, q, ↓reduceIte, List.mem_singleton, Option.bind_some, if_true, if_false, zM_PM, zLn_PM, zTg_PM, zR_PM, ↓zb, ↓zo, ↓zl, n_lt0, n_le, n_lt, n_eq, n_eq0, n_gt0, n_le0, n_ge0, n_zin, n_nat, nI_add, and_self, true_or, false_or, or_false, if_pos, if_neg, f_in_nI, Nat.reduceAdd, t39 hs, ↓bs (r39_1 hs), t40 hs, l40 hs]
theorem tx_eq {L : Nat} {t : Nat → Nat} {p x : Nat} (h : tx L t p = nI x) (hx : x < 2147483648) (ht : ∀ i, i < L → t i < 128) : p < L ∧ t p = x := by
  unfold tx at h
  by_cases q : p < L
  · rw [if_pos q, n_eq (by have := ht p q; omega) hx] at h
    exact ⟨q, h⟩
  · rw [if_neg q] at h
    exact absurd h (by rw [n_m1' hx]; exact id)
theorem stuck_p {p : Nat} (hp : p < 1000) : f_X6_stuck (nI p) = some (ng p) := by
  unfold f_X6_stuck ng
  rw [if_pos (nI_pos' (by omega))]
theorem stuck_n {n : Nat} (hn : n < 1000) : f_X6_stuck (ng n) = some (ng n) := by
  unfold f_X6_stuck
  rw [if_neg (by rw [m_0le (ng_neg hn)]; exact id)]
/-- the reference's own reading: its place and whether it is wrong, nothing else -/
def RM (s s' : zS) : Prop := s'.1 = s.1 ∧ s'.2.1 = s.2.1 ∧ s'.2.2.2 = s.2.2.2 ∧ ∀ k j, ¬ (k = 39 ∧ (j = 5 ∨ j = 7 ∨ j = 8)) → zM s' k j = zM s k j
theorem RM.rf {s : zS} : RM s s := ⟨rfl, rfl, rfl, fun _ _ _ => rfl⟩
theorem RM.tr {a b c : zS} (h : RM a b) (g : RM b c) : RM a c := ⟨g.1.trans h.1, g.2.1.trans h.2.1, g.2.2.1.trans h.2.2.1, fun k j q => (g.2.2.2 k j q).trans (h.2.2.2 k j q)⟩
theorem RM.pm {a b : zS} (h : RM a b) {j : Nat} (hj : j = 5 ∨ j = 7 ∨ j = 8) (x : Int32) : RM a (zPM b 39 j x) := h.tr ⟨rfl, rfl, rfl, fun k j' q => by rw [zM_PM, if_neg (by omega)]⟩
theorem RM.sh {a b : zS} (h : RM a b) (hs : Sh a) : Sh b := hs.cc ⟨h.1, h.2.1, h.2.2.1⟩
theorem RM.tp {a b : zS} (h : RM a b) {L : Nat} {t : Nat → Nat} (g : TpB a L t) : TpB b L t := ⟨h.sh g.1, g.2.1, g.2.2.1, (h.2.2.2 _ _ (by omega)).trans g.2.2.2.1, fun i hi => (h.2.2.2 _ _ (by omega)).trans (g.2.2.2.2 i hi)⟩
def Good (s : zS) (L : Nat) (t : Nat → Nat) (act p op : Nat) : Prop := TpB s L t ∧ act < 5 ∧ p ≤ L ∧ op ≤ 6 ∧ zM s 39 4 = nI act ∧ zM s 39 5 = nI p ∧ zM s 39 7 = nI 0 ∧ zM s 39 8 = nI op
def Bad (s : zS) (n : Nat) : Prop := Sh s ∧ n ≤ 100 ∧ zM s 39 5 = nI n ∧ zM s 39 7 = nI 1
def PS (r : Int32) (s : zS) (L : Nat) (t : Nat → Nat) (act p op : Nat) : Prop := (r = nI p ∧ Good s L t act p op) ∨ ∃ n, r = ng n ∧ Bad s n
theorem Good.rm {a b : zS} {L : Nat} {t : Nat → Nat} {act p op p' op' : Nat} (g : Good a L t act p op) (h : RM a b) (h5 : zM b 39 5 = nI p') (hp : p' ≤ L) (h7 : zM b 39 7 = nI 0) (h8 : zM b 39 8 = nI op') (ho : op' ≤ 6) : Good b L t act p' op' := ⟨h.tp g.1, g.2.1, hp, ho, (h.2.2.2 _ _ (by omega)).trans g.2.2.2.2.1, h5, h7, h8⟩
theorem Good.b {s : zS} {L : Nat} {t : Nat → Nat} {act p op : Nat} (g : Good s L t act p op) : L ≤ 100 ∧ p ≤ L ∧ p ≤ 100 := ⟨g.1.2.1, g.2.2.1, by have := g.1.2.1; have := g.2.2.1; omega⟩
theorem must_bad {s : zS} {n : Nat} (h : Bad s n) (x : Int32) : ∃ s', f_X12_must s 39 x = some s' ∧ RM s s' ∧ Bad s' n := by
  obtain ⟨hs, h1, h5, h7⟩ := h
  refine ⟨zPM (zPM s 39 7 (nI 1)) 39 5 (nI n), ?_, (RM.rf.pm (by omega) _).pm (by omega) _, (hs.pm _ _ _).pm _ _ _, h1, ?_, ?_⟩
  · unfold f_X12_must f_X12_must_16 f_X12_must_21
    simp (disch := omega) only [h7, h5, show zB (nI 1) from by decide, Nat.add_zero, ↓reduceIte, List.mem_singleton, Option.bind_some, if_true, if_false, zM_PM, zLn_PM, zTg_PM, zR_PM, ↓zb, ↓zo, ↓zl, n_lt0, n_le, n_lt, n_eq, n_eq0, n_gt0, n_le0, n_ge0, n_zin, n_nat, nI_add, and_self, true_or, false_or, or_false, if_pos, if_neg, f_in_nI, Nat.reduceAdd, t39 hs]
  · simp (disch := omega) only [zM_PM, if_pos, if_neg, and_self, if_true]
  · simp (disch := omega) only [zM_PM, if_pos, if_neg, and_self, if_true]
theorem j_expect {sA sB : zS} {L : Nat} {t : Nat → Nat} {act p op : Nat} {r : Int32} (hA : TpA sA L t) (h : PS r sB L t act p op) {x : Nat} (hx : x < 128) : ∃ r' sB', f_X6_expect sA 5 r (nI x) = some r' ∧ f_X12_must sB 39 (nI x) = some sB' ∧ RM sB sB' ∧ PS r' sB' L t act (p + 1) op := by
  rcases h with ⟨rfl, g⟩ | ⟨n, rfl, g⟩
  · obtain ⟨b1, b2, b3⟩ := g.b
    obtain ⟨gt, ga, gp, go, g4, g5, g7, g8⟩ := id g
    have hs := gt.1
    have e1 := hA.get (i := p) (by omega)
    have e2 := gt.here g5 gp
    by_cases q : tx L t p = nI x
    · obtain ⟨q1, q2⟩ := tx_eq q (by omega) gt.2.2.1
      refine ⟨nI (p + 1), zPM (zPM sB 39 7 (nI 0)) 39 5 (nI (p + 1)), ?_, ?_, (RM.rf.pm (by omega) _).pm (by omega) _, Or.inl ⟨rfl, g.rm ((RM.rf.pm (by omega) _).pm (by omega) _) ?_ (by omega) ?_ ?_ go⟩⟩
      · unfold f_X6_expect
        simp (disch := omega) only [↓bs e1, q, hA.tg5, ↓reduceIte, List.mem_singleton, Option.bind_some, if_true, if_false, zM_PM, zLn_PM, zTg_PM, zR_PM, ↓zb, ↓zo, ↓zl, n_lt0, n_le, n_lt, n_eq, n_eq0, n_gt0, n_le0, n_ge0, n_zin, n_nat, nI_add, and_self, true_or, false_or, or_false, if_pos, if_neg, f_in_nI, Nat.reduceAdd]
      · unfold f_X12_must f_X12_must_21
        simp (disch := omega) only [↓bs e2, q, g7, g5, show zB (nI 0) from by decide, ↓reduceIte, List.mem_singleton, Option.bind_some, if_true, if_false, zM_PM, zLn_PM, zTg_PM, zR_PM, ↓zb, ↓zo, ↓zl, n_lt0, n_le, n_lt, n_eq, n_eq0, n_gt0, n_le0, n_ge0, n_zin, n_nat, nI_add, and_self, true_or, false_or, or_false, if_pos, if_neg, f_in_nI, Nat.reduceAdd, t39 hs]
      · simp (disch := omega) only [zM_PM, if_pos, if_neg, and_self, if_true]
      · simp (disch := omega) only [zM_PM, if_pos, if_neg, and_self, if_true]
      · simp (disch := omega) only [zM_PM, if_pos, if_neg, and_self, if_true]; exact g8
    · refine ⟨ng p, zPM (zPM sB 39 7 (nI 1)) 39 5 (nI p), ?_, ?_, (RM.rf.pm (by omega) _).pm (by omega) _, Or.inr ⟨p, rfl, (hs.pm _ _ _).pm _ _ _, b3, ?_, ?_⟩⟩
      · unfold f_X6_expect f_X6_expect_19
        simp (disch := omega) only [↓bs e1, q, hA.tg5, ↓bs (stuck_p (p := p) (by omega)), ↓reduceIte, List.mem_singleton, Option.bind_some, if_true, if_false, zM_PM, zLn_PM, zTg_PM, zR_PM, ↓zb, ↓zo, ↓zl, n_lt0, n_le, n_lt, n_eq, n_eq0, n_gt0, n_le0, n_ge0, n_zin, n_nat, nI_add, and_self, true_or, false_or, or_false, if_pos, if_neg, f_in_nI, Nat.reduceAdd]
      · unfold f_X12_must f_X12_must_16 f_X12_must_21
        simp (disch := omega) only [↓bs e2, q, g7, g5, show zB (nI 1) from by decide, Nat.add_zero, ↓reduceIte, List.mem_singleton, Option.bind_some, if_true, if_false, zM_PM, zLn_PM, zTg_PM, zR_PM, ↓zb, ↓zo, ↓zl, n_lt0, n_le, n_lt, n_eq, n_eq0, n_gt0, n_le0, n_ge0, n_zin, n_nat, nI_add, and_self, true_or, false_or, or_false, if_pos, if_neg, f_in_nI, Nat.reduceAdd, t39 hs]
      · simp (disch := omega) only [zM_PM, if_pos, if_neg, and_self, if_true]
      · simp (disch := omega) only [zM_PM, if_pos, if_neg, and_self, if_true]
  · have h1 := g.2.1
    obtain ⟨s', e, m, b⟩ := must_bad g (nI x)
    refine ⟨ng n, s', ?_, e, m, Or.inr ⟨n, rfl, b⟩⟩
    unfold f_X6_expect f_X6_expect_19
    simp (disch := omega) only [ng_neg (n := n) (by omega), ↓bs (stuck_n (n := n) (by omega)), ↓reduceIte, List.mem_singleton, Option.bind_some, if_true, if_false, zM_PM, zLn_PM, zTg_PM, zR_PM, ↓zb, ↓zo, ↓zl, n_lt0, n_le, n_lt, n_eq, n_eq0, n_gt0, n_le0, n_ge0, n_zin, n_nat, nI_add, and_self, true_or, false_or, or_false, if_pos, if_neg, f_in_nI, Nat.reduceAdd]
/-- the words -/
def zch (a i : Nat) : Nat := ((zsb a).getD i 0).toNatClampNeg
theorem ch_at : ∀ a, a < 12 → ∀ i, i < zsl a → f_J0_charAt_5068e a (nI i) = some (nI (zch a i)) ∧ zch a i < 128 := by decide +kernel
theorem ch_len : ∀ a, a < 12 → f_J0_length_8abf5 a = some (nI (zsl a)) ∧ zsl a ≤ 6 := by decide +kernel
theorem ch_two : ∀ a, a < 6 → zsl (a + 6) = zsl a ∧ ∀ i, i < zsl a → zch (a + 6) i = zch a i := by decide +kernel
theorem j_words {sA : zS} {L : Nat} {t : Nat → Nat} {act op a : Nat} (hA : TpA sA L t) (ha : a < 6) (r0 : Int32) (N : Nat) : ∀ k i f1 f2 p r sB, i + k = zsl a → k < f1 → k < f2 → PS r sB L t act p op → ∃ r' sB', f_X6_words_5 N sA 5 r0 a f1 r (nI i) = some r' ∧ f_X12_spells_2 N 39 (a + 6) f2 sB (nI i) = some sB' ∧ RM sB sB' ∧ PS r' sB' L t act (p + k) op := by
  have l1 := ch_len a (by omega)
  have l2 := ch_len (a + 6) (by omega)
  obtain ⟨l3, l4⟩ := ch_two a ha
  have z1 : a < zsN := Nat.lt_of_lt_of_le ha (by decide)
  have z2 : a + 6 < zsN := Nat.lt_of_lt_of_le (show a + 6 < 12 by omega) (by decide)
  have l2b := l2.2
  have l1b := l1.2
  rw [l3] at l2
  intro k
  induction k with
  | zero =>
    intro i f1 f2 p r sB h1 h2 h3 h
    obtain ⟨f1, rfl⟩ : ∃ m, f1 = m + 1 := ⟨f1 - 1, by omega⟩
    obtain ⟨f2, rfl⟩ : ∃ m, f2 = m + 1 := ⟨f2 - 1, by omega⟩
    have hi : i = zsl a := by omega
    refine ⟨r, sB, ?_, ?_, RM.rf, h⟩
    · rw [f_X6_words_5]
      simp (disch := omega) only [z1, ↓bs l1.1, hi, ↓reduceIte, List.mem_singleton, Option.bind_some, if_true, if_false, zM_PM, zLn_PM, zTg_PM, zR_PM, ↓zb, ↓zo, ↓zl, n_lt0, n_le, n_lt, n_eq, n_eq0, n_gt0, n_le0, n_ge0, n_zin, n_nat, nI_add, and_self, true_or, false_or, or_false, if_pos, if_neg, f_in_nI, Nat.reduceAdd]
    · rw [f_X12_spells_2]
      simp (disch := omega) only [z2, ↓bs l2.1, hi, ↓reduceIte, List.mem_singleton, Option.bind_some, if_true, if_false, zM_PM, zLn_PM, zTg_PM, zR_PM, ↓zb, ↓zo, ↓zl, n_lt0, n_le, n_lt, n_eq, n_eq0, n_gt0, n_le0, n_ge0, n_zin, n_nat, nI_add, and_self, true_or, false_or, or_false, if_pos, if_neg, f_in_nI, Nat.reduceAdd]
  | succ k ih =>
    intro i f1 f2 p r sB h1 h2 h3 h
    obtain ⟨f1, rfl⟩ : ∃ m, f1 = m + 1 := ⟨f1 - 1, by omega⟩
    obtain ⟨f2, rfl⟩ : ∃ m, f2 = m + 1 := ⟨f2 - 1, by omega⟩
    have c1 := ch_at a (by omega) i (by omega)
    have c2 := ch_at (a + 6) (by omega) i (by omega)
    rw [l4 i (by omega)] at c2
    obtain ⟨r1, s1, e1, e2, m1, p1⟩ := j_expect hA h c1.2
    obtain ⟨r2, s2, e3, e4, m2, p2⟩ := ih (i + 1) f1 f2 (p + 1) r1 s1 (by omega) (by omega) (by omega) p1
    have hsB : Sh sB := by
      rcases h with ⟨-, g⟩ | ⟨n, -, g⟩
      · exact g.1.1
      · exact g.1
    refine ⟨r2, s2, ?_, ?_, m1.tr m2, by rw [show p + (k + 1) = p + 1 + k by omega]; exact p2⟩
    · rw [f_X6_words_5]
      simp (disch := omega) only [z1, ↓bs l1.1, ↓bs c1.1, ↓bs e1, e3, ↓reduceIte, List.mem_singleton, Option.bind_some, if_true, if_false, zM_PM, zLn_PM, zTg_PM, zR_PM, ↓zb, ↓zo, ↓zl, n_lt0, n_le, n_lt, n_eq, n_eq0, n_gt0, n_le0, n_ge0, n_zin, n_nat, nI_add, and_self, true_or, false_or, or_false, if_pos, if_neg, f_in_nI, Nat.reduceAdd]
    · rw [f_X12_spells_2]
      simp (disch := omega) only [z2, ↓bs l2.1, ↓bs c2.1, ↓bs e2, e4, t39 hsB, ↓reduceIte, List.mem_singleton, Option.bind_some, if_true, if_false, zM_PM, zLn_PM, zTg_PM, zR_PM, ↓zb, ↓zo, ↓zl, n_lt0, n_le, n_lt, n_eq, n_eq0, n_gt0, n_le0, n_ge0, n_zin, n_nat, nI_add, and_self, true_or, false_or, or_false, if_pos, if_neg, f_in_nI, Nat.reduceAdd]
theorem words_spells {sA sB : zS} {L : Nat} {t : Nat → Nat} {act op a p : Nat} {r : Int32} (hA : TpA sA L t) (ha : a < 6) {N : Nat} (hN : 3000 ≤ N) (h : PS r sB L t act p op) : ∃ r' sB', f_X6_words N sA 5 r a = some r' ∧ f_X12_spells N sB 39 (a + 6) = some sB' ∧ RM sB sB' ∧ PS r' sB' L t act (p + zsl a) op := by
  have l1 := (ch_len a (by omega)).2
  exact j_words hA ha r N (zsl a) 0 N N p r sB (by omega) (by omega) (by omega) h
