/-! how likely nothing is seen, with lines tried -/
theorem PlM.mt {a b : zS} {P : Nat} {pl : Nat → Nat} (h : MT a b) (g : PlM a P pl) : PlM b P pl := ⟨by rw [h.2.2.2 _ _ (by omega) (by omega)]; exact g.1, fun i hi => by rw [h.2.2.2 _ _ (by omega) (by omega)]; exact g.2 i hi⟩
theorem Eff.mt {st a b : zS} {tried way : Int32} {e : Nat → Int32} (h : MT a b) (g : Eff st a tried way e) : Eff st b tried way e := ⟨g.1, fun p hp => by rw [h.2.2.2 _ _ (by omega) (by omega)]; exact g.2.1 p hp, g.2.2.1, g.2.2.2⟩
theorem seen_loop {st : zS} (h : Inv st) {N : Nat} (hN : 3000 ≤ N) {P : Nat} {pl : Nat → Nat} (hP : P ≤ 5) (hpl : ∀ i, i < P → pl i < 40) (kc : f_X2_placeCount st 1 = some (nI P)) (ka : ∀ i, i < P → f_X2_placeAt st 1 (nI i) = some (nI (pl i))) {tried way : Int32} {e : Nat → Int32} : ∀ kk f1 f2 i A sM, i + kk = P → kk < f1 → kk < f2 → MX st sM → Eff st sM tried way e → PlM sM P pl → ∃ U sM', U ≤ A * 100 ^ kk ∧ f_X2_unseenIf_33 N st 1 tried way f1 (lN A) (nI i) = some (lN U) ∧ f_X12_safeWays_19 N 39 f2 sM (lN A) (nI i) = some (sM', lN U) ∧ MT sM sM' := by
  intro kk
  have hs := h.1
  induction kk with
  | zero =>
    intro f1 f2 i A sM h1 h2 h3 hm he hg
    obtain ⟨f1, rfl⟩ : ∃ m, f1 = m + 1 := ⟨f1 - 1, by omega⟩
    obtain ⟨f2, rfl⟩ : ∃ m, f2 = m + 1 := ⟨f2 - 1, by omega⟩
    have hi : i = P := by omega
    subst hi
    have hsM := hm.sh hs
    have g1 := hg.1
    clear he hg hpl ka
    refine ⟨A, sM, by simp, ?_, ?_, MT.rf⟩
    · rw [f_X2_unseenIf_33]
      simp (disch := omega) only [↓bs kc, ↓reduceIte, List.mem_singleton, Option.bind_some, if_true, if_false, zM_PM, zLn_PM, zTg_PM, zR_PM, ↓zb, ↓zo, ↓zl, n_lt0, n_le, n_lt, n_eq, n_eq0, n_gt0, n_le0, n_ge0, n_zin, n_nat, nI_add, and_self, true_or, false_or, or_false, if_pos, if_neg, f_in_nI, Nat.reduceAdd, t1 hs]
    · rw [f_X12_safeWays_19]
      simp (disch := omega) only [g1, ↓reduceIte, List.mem_singleton, Option.bind_some, if_true, if_false, zM_PM, zLn_PM, zTg_PM, zR_PM, ↓zb, ↓zo, ↓zl, n_lt0, n_le, n_lt, n_eq, n_eq0, n_gt0, n_le0, n_ge0, n_zin, n_nat, nI_add, and_self, true_or, false_or, or_false, if_pos, if_neg, f_in_nI, Nat.reduceAdd, t39 hsM]
  | succ kk ih =>
    intro f1 f2 i A sM h1 h2 h3 hm he hg
    obtain ⟨f1, rfl⟩ : ∃ m, f1 = m + 1 := ⟨f1 - 1, by omega⟩
    obtain ⟨f2, rfl⟩ : ∃ m, f2 = m + 1 := ⟨f2 - 1, by omega⟩
    have hsM := hm.sh hs
    obtain ⟨y, s1, y1, y2, y3, y4⟩ := sign_full h hN hm he (hpl i (by omega))
    obtain ⟨U, s2, u1, u2, u3, u4⟩ := ih f1 f2 (i + 1) (A * (100 - y)) s1 (by omega) (by omega) (by omega) (hm.ms y4.ms) (he.mt y4) (hg.mt y4)
    have a1 := ka i (by omega)
    have g1 := hg.1
    have g2 := hg.2 i (by omega)
    clear ih he hg hpl ka
    refine ⟨U, s2, ?_, ?_, ?_, y4.tr u4⟩
    · refine Nat.le_trans u1 ?_
      rw [Nat.pow_succ, Nat.mul_comm (100 ^ kk) 100, ← Nat.mul_assoc]
      exact Nat.mul_le_mul_right _ (Nat.mul_le_mul_left _ (by omega))
    · rw [f_X2_unseenIf_33]
      simp (disch := omega) only [↓bs kc, ↓bs a1, ↓bs y2, pk_sub, nI_l, lN_mul, ↓reduceIte, List.mem_singleton, Option.bind_some, if_true, if_false, zM_PM, zLn_PM, zTg_PM, zR_PM, ↓zb, ↓zo, ↓zl, n_lt0, n_le, n_lt, n_eq, n_eq0, n_gt0, n_le0, n_ge0, n_zin, n_nat, nI_add, and_self, true_or, false_or, or_false, if_pos, if_neg, f_in_nI, Nat.reduceAdd, t1 hs]
      exact u2
    · rw [f_X12_safeWays_19]
      simp (disch := omega) only [g1, g2, y3, pk_sub, nI_l, lN_mul, ↓reduceIte, List.mem_singleton, Option.bind_some, if_true, if_false, zM_PM, zLn_PM, zTg_PM, zR_PM, ↓zb, ↓zo, ↓zl, n_lt0, n_le, n_lt, n_eq, n_eq0, n_gt0, n_le0, n_ge0, n_zin, n_nat, nI_add, and_self, true_or, false_or, or_false, if_pos, if_neg, f_in_nI, Nat.reduceAdd, t39 hsM, ↓bs (r39_11 hsM), t44 hsM, l44 hsM]
      exact u3
theorem x_written {st : zS} (h : Inv st) {tried way : Int32} {e : Nat → Int32} (he : ∀ p, p < 40 → f_X2_numberIf st 1 (nI p) tried way = some (e p)) (N : Nat) : ∀ kk f1 i, i + kk = K st 40 8 → kk < f1 → f_X2_writtenIf_5 N st 1 tried way f1 (nI (i - cntU e (-1) i)) (nI i) = some (nI (K st 40 8 - cntU e (-1) (K st 40 8))) := by
  intro kk
  have hs := h.1
  obtain ⟨⟨p1, p2⟩, p3, -⟩ := h.2.1.2.2.2.2.2.1
  induction kk with
  | zero =>
    intro f1 i h1 h2
    obtain ⟨f1, rfl⟩ : ∃ m, f1 = m + 1 := ⟨f1 - 1, by omega⟩
    have hi : i = K st 40 8 := by omega
    subst hi
    have hc := cntU_le e (-1) (K st 40 8)
    clear he
    rw [f_X2_writtenIf_5]
    simp (disch := omega) only [p3, p1, ↓bs (f_size (ns7 hs)), ↓reduceIte, List.mem_singleton, Option.bind_some, if_true, if_false, zM_PM, zLn_PM, zTg_PM, zR_PM, ↓zb, ↓zo, ↓zl, n_lt0, n_le, n_lt, n_eq, n_eq0, n_gt0, n_le0, n_ge0, n_zin, n_nat, nI_add, and_self, true_or, false_or, or_false, if_pos, if_neg, f_in_nI, Nat.reduceAdd, t1 hs, ↓bs (r1_5 hs), t7 hs]
  | succ kk ih =>
    intro f1 i h1 h2
    obtain ⟨f1, rfl⟩ : ∃ m, f1 = m + 1 := ⟨f1 - 1, by omega⟩
    have e2 := ih f1 (i + 1) (by omega) (by omega)
    have e1 := he i (by omega)
    have hc := cntU_le e (-1) i
    clear ih he
    rw [f_X2_writtenIf_5]
    unfold f_X2_writtenIf_32
    by_cases q : e i = -1
    · have e3 : cntU e (-1) (i + 1) = cntU e (-1) i + 1 := by
        show _ + (if e i = -1 then 1 else 0) = _; rw [if_pos q]
      rw [e3, show i + 1 - (cntU e (-1) i + 1) = i - cntU e (-1) i by omega] at e2
      simp (disch := omega) only [p3, p1, ↓bs (f_size (ns7 hs)), ↓bs e1, q, ↓reduceIte, List.mem_singleton, Option.bind_some, if_true, if_false, zM_PM, zLn_PM, zTg_PM, zR_PM, ↓zb, ↓zo, ↓zl, n_lt0, n_le, n_lt, n_eq, n_eq0, n_gt0, n_le0, n_ge0, n_zin, n_nat, nI_add, and_self, true_or, false_or, or_false, if_pos, if_neg, f_in_nI, Nat.reduceAdd, t1 hs, ↓bs (r1_5 hs), t7 hs]
      exact e2
    · have e3 : cntU e (-1) (i + 1) = cntU e (-1) i := by
        show _ + (if e i = -1 then 1 else 0) = _; rw [if_neg q]; rfl
      rw [e3, show i + 1 - cntU e (-1) i = i - cntU e (-1) i + 1 by omega] at e2
      simp (disch := omega) only [p3, p1, ↓bs (f_size (ns7 hs)), ↓bs e1, q, ↓reduceIte, List.mem_singleton, Option.bind_some, if_true, if_false, zM_PM, zLn_PM, zTg_PM, zR_PM, ↓zb, ↓zo, ↓zl, n_lt0, n_le, n_lt, n_eq, n_eq0, n_gt0, n_le0, n_ge0, n_zin, n_nat, nI_add, and_self, true_or, false_or, or_false, if_pos, if_neg, f_in_nI, Nat.reduceAdd, t1 hs, ↓bs (r1_5 hs), t7 hs]
      exact e2
theorem unseen_full {st : zS} (h : Inv st) {N : Nat} (hN : 3000 ≤ N) {P : Nat} {pl : Nat → Nat} (hP : P ≤ 5) (hpl : ∀ i, i < P → pl i < 40) (kc : f_X2_placeCount st 1 = some (nI P)) (ka : ∀ i, i < P → f_X2_placeAt st 1 (nI i) = some (nI (pl i))) (km : ∀ sM, MX st sM → ∃ st3, f_X12_looksForPlaces N sM 39 = some st3 ∧ MS sM st3 ∧ PlM st3 P pl) {tried way : Int32} {e : Nat → Int32} {sM : zS} (hm : MX st sM) (he : Eff st sM tried way e) : ∃ U sM', U ≤ 100 ^ P ∧ f_X2_unseenIf N st 1 tried way = some (lN U) ∧ f_X12_safeWays N sM 39 = some (sM', lN U) ∧ MS sM sM' ∧ PlM sM' P pl := by
  have hs := h.1
  have hsM := hm.sh hs
  obtain ⟨hd, want, look, cnt, w1, w2, w3, w4, w5, w6, w7, w8, w9, w10, w11, w12, w13, w14⟩ := want_eq h
  obtain ⟨⟨p1, p2⟩, p3, -⟩ := h.2.1.2.2.2.2.2.1
  obtain ⟨s3, k1, k2, k3⟩ := km sM hm
  have hm3 := hm.ms k2
  have hs3 := hm3.sh hs
  have e8 : zM s3 40 8 = nI (K st 40 8) := (hm3.b (by omega)).trans p1
  have he3 : Eff st s3 tried way e := ⟨he.1, fun p hp => (k2.mB (Or.inl rfl)).trans (he.2.1 p hp), he.2.2.1, he.2.2.2⟩
  have c1 := hm3.count h
  rw [w14] at c1
  have wn := (hm3.want h).trans w11
  have hc := cntU_le e (-1) (K st 40 8)
  have ms1 : f_X12_missing N s3 39 = some (nI (cntU e (-1) (K st 40 8))) := by
    have := m_missing4 hs3 e8 p2 N (K st 40 8) N 0 (by omega) (by omega)
    rw [cntU_congr (g' := e) (-1) (K st 40 8) (fun i hi => he3.2.1 i hi)] at this
    exact this
  have wr : f_X2_writtenIf N st 1 tried way = some (nI (K st 40 8 - cntU e (-1) (K st 40 8))) := x_written h he.1 N (K st 40 8) N 0 (by omega) (by omega)
  by_cases hsh : cnt ≠ 0 ∧ K st 40 8 - cntU e (-1) (K st 40 8) < want
  · obtain ⟨U, s4, u1, -, u3, u4⟩ := seen_loop h hN hP hpl kc ka P N N 0 0 s3 (by omega) (by omega) (by omega) hm3 he3 k3
    have hU : U = 0 := by rw [Nat.zero_mul] at u1; omega
    subst hU
    refine ⟨0, s4, Nat.zero_le _, ?_, ?_, k2.tr u4.ms, k3.mt u4⟩
    · clear he he3 hpl ka km u3 k3
      unfold f_X2_unseenIf
      simp (disch := omega) only [↓bs w1, w2, w3, w5, hsh.1, hsh.2, ↓bs wr, ↓reduceIte, List.mem_singleton, Option.bind_some, if_true, if_false, zM_PM, zLn_PM, zTg_PM, zR_PM, ↓zb, ↓zo, ↓zl, n_lt0, n_le, n_lt, n_eq, n_eq0, n_gt0, n_le0, n_ge0, n_zin, n_nat, nI_add, and_self, true_or, false_or, or_false, if_pos, if_neg, f_in_nI, Nat.reduceAdd, t1 hs]
    · have sh : f_X12_isShort N s3 39 = some (nI 1) := by
        rw [if_neg hsh.1] at c1
        clear he he3 hpl ka km u3 k3
        unfold f_X12_isShort
        simp (disch := omega) only [↓bs c1, ↓bs ms1, ↓bs wn, e8, pk_sub, ↓reduceIte, List.mem_singleton, Option.bind_some, if_true, if_false, zM_PM, zLn_PM, zTg_PM, zR_PM, ↓zb, ↓zo, ↓zl, n_lt0, n_le, n_lt, n_eq, n_eq0, n_gt0, n_le0, n_ge0, n_zin, n_nat, nI_add, and_self, true_or, false_or, or_false, if_pos, if_neg, f_in_nI, Nat.reduceAdd, t39 hs3, ↓bs (r39_1 hs3), t40 hs3, l40 hs3]
      clear he he3 hpl ka km k3
      unfold f_X12_safeWays f_X12_safeWays_16
      simp (disch := omega) only [↓bs k1, ↓bs sh, ↓reduceIte, List.mem_singleton, Option.bind_some, if_true, if_false, zM_PM, zLn_PM, zTg_PM, zR_PM, ↓zb, ↓zo, ↓zl, n_lt0, n_le, n_lt, n_eq, n_eq0, n_gt0, n_le0, n_ge0, n_zin, n_nat, nI_add, and_self, true_or, false_or, or_false, if_pos, if_neg, f_in_nI, Nat.reduceAdd, t39 hsM, t39 hs3]
      exact u3
  · obtain ⟨U, s4, u1, u2, u3, u4⟩ := seen_loop h hN hP hpl kc ka P N N 0 1 s3 (by omega) (by omega) (by omega) hm3 he3 k3
    refine ⟨U, s4, by rw [Nat.one_mul] at u1; exact u1, ?_, ?_, k2.tr u4.ms, k3.mt u4⟩
    · clear he he3 hpl ka km u3 k3
      unfold f_X2_unseenIf f_X2_unseenIf_28
      by_cases hz : cnt = 0
      · simp (disch := omega) only [↓bs w1, w2, w3, w5, hz, ↓reduceIte, List.mem_singleton, Option.bind_some, if_true, if_false, zM_PM, zLn_PM, zTg_PM, zR_PM, ↓zb, ↓zo, ↓zl, n_lt0, n_le, n_lt, n_eq, n_eq0, n_gt0, n_le0, n_ge0, n_zin, n_nat, nI_add, and_self, true_or, false_or, or_false, if_pos, if_neg, f_in_nI, Nat.reduceAdd, t1 hs]
        exact u2
      · simp (disch := omega) only [↓bs w1, w2, w3, w5, hz, ↓bs wr, ↓reduceIte, List.mem_singleton, Option.bind_some, if_true, if_false, zM_PM, zLn_PM, zTg_PM, zR_PM, ↓zb, ↓zo, ↓zl, n_lt0, n_le, n_lt, n_eq, n_eq0, n_gt0, n_le0, n_ge0, n_zin, n_nat, nI_add, and_self, true_or, false_or, or_false, if_pos, if_neg, f_in_nI, Nat.reduceAdd, t1 hs]
        exact u2
    · have sh : f_X12_isShort N s3 39 = some (nI 0) := by
        clear he he3 hpl ka km u3 k3
        unfold f_X12_isShort
        by_cases hz : cnt = 0
        · rw [if_pos hz] at c1
          simp (disch := omega) only [↓bs c1, ↓reduceIte, List.mem_singleton, Option.bind_some, if_true, if_false, zM_PM, zLn_PM, zTg_PM, zR_PM, ↓zb, ↓zo, ↓zl, n_lt0, n_le, n_lt, n_eq, n_eq0, n_gt0, n_le0, n_ge0, n_zin, n_nat, nI_add, and_self, true_or, false_or, or_false, if_pos, if_neg, f_in_nI, Nat.reduceAdd, t39 hs3, ↓bs (r39_1 hs3), t40 hs3, l40 hs3]
        · rw [if_neg hz] at c1
          simp (disch := omega) only [↓bs c1, ↓bs ms1, ↓bs wn, e8, pk_sub, ↓reduceIte, List.mem_singleton, Option.bind_some, if_true, if_false, zM_PM, zLn_PM, zTg_PM, zR_PM, ↓zb, ↓zo, ↓zl, n_lt0, n_le, n_lt, n_eq, n_eq0, n_gt0, n_le0, n_ge0, n_zin, n_nat, nI_add, and_self, true_or, false_or, or_false, if_pos, if_neg, f_in_nI, Nat.reduceAdd, t39 hs3, ↓bs (r39_1 hs3), t40 hs3, l40 hs3]
      clear he he3 hpl ka km k3
      unfold f_X12_safeWays f_X12_safeWays_16
      simp (disch := omega) only [↓bs k1, ↓bs sh, ↓reduceIte, List.mem_singleton, Option.bind_some, if_true, if_false, zM_PM, zLn_PM, zTg_PM, zR_PM, ↓zb, ↓zo, ↓zl, n_lt0, n_le, n_lt, n_eq, n_eq0, n_gt0, n_le0, n_ge0, n_zin, n_nat, nI_add, and_self, true_or, false_or, or_false, if_pos, if_neg, f_in_nI, Nat.reduceAdd, t39 hsM, t39 hs3]
      exact u3
theorem x_hund (N : Nat) (P : Nat) (hP : P ≤ 9) : ∀ kk f1 i, i + kk = P → kk < f1 → f_X11_hundreds_4 N (nI P) f1 (lN (100 ^ i)) (nI i) = some (lN (100 ^ P)) := by
  intro kk
  induction kk with
  | zero =>
    intro f1 i h1 h2
    obtain ⟨f1, rfl⟩ : ∃ m, f1 = m + 1 := ⟨f1 - 1, by omega⟩
    have hi : i = P := by omega
    subst hi
    rw [f_X11_hundreds_4]
    simp (disch := omega) only [↓reduceIte, List.mem_singleton, Option.bind_some, if_true, if_false, zM_PM, zLn_PM, zTg_PM, zR_PM, ↓zb, ↓zo, ↓zl, n_lt0, n_le, n_lt, n_eq, n_eq0, n_gt0, n_le0, n_ge0, n_zin, n_nat, nI_add, and_self, true_or, false_or, or_false, if_pos, if_neg, f_in_nI, Nat.reduceAdd]
  | succ kk ih =>
    intro f1 i h1 h2
    obtain ⟨f1, rfl⟩ : ∃ m, f1 = m + 1 := ⟨f1 - 1, by omega⟩
    have e2 := ih f1 (i + 1) (by omega) (by omega)
    rw [Nat.pow_succ] at e2
    rw [f_X11_hundreds_4]
    simp (disch := omega) only [lN_mul, ↓zl, ↓reduceIte, List.mem_singleton, Option.bind_some, if_true, if_false, zM_PM, zLn_PM, zTg_PM, zR_PM, ↓zb, ↓zo, ↓zl, n_lt0, n_le, n_lt, n_eq, n_eq0, n_gt0, n_le0, n_ge0, n_zin, n_nat, nI_add, and_self, true_or, false_or, or_false, if_pos, if_neg, f_in_nI, Nat.reduceAdd]
    exact e2
theorem m_all {st : zS} (hs : Sh st) (N : Nat) {P : Nat} (hP : P ≤ 5) (h12 : zM st 39 12 = nI P) : ∀ kk f1 i, i + kk = P → kk < f1 → f_X12_allWays_4 N st 39 f1 (lN (100 ^ i)) (nI i) = some (lN (100 ^ P)) := by
  intro kk
  induction kk with
  | zero =>
    intro f1 i h1 h2
    obtain ⟨f1, rfl⟩ : ∃ m, f1 = m + 1 := ⟨f1 - 1, by omega⟩
    have hi : i = P := by omega
    subst hi
    rw [f_X12_allWays_4]
    simp (disch := omega) only [h12, ↓reduceIte, List.mem_singleton, Option.bind_some, if_true, if_false, zM_PM, zLn_PM, zTg_PM, zR_PM, ↓zb, ↓zo, ↓zl, n_lt0, n_le, n_lt, n_eq, n_eq0, n_gt0, n_le0, n_ge0, n_zin, n_nat, nI_add, and_self, true_or, false_or, or_false, if_pos, if_neg, f_in_nI, Nat.reduceAdd, t39 hs]
  | succ kk ih =>
    intro f1 i h1 h2
    obtain ⟨f1, rfl⟩ : ∃ m, f1 = m + 1 := ⟨f1 - 1, by omega⟩
    have e2 := ih f1 (i + 1) (by omega) (by omega)
    rw [Nat.pow_succ] at e2
    rw [f_X12_allWays_4]
    simp (disch := omega) only [h12, lN_mul, ↓zl, ↓reduceIte, List.mem_singleton, Option.bind_some, if_true, if_false, zM_PM, zLn_PM, zTg_PM, zR_PM, ↓zb, ↓zo, ↓zl, n_lt0, n_le, n_lt, n_eq, n_eq0, n_gt0, n_le0, n_ge0, n_zin, n_nat, nI_add, and_self, true_or, false_or, or_false, if_pos, if_neg, f_in_nI, Nat.reduceAdd, t39 hs]
    exact e2
theorem pow_le9 {P : Nat} (h : P ≤ 9) : 0 < 100 ^ P ∧ 100 ^ P ≤ 1000000000000000000 := ⟨Nat.pow_pos (by omega), Nat.le_trans (Nat.pow_le_pow_right (by omega) h) (by decide)⟩
theorem pow_le5 {P : Nat} (h : P ≤ 5) : 0 < 100 ^ P ∧ 100 ^ P ≤ 10000000000 := ⟨Nat.pow_pos (by omega), Nat.le_trans (Nat.pow_le_pow_right (by omega) h) (by decide)⟩
/-- what safe, again and twice begin with -/
theorem unseen_now {st : zS} (h : Inv st) {N : Nat} (hN : 3000 ≤ N) : ∃ (P U : Nat) (sM : zS), 1 ≤ P ∧ P ≤ 5 ∧ U ≤ 100 ^ P ∧ f_X2_placeCount st 1 = some (nI P) ∧ f_X2_unseenNow N st 1 = some (lN U) ∧ f_X11_hundreds N (nI P) = some (lN (100 ^ P)) ∧ f_X12_safeWays N st 39 = some (sM, lN U) ∧ MS st sM ∧ f_X12_allWays N sM 39 = some (lN (100 ^ P)) := by
  obtain ⟨P, pl, a1, a2, a3, a4, a5, a6, a7, a8⟩ := places_x h hN
  obtain ⟨U, sM, u1, u2, u3, u4, u5⟩ := unseen_full h hN a2 a3 a6 a7 a8 (MX.of MS.rf) (eff_now h MS.rf)
  refine ⟨P, U, sM, a1, a2, u1, a6, ?_, x_hund N P (by omega) P N 0 (by omega) (by omega), u3, u4, m_all (u4.sh h.1) N a2 u5.1 P N 0 (by omega) (by omega)⟩
  unfold f_X2_unseenNow
  simp only [u2, t1 h.1, List.mem_singleton, ↓reduceIte, Option.bind_some]
theorem s_safe {st : zS} (h : Inv st) {N : Nat} (hN : 3000 ≤ N) (a1 : Int32) : ∃ (r : Int64) (st1 st2 : zS), (f_X11_safe N st 0 a1 = some r ∧ st1 = st) ∧ (f_X12_safe N st1 39 a1 = some (st2, r)) ∧ Sh st1 ∧ Inv st2 := by
  have hs := h.1
  obtain ⟨P, U, sM, b1, b2, b3, b4, b5, b6, b7, b8, b9⟩ := unseen_now h hN
  have hp := pow_le5 b2
  have hsM := b8.sh hs
  have g2 := (f_isPt (a := a1)).2
  unfold f_X11_safe f_X12_safe
  by_cases hpt : a1 = 0 ∨ a1 = nI 1
  · rw [if_pos hpt] at g2
    obtain ⟨r, r1, r2⟩ := low_eq hN (up := lN U) (u := U) (Or.inl rfl) (by omega) (by omega : 100 ^ P < 2 ^ 63) hp.1 hpt
    refine ⟨r, st, sM, ⟨?_, rfl⟩, ?_, hs, b8.inv h⟩
    · simp (disch := omega) only [↓bs b4, ↓bs b5, ↓bs b6, ↓bs r1, ↓reduceIte, List.mem_singleton, Option.bind_some, if_true, if_false, zM_PM, zLn_PM, zTg_PM, zR_PM, ↓zb, ↓zo, ↓zl, n_lt0, n_le, n_lt, n_eq, n_eq0, n_gt0, n_le0, n_ge0, n_zin, n_nat, nI_add, and_self, true_or, false_or, or_false, if_pos, if_neg, f_in_nI, Nat.reduceAdd, t0 hs, ↓bs (r0_0 hs), t1 hs]
    · simp (disch := omega) only [↓bs g2, b7, ↓bs b9, ↓bs r2, ↓reduceIte, List.mem_singleton, Option.bind_some, if_true, if_false, zM_PM, zLn_PM, zTg_PM, zR_PM, ↓zb, ↓zo, ↓zl, n_lt0, n_le, n_lt, n_eq, n_eq0, n_gt0, n_le0, n_ge0, n_zin, n_nat, nI_add, and_self, true_or, false_or, or_false, if_pos, if_neg, f_in_nI, Nat.reduceAdd, t39 hs, t39 hsM]
  · rw [if_neg hpt] at g2
    refine ⟨-9223372036854775808, st, st, ⟨?_, rfl⟩, ?_, hs, h⟩
    · simp (disch := omega) only [↓bs b4, ↓bs b5, ↓bs b6, ↓bs (low_no (N := N) (up := lN U) (low := lN (100 ^ P)) hpt), ↓reduceIte, List.mem_singleton, Option.bind_some, if_true, if_false, zM_PM, zLn_PM, zTg_PM, zR_PM, ↓zb, ↓zo, ↓zl, n_lt0, n_le, n_lt, n_eq, n_eq0, n_gt0, n_le0, n_ge0, n_zin, n_nat, nI_add, and_self, true_or, false_or, or_false, if_pos, if_neg, f_in_nI, Nat.reduceAdd, t0 hs, ↓bs (r0_0 hs), t1 hs]
    · simp (disch := omega) only [↓bs g2, ↓reduceIte, List.mem_singleton, Option.bind_some, if_true, if_false, zM_PM, zLn_PM, zTg_PM, zR_PM, ↓zb, ↓zo, ↓zl, n_lt0, n_le, n_lt, n_eq, n_eq0, n_gt0, n_le0, n_ge0, n_zin, n_nat, nI_add, and_self, true_or, false_or, or_false, if_pos, if_neg, f_in_nI, Nat.reduceAdd, t39 hs]
theorem s_again {st : zS} (h : Inv st) {N : Nat} (hN : 3000 ≤ N) (a1 : Int32) : ∃ (r : Int64) (st1 st2 : zS), (f_X11_again N st 0 a1 = some r ∧ st1 = st) ∧ (f_X12_again N st1 39 a1 = some (st2, r)) ∧ Sh st1 ∧ Inv st2 := by
  have hs := h.1
  obtain ⟨P, U, sM, b1, b2, b3, b4, b5, b6, b7, b8, b9⟩ := unseen_now h hN
  obtain ⟨hd, want, look, cnt, w1, w2, w3, w4, w5, w6, w7, w8, w9, w10, w11, w12, w13, w14⟩ := want_eq h
  have hp := pow_le5 b2
  have hsM := b8.sh hs
  have wn := (b8.want hs).trans w11
  have g2 := (f_isPt (a := a1)).2
  have e1 : (lN (2 * 100 ^ P) - lN U) = lN (2 * 100 ^ P - U) := by rw [lN_sub (by omega)]
  have hb : want * (2 * 100 ^ P - U) ≤ 40 * 20000000000 := Nat.mul_le_mul w7 (by omega)
  unfold f_X11_again f_X12_again
  by_cases hpt : a1 = 0 ∨ a1 = nI 1
  · rw [if_pos hpt] at g2
    obtain ⟨r, r1, r2⟩ := low_eq hN (up := lN (want * (2 * 100 ^ P - U))) (u := want * (2 * 100 ^ P - U)) (Or.inl rfl) (by omega) (by omega : 100 ^ P < 2 ^ 63) hp.1 hpt
    refine ⟨r, st, sM, ⟨?_, rfl⟩, ?_, hs, b8.inv h⟩
    · simp (disch := omega) only [↓bs b4, ↓bs b5, ↓bs b6, ↓bs w1, w2, w3, nI_l, e1, lN_mul, ↓bs r1, ↓reduceIte, List.mem_singleton, Option.bind_some, if_true, if_false, zM_PM, zLn_PM, zTg_PM, zR_PM, ↓zb, ↓zo, ↓zl, n_lt0, n_le, n_lt, n_eq, n_eq0, n_gt0, n_le0, n_ge0, n_zin, n_nat, nI_add, and_self, true_or, false_or, or_false, if_pos, if_neg, f_in_nI, Nat.reduceAdd, t0 hs, ↓bs (r0_0 hs), t1 hs]
    · simp (disch := omega) only [↓bs g2, b7, ↓bs b9, ↓bs wn, nI_l, e1, lN_mul, ↓bs r2, ↓reduceIte, List.mem_singleton, Option.bind_some, if_true, if_false, zM_PM, zLn_PM, zTg_PM, zR_PM, ↓zb, ↓zo, ↓zl, n_lt0, n_le, n_lt, n_eq, n_eq0, n_gt0, n_le0, n_ge0, n_zin, n_nat, nI_add, and_self, true_or, false_or, or_false, if_pos, if_neg, f_in_nI, Nat.reduceAdd, t39 hs, t39 hsM]
  · rw [if_neg hpt] at g2
    refine ⟨-9223372036854775808, st, st, ⟨?_, rfl⟩, ?_, hs, h⟩
    · simp (disch := omega) only [↓bs b4, ↓bs b5, ↓bs b6, ↓bs w1, w2, w3, nI_l, e1, lN_mul, ↓bs (low_no (N := N) (up := lN (want * (2 * 100 ^ P - U))) (low := lN (100 ^ P)) hpt), ↓reduceIte, List.mem_singleton, Option.bind_some, if_true, if_false, zM_PM, zLn_PM, zTg_PM, zR_PM, ↓zb, ↓zo, ↓zl, n_lt0, n_le, n_lt, n_eq, n_eq0, n_gt0, n_le0, n_ge0, n_zin, n_nat, nI_add, and_self, true_or, false_or, or_false, if_pos, if_neg, f_in_nI, Nat.reduceAdd, t0 hs, ↓bs (r0_0 hs), t1 hs]
    · simp (disch := omega) only [↓bs g2, ↓reduceIte, List.mem_singleton, Option.bind_some, if_true, if_false, zM_PM, zLn_PM, zTg_PM, zR_PM, ↓zb, ↓zo, ↓zl, n_lt0, n_le, n_lt, n_eq, n_eq0, n_gt0, n_le0, n_ge0, n_zin, n_nat, nI_add, and_self, true_or, false_or, or_false, if_pos, if_neg, f_in_nI, Nat.reduceAdd, t39 hs]
