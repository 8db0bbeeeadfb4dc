/-! change -/
theorem sp_ms {st : zS} (h : Inv st) {N : Nat} (hN : 3000 ≤ N) {S P : Nat → Nat → Nat} (sp : ∀ w n, w < K st 40 0 → (n ≤ 41 → S w n ≤ 4000 ∧ f_X2_secondsOf st 1 (nI w) (nI n) = some (nI (S w n)) ∧ f_X12_secondsOf N st 39 (nI w) (nI n) = some (nI (S w n))) ∧ (n ≤ 40 → P w n ≤ 3000 ∧ f_X2_penceOf st 1 (nI w) (nI n) = some (nI (P w n)) ∧ f_X12_penceOf st 39 (nI w) (nI n) = some (nI (P w n))) ∧ (n = 0 → S w n = 0 ∧ P w n = 0)) {stM : zS} (hm : MS st stM) {w n : Nat} (hw : w < K st 40 0) (hn : n ≤ 40) : S w n ≤ 4000 ∧ P w n ≤ 3000 ∧ f_X2_secondsOf st 1 (nI w) (nI n) = some (nI (S w n)) ∧ f_X2_penceOf st 1 (nI w) (nI n) = some (nI (P w n)) ∧ f_X12_secondsOf N stM 39 (nI w) (nI n) = some (nI (S w n)) ∧ f_X12_penceOf stM 39 (nI w) (nI n) = some (nI (P w n)) := by
  have hs := h.1
  have h6 := h.2.1.1.1.2
  obtain ⟨s1, s2, s3⟩ := (sp w n hw).1 (by omega)
  obtain ⟨p1, p2, p3⟩ := (sp w n hw).2.1 hn
  have z := (sp w n hw).2.2
  clear sp
  refine ⟨s1, p1, s2, p2, ?_⟩
  by_cases h0 : n = 0
  · obtain ⟨z1, z2⟩ := z h0
    subst h0
    obtain ⟨y1, y2, y3, y4⟩ := zero_eq (hm.inv h) N (w := w) (by rw [hm.k (Or.inl rfl)]; exact hw)
    rw [z1, z2]
    exact ⟨y2, y4⟩
  · rcases way_cases h (nI w) with ha | ⟨w', x, hw', e, hx, hL⟩
    · rw [n_lt0 (by omega), n_le (by omega) (by omega)] at ha
      exact absurd (ha.resolve_left id) (by omega)
    rw [n_eq (by omega) (by omega)] at e
    subst e
    obtain ⟨u, -, u1, u2⟩ := sec_two hs (hm.sh hs) hN (by omega) (x_wayS h hw hx) hL (fun j _ _ => hm.mB (Or.inl rfl)) (by omega) hn
    obtain ⟨v, -, v1, v2⟩ := pen_two hs (hm.sh hs) (by omega) (x_wayS h hw hx) hL (fun j _ _ => hm.mB (Or.inl rfl)) (by omega) hn
    have e1 : some (nI (S w n)) = some (nI u) := s2.symm.trans u1
    have e2 : some (nI (P w n)) = some (nI v) := p2.symm.trans v1
    exact ⟨by rw [e1]; exact u2, by rw [e2]; exact v2⟩
def codeN (s k a b : Nat) : Nat := (s * 41 + k) * 6 * 6 + (a * 6 + b)
def RelC (st : zS) (M pos : Nat) : Prop := (M = 2147483647 ∧ zM st 39 13 = -5 ∧ zM st 39 14 = -5 ∧ zM st 39 15 = -5 ∧ zM st 39 16 = -5) ∨ ∃ s k a b : Nat, s ≤ 8000 ∧ k ≤ 40 ∧ a < 6 ∧ b < 6 ∧ M = codeN s k a b ∧ 36 * k + 6 * a + b < pos ∧ zM st 39 13 = nI s ∧ zM st 39 14 = nI a ∧ zM st 39 15 = nI k ∧ zM st 39 16 = nI b
theorem RelC.mono {st : zS} {M p q : Nat} (h : RelC st M p) (hq : p ≤ q) : RelC st M q := by
  rcases h with h | ⟨s, k, a, b, h1, h2, h3, h4, h5, h6, h7⟩
  · exact Or.inl h
  · exact Or.inr ⟨s, k, a, b, h1, h2, h3, h4, h5, by omega, h7⟩
theorem tries {st : zS} (h : Inv st) {stM : zS} (hm : MS st stM) {N n p k a b sa sb pa pb M : Nat} (hn : n ≤ 40) (hp : p ≤ 999) (hk : k ≤ n) (ha : a < 6) (hb : b < 6) (ba : sa ≤ 4000) (bb : sb ≤ 4000) (ca : pa ≤ 3000) (cb : pb ≤ 3000) (e1 : f_X12_secondsOf N stM 39 (nI a) (nI k) = some (nI sa)) (e2 : f_X12_secondsOf N stM 39 (nI b) (nI (n - k)) = some (nI sb)) (e3 : f_X12_penceOf stM 39 (nI a) (nI k) = some (nI pa)) (e4 : f_X12_penceOf stM 39 (nI b) (nI (n - k)) = some (nI pb)) (hR : RelC stM M (36 * k + 6 * a + b)) : ∃ stN, f_X12_triesChange N stM 39 (nI n) (nI p) (nI k) (nI a) (nI b) = some stN ∧ MS st stN ∧ RelC stN (if p < pa + pb then M else min M (codeN (sa + sb) k a b)) (36 * k + 6 * a + b + 1) := by
  have hs := hm.sh h.1
  unfold f_X12_triesChange f_X12_triesChange_58
  by_cases hq : p < pa + pb
  · refine ⟨stM, ?_, hm, by rw [if_pos hq]; exact hR.mono (by omega)⟩
    clear hR
    simp (disch := omega) only [hq, pk_sub, ↓bs e1, ↓bs e2, ↓bs e3, ↓bs e4, ↓reduceIte, List.mem_singleton, Option.bind_some, if_true, if_false, zM_PM, zLn_PM, zTg_PM, zR_PM, ↓zb, ↓zo, ↓zl, n_lt0, n_le, n_lt, n_eq, n_eq0, n_gt0, n_le0, n_ge0, n_zin, n_nat, nI_add, and_self, true_or, false_or, or_false, if_pos, if_neg, f_in_nI, Nat.reduceAdd, t39 hs]
  · rw [if_neg hq]
    have hmN : MS st (zPM (zPM (zPM (zPM stM 39 13 (nI (sa + sb))) 39 14 (nI a)) 39 15 (nI k)) 39 16 (nI b)) := (((hm.pm _ _ _ (by omega)).pm _ _ _ (by omega)).pm _ _ _ (by omega)).pm _ _ _ (by omega)
    have hRN : RelC (zPM (zPM (zPM (zPM stM 39 13 (nI (sa + sb))) 39 14 (nI a)) 39 15 (nI k)) 39 16 (nI b)) (codeN (sa + sb) k a b) (36 * k + 6 * a + b + 1) := Or.inr ⟨sa + sb, k, a, b, by omega, by omega, ha, hb, rfl, by omega, by simp (disch := omega) only [zM_PM, if_neg, if_pos, and_self, if_true], by simp (disch := omega) only [zM_PM, if_neg, if_pos, and_self, if_true], by simp (disch := omega) only [zM_PM, if_neg, if_pos, and_self, if_true], by simp (disch := omega) only [zM_PM, if_neg, if_pos, and_self, if_true]⟩
    rcases hR with ⟨r1, r2, r3⟩ | ⟨s, k', a', b', r1, r2, r3, r4, r5, r6, r7, r8, r9, r10⟩
    · refine ⟨_, ?_, hmN, by rw [Nat.min_eq_right (by unfold codeN; omega)]; exact hRN⟩
      simp (disch := omega) only [hq, r2, eq_self, pk_sub, ↓bs e1, ↓bs e2, ↓bs e3, ↓bs e4, ↓reduceIte, List.mem_singleton, Option.bind_some, if_true, if_false, zM_PM, zLn_PM, zTg_PM, zR_PM, ↓zb, ↓zo, ↓zl, n_lt0, n_le, n_lt, n_eq, n_eq0, n_gt0, n_le0, n_ge0, n_zin, n_nat, nI_add, and_self, true_or, false_or, or_false, if_pos, if_neg, f_in_nI, Nat.reduceAdd, t39 hs]
    · have e5 : (nI s = (-5 : Int32)) = False := eq_false (fun q => nI_pos (show s < 2147483648 by omega) (by rw [q]; decide))
      by_cases hc : s ≤ sa + sb
      · refine ⟨stM, ?_, hm, ?_⟩
        · simp (disch := omega) only [hq, hc, r7, e5, pk_sub, ↓bs e1, ↓bs e2, ↓bs e3, ↓bs e4, ↓reduceIte, List.mem_singleton, Option.bind_some, if_true, if_false, zM_PM, zLn_PM, zTg_PM, zR_PM, ↓zb, ↓zo, ↓zl, n_lt0, n_le, n_lt, n_eq, n_eq0, n_gt0, n_le0, n_ge0, n_zin, n_nat, nI_add, and_self, true_or, false_or, or_false, if_pos, if_neg, f_in_nI, Nat.reduceAdd, t39 hs]
        · rw [Nat.min_eq_left (by rw [r5]; unfold codeN; omega)]
          exact Or.inr ⟨s, k', a', b', r1, r2, r3, r4, r5, by omega, r7, r8, r9, r10⟩
      · refine ⟨_, ?_, hmN, by rw [Nat.min_eq_right (by rw [r5]; unfold codeN; omega)]; exact hRN⟩
        simp (disch := omega) only [hq, hc, r7, e5, pk_sub, ↓bs e1, ↓bs e2, ↓bs e3, ↓bs e4, ↓reduceIte, List.mem_singleton, Option.bind_some, if_true, if_false, zM_PM, zLn_PM, zTg_PM, zR_PM, ↓zb, ↓zo, ↓zl, n_lt0, n_le, n_lt, n_eq, n_eq0, n_gt0, n_le0, n_ge0, n_zin, n_nat, nI_add, and_self, true_or, false_or, or_false, if_pos, if_neg, f_in_nI, Nat.reduceAdd, t39 hs]
theorem ch_b {st : zS} (h : Inv st) {N : Nat} (hN : 3000 ≤ N) {S P : Nat → Nat → Nat} (sp : ∀ w n, w < K st 40 0 → (n ≤ 41 → S w n ≤ 4000 ∧ f_X2_secondsOf st 1 (nI w) (nI n) = some (nI (S w n)) ∧ f_X12_secondsOf N st 39 (nI w) (nI n) = some (nI (S w n))) ∧ (n ≤ 40 → P w n ≤ 3000 ∧ f_X2_penceOf st 1 (nI w) (nI n) = some (nI (P w n)) ∧ f_X12_penceOf st 39 (nI w) (nI n) = some (nI (P w n))) ∧ (n = 0 → S w n = 0 ∧ P w n = 0)) {n p k a : Nat} (hn1 : 1 ≤ n) (hn : n ≤ 40) (hp : p ≤ 999) (hk : k ≤ n) (ha : a < K st 40 0) (a3 : Int32) (k42 : Int32 → Int32 → Int32 → Int32 → Option Int32) (k62 : zS → Int32 → Option (zS × Int32)) (k71 : zS → Int32 → Int32 → Option (zS × Int32)) (x4 : Int32) {B G : Nat} (hB : B = if k = n then 1 else K st 40 0) (hG : G ≤ 2147483647) : ∀ kk f1 f2 i m stM, i + kk = B → kk < f1 → kk < f2 → m ≤ 2147483647 → MS st stM → RelC stM (min G m) (36 * k + 6 * a + i) → ∃ m' stN, m' ≤ 2147483647 ∧ f_X11_bestChangeAt_76 N st 0 (nI k) (nI n) (nI p) k42 f1 x4 (nI B) (nI m) (nI a) (nI (P a k)) (nI (S a k)) (nI i) = k42 x4 (nI B) (nI m') (nI (a + 1)) ∧ f_X12_change_103 N 39 (nI n) (nI p) a3 k62 k71 f2 stM (nI k) (nI a) (nI i) = k71 stN (nI k) (nI (a + 1)) ∧ MS st stN ∧ RelC stN (min G m') (36 * k + 6 * (a + 1)) := by
  intro kk
  have hs := h.1
  have h6 := h.2.1.1.1.2
  have w2 := h.2.1.1.1.1
  have hB6 : B ≤ K st 40 0 := by rw [hB]; split <;> omega
  induction kk with
  | zero =>
    intro f1 f2 i m stM h1 h2 h3 h4 hm hR
    obtain ⟨f1, rfl⟩ : ∃ q, f1 = q + 1 := ⟨f1 - 1, by omega⟩
    obtain ⟨f2, rfl⟩ : ∃ q, f2 = q + 1 := ⟨f2 - 1, by omega⟩
    have hi : i = B := by omega
    subst hi
    have hsM := hm.sh hs
    have w3 : zM stM 40 0 = nI (K st 40 0) := (hm.mB (Or.inl rfl)).trans w2
    refine ⟨m, stM, h4, ?_, ?_, hm, hR.mono (by omega)⟩
    · clear sp hR
      unfold f_X11_bestChangeAt_76
      simp (disch := omega) only [↓reduceIte, List.mem_singleton, Option.bind_some, if_true, if_false, zM_PM, zLn_PM, zTg_PM, zR_PM, ↓zb, ↓zo, ↓zl, n_lt0, n_le, n_lt, n_eq, n_eq0, n_gt0, n_le0, n_ge0, n_zin, n_nat, nI_add, and_self, true_or, false_or, or_false, if_pos, if_neg, f_in_nI, Nat.reduceAdd]
    · clear sp hR
      unfold f_X12_change_103 f_X12_change_121
      by_cases hkn : k = n
      · rw [if_pos hkn] at hB
        simp (disch := omega) only [hkn, hB, ↓reduceIte, List.mem_singleton, Option.bind_some, if_true, if_false, zM_PM, zLn_PM, zTg_PM, zR_PM, ↓zb, ↓zo, ↓zl, n_lt0, n_le, n_lt, n_eq, n_eq0, n_gt0, n_le0, n_ge0, n_zin, n_nat, nI_add, and_self, true_or, false_or, or_false, if_pos, if_neg, f_in_nI, Nat.reduceAdd]
      · rw [if_neg hkn] at hB
        simp (disch := omega) only [hkn, hB, w3, ↓reduceIte, List.mem_singleton, Option.bind_some, if_true, if_false, zM_PM, zLn_PM, zTg_PM, zR_PM, ↓zb, ↓zo, ↓zl, n_lt0, n_le, n_lt, n_eq, n_eq0, n_gt0, n_le0, n_ge0, n_zin, n_nat, nI_add, and_self, true_or, false_or, or_false, if_pos, if_neg, f_in_nI, Nat.reduceAdd, t39 hsM, ↓bs (r39_1 hsM), t40 hsM, l40 hsM]
  | succ kk ih =>
    intro f1 f2 i m stM h1 h2 h3 h4 hm hR
    obtain ⟨f1, rfl⟩ : ∃ q, f1 = q + 1 := ⟨f1 - 1, by omega⟩
    obtain ⟨f2, rfl⟩ : ∃ q, f2 = q + 1 := ⟨f2 - 1, by omega⟩
    have hsM := hm.sh hs
    have w3 : zM stM 40 0 = nI (K st 40 0) := (hm.mB (Or.inl rfl)).trans w2
    obtain ⟨ba, ca, xa1, xa2, ma1, ma2⟩ := sp_ms h hN sp hm ha (show k ≤ 40 by omega)
    obtain ⟨bb, cb, xb1, xb2, mb1, mb2⟩ := sp_ms h hN sp hm (show i < K st 40 0 by omega) (show n - k ≤ 40 by omega)
    clear sp
    obtain ⟨stN, v1, v2, v3⟩ := tries h hm hn hp hk (by omega) (by omega) ba bb ca cb ma1 mb1 ma2 mb2 hR
    have hmi : (if p < P a k + P i (n - k) then min G m else min (min G m) (codeN (S a k + S i (n - k)) k a i)) = min G (if p < P a k + P i (n - k) then m else min m (codeN (S a k + S i (n - k)) k a i)) := by
      split
      · rfl
      · rw [Nat.min_assoc]
    rw [hmi] at v3
    have hm2 : (if p < P a k + P i (n - k) then m else min m (codeN (S a k + S i (n - k)) k a i)) ≤ 2147483647 := by
      split <;> omega
    obtain ⟨m', stO, u1, u2, u3, u4, u5⟩ := ih f1 f2 (i + 1) _ stN (by omega) (by omega) (by omega) hm2 v2 v3
    refine ⟨m', stO, u1, ?_, ?_, u4, u5⟩
    · clear ih hR v3 u3 u5
      rw [f_X11_bestChangeAt_76]
      unfold f_X11_bestChangeAt_152
      by_cases hq : p < P a k + P i (n - k)
      · rw [if_pos hq] at u2
        simp (disch := omega) only [hq, pk_sub, ↓bs xb2, ↓zl, ↓reduceIte, List.mem_singleton, Option.bind_some, if_true, if_false, zM_PM, zLn_PM, zTg_PM, zR_PM, ↓zb, ↓zo, ↓zl, n_lt0, n_le, n_lt, n_eq, n_eq0, n_gt0, n_le0, n_ge0, n_zin, n_nat, nI_add, and_self, true_or, false_or, or_false, if_pos, if_neg, f_in_nI, Nat.reduceAdd, t0 hs, ↓bs (r0_0 hs), t1 hs]
        exact u2
      · rw [if_neg hq] at u2
        have e0 : (S a k + S i (n - k)) * 41 + k = (S a k + S i (n - k)) * 41 + k := rfl
        have ec : ((S a k + S i (n - k)) * 41 + k) * 6 * 6 + (a * 6 + i) = codeN (S a k + S i (n - k)) k a i := rfl
        have hcb : codeN (S a k + S i (n - k)) k a i < 2147483647 := by unfold codeN; omega
        by_cases hc : codeN (S a k + S i (n - k)) k a i < m
        · rw [Nat.min_eq_right (by omega)] at u2
          simp (disch := omega) only [hq, hc, pk_sub, ↓bs xb1, ↓bs xb2, ↓zl, n_mul, ec, ↓reduceIte, List.mem_singleton, Option.bind_some, if_true, if_false, zM_PM, zLn_PM, zTg_PM, zR_PM, ↓zb, ↓zo, ↓zl, n_lt0, n_le, n_lt, n_eq, n_eq0, n_gt0, n_le0, n_ge0, n_zin, n_nat, nI_add, and_self, true_or, false_or, or_false, if_pos, if_neg, f_in_nI, Nat.reduceAdd, t0 hs, ↓bs (r0_0 hs), t1 hs]
          exact u2
        · rw [Nat.min_eq_left (by omega)] at u2
          simp (disch := omega) only [hq, hc, pk_sub, ↓bs xb1, ↓bs xb2, ↓zl, n_mul, ec, ↓reduceIte, List.mem_singleton, Option.bind_some, if_true, if_false, zM_PM, zLn_PM, zTg_PM, zR_PM, ↓zb, ↓zo, ↓zl, n_lt0, n_le, n_lt, n_eq, n_eq0, n_gt0, n_le0, n_ge0, n_zin, n_nat, nI_add, and_self, true_or, false_or, or_false, if_pos, if_neg, f_in_nI, Nat.reduceAdd, t0 hs, ↓bs (r0_0 hs), t1 hs]
          exact u2
    · clear ih hR v3 u2 u5
      rw [f_X12_change_103]
      unfold f_X12_change_121
      by_cases hkn : k = n
      · rw [if_pos hkn] at hB
        have hi0 : i = 0 := by omega
        subst hkn
        simp (disch := omega) only [↓bs v1, ↓reduceIte, List.mem_singleton, Option.bind_some, if_true, if_false, zM_PM, zLn_PM, zTg_PM, zR_PM, ↓zb, ↓zo, ↓zl, n_lt0, n_le, n_lt, n_eq, n_eq0, n_gt0, n_le0, n_ge0, n_zin, n_nat, nI_add, and_self, true_or, false_or, or_false, if_pos, if_neg, f_in_nI, Nat.reduceAdd, t39 hsM]
        exact u3
      · rw [if_neg hkn] at hB
        simp (disch := omega) only [hkn, w3, ↓bs v1, ↓reduceIte, List.mem_singleton, Option.bind_some, if_true, if_false, zM_PM, zLn_PM, zTg_PM, zR_PM, ↓zb, ↓zo, ↓zl, n_lt0, n_le, n_lt, n_eq, n_eq0, n_gt0, n_le0, n_ge0, n_zin, n_nat, nI_add, and_self, true_or, false_or, or_false, if_pos, if_neg, f_in_nI, Nat.reduceAdd, t39 hsM, ↓bs (r39_1 hsM), t40 hsM, l40 hsM]
        exact u3
theorem ch_a {st : zS} (h : Inv st) {N : Nat} (hN : 3000 ≤ N) {S P : Nat → Nat → Nat} (sp : ∀ w n, w < K st 40 0 → (n ≤ 41 → S w n ≤ 4000 ∧ f_X2_secondsOf st 1 (nI w) (nI n) = some (nI (S w n)) ∧ f_X12_secondsOf N st 39 (nI w) (nI n) = some (nI (S w n))) ∧ (n ≤ 40 → P w n ≤ 3000 ∧ f_X2_penceOf st 1 (nI w) (nI n) = some (nI (P w n)) ∧ f_X12_penceOf st 39 (nI w) (nI n) = some (nI (P w n))) ∧ (n = 0 → S w n = 0 ∧ P w n = 0)) {n p k : Nat} (hn1 : 1 ≤ n) (hn : n ≤ 40) (hp : p ≤ 999) (hk : k ≤ n) (h0 : K st 40 0 ≠ 0) (a3 : Int32) (k62 : zS → Int32 → Option (zS × Int32)) {A B G : Nat} (hA : A = if k = 0 then 1 else K st 40 0) (hB : B = if k = n then 1 else K st 40 0) (hG : G ≤ 2147483647) : ∀ kk f1 f2 a m stM, a + kk = A → kk < f1 → kk < f2 → m ≤ 2147483647 → MS st stM → RelC stM (min G m) (36 * k + 6 * a) → ∃ m' stN, m' ≤ 2147483647 ∧ f_X11_bestChangeAt_42 N st 0 (nI k) (nI n) (nI p) f1 (nI A) (nI B) (nI m) (nI a) = some (nI m') ∧ f_X12_change_71 N 39 (nI n) (nI p) a3 k62 f2 stM (nI k) (nI a) = k62 stN (nI (k + 1)) ∧ MS st stN ∧ RelC stN (min G m') (36 * (k + 1)) := by
  intro kk
  have hs := h.1
  have h6 := h.2.1.1.1.2
  have w2 := h.2.1.1.1.1
  have hA6 : A ≤ K st 40 0 := by rw [hA]; split <;> omega
  have hB6 : B ≤ K st 40 0 := by rw [hB]; split <;> omega
  induction kk with
  | zero =>
    intro f1 f2 a m stM h1 h2 h3 h4 hm hR
    obtain ⟨f1, rfl⟩ : ∃ q, f1 = q + 1 := ⟨f1 - 1, by omega⟩
    obtain ⟨f2, rfl⟩ : ∃ q, f2 = q + 1 := ⟨f2 - 1, by omega⟩
    have hi : a = A := by omega
    subst hi
    have hsM := hm.sh hs
    have w3 : zM stM 40 0 = nI (K st 40 0) := (hm.mB (Or.inl rfl)).trans w2
    refine ⟨m, stM, h4, ?_, ?_, hm, hR.mono (by omega)⟩
    · clear sp hR
      unfold f_X11_bestChangeAt_42
      simp (disch := omega) only [↓reduceIte, List.mem_singleton, Option.bind_some, if_true, if_false, zM_PM, zLn_PM, zTg_PM, zR_PM, ↓zb, ↓zo, ↓zl, n_lt0, n_le, n_lt, n_eq, n_eq0, n_gt0, n_le0, n_ge0, n_zin, n_nat, nI_add, and_self, true_or, false_or, or_false, if_pos, if_neg, f_in_nI, Nat.reduceAdd]
    · clear sp hR
      unfold f_X12_change_71 f_X12_change_91 f_X12_change_97
      by_cases hk0 : k = 0
      · rw [if_pos hk0] at hA
        simp (disch := omega) only [hk0, hA, w3, ↓reduceIte, List.mem_singleton, Option.bind_some, if_true, if_false, zM_PM, zLn_PM, zTg_PM, zR_PM, ↓zb, ↓zo, ↓zl, n_lt0, n_le, n_lt, n_eq, n_eq0, n_gt0, n_le0, n_ge0, n_zin, n_nat, nI_add, and_self, true_or, false_or, or_false, if_pos, if_neg, f_in_nI, Nat.reduceAdd, t39 hsM, ↓bs (r39_1 hsM), t40 hsM, l40 hsM]
      · rw [if_neg hk0] at hA
        simp (disch := omega) only [hk0, hA, w3, ↓reduceIte, List.mem_singleton, Option.bind_some, if_true, if_false, zM_PM, zLn_PM, zTg_PM, zR_PM, ↓zb, ↓zo, ↓zl, n_lt0, n_le, n_lt, n_eq, n_eq0, n_gt0, n_le0, n_ge0, n_zin, n_nat, nI_add, and_self, true_or, false_or, or_false, if_pos, if_neg, f_in_nI, Nat.reduceAdd, t39 hsM, ↓bs (r39_1 hsM), t40 hsM, l40 hsM]
  | succ kk ih =>
    intro f1 f2 a m stM h1 h2 h3 h4 hm hR
    obtain ⟨f1, rfl⟩ : ∃ q, f1 = q + 1 := ⟨f1 - 1, by omega⟩
    obtain ⟨f2, rfl⟩ : ∃ q, f2 = q + 1 := ⟨f2 - 1, by omega⟩
    have hsM := hm.sh hs
    have w3 : zM stM 40 0 = nI (K st 40 0) := (hm.mB (Or.inl rfl)).trans w2
    obtain ⟨ba, ca, xa1, xa2, ma1, ma2⟩ := sp_ms h hN sp hm (show a < K st 40 0 by omega) (show k ≤ 40 by omega)
    obtain ⟨m1, st1, v1, v2, v3, v4, v5⟩ := ch_b h hN sp hn1 hn hp hk (show a < K st 40 0 by omega) a3 (f_X11_bestChangeAt_42 N st 0 (nI k) (nI n) (nI p) f1) k62 (f_X12_change_71 N 39 (nI n) (nI p) a3 k62 f2) (nI A) hB hG B N N 0 m stM (by omega) (by omega) (by omega) h4 hm hR
    obtain ⟨m', stO, u1, u2, u3, u4, u5⟩ := ih f1 f2 (a + 1) m1 st1 (by omega) (by omega) (by omega) v1 v4 v5
    clear sp
    refine ⟨m', stO, u1, ?_, ?_, u4, u5⟩
    · clear ih hR v3 v5 u3 u5
      rw [f_X11_bestChangeAt_42]
      simp (disch := omega) only [↓bs xa1, ↓bs xa2, v2, ↓reduceIte, List.mem_singleton, Option.bind_some, if_true, if_false, zM_PM, zLn_PM, zTg_PM, zR_PM, ↓zb, ↓zo, ↓zl, n_lt0, n_le, n_lt, n_eq, n_eq0, n_gt0, n_le0, n_ge0, n_zin, n_nat, nI_add, and_self, true_or, false_or, or_false, if_pos, if_neg, f_in_nI, Nat.reduceAdd, t0 hs, ↓bs (r0_0 hs), t1 hs]
      exact u2
    · clear ih hR v2 v5 u2 u5
      rw [f_X12_change_71]
      unfold f_X12_change_91 f_X12_change_97
      by_cases hk0 : k = 0
      · rw [if_pos hk0] at hA
        subst hk0
        simp (disch := omega) only [w3, v3, ↓reduceIte, List.mem_singleton, Option.bind_some, if_true, if_false, zM_PM, zLn_PM, zTg_PM, zR_PM, ↓zb, ↓zo, ↓zl, n_lt0, n_le, n_lt, n_eq, n_eq0, n_gt0, n_le0, n_ge0, n_zin, n_nat, nI_add, and_self, true_or, false_or, or_false, if_pos, if_neg, f_in_nI, Nat.reduceAdd, t39 hsM, ↓bs (r39_1 hsM), t40 hsM, l40 hsM]
        exact u3
      · rw [if_neg hk0] at hA
        simp (disch := omega) only [hk0, w3, v3, ↓reduceIte, List.mem_singleton, Option.bind_some, if_true, if_false, zM_PM, zLn_PM, zTg_PM, zR_PM, ↓zb, ↓zo, ↓zl, n_lt0, n_le, n_lt, n_eq, n_eq0, n_gt0, n_le0, n_ge0, n_zin, n_nat, nI_add, and_self, true_or, false_or, or_false, if_pos, if_neg, f_in_nI, Nat.reduceAdd, t39 hsM, ↓bs (r39_1 hsM), t40 hsM, l40 hsM]
        exact u3
theorem ch_k {st : zS} (h : Inv st) {N : Nat} (hN : 3000 ≤ N) {n p k : Nat} (hn1 : 1 ≤ n) (hn : n ≤ 40) (hp : p ≤ 999) (hk : k ≤ n) (a3 : Int32) (k62 : zS → Int32 → Option (zS × Int32)) {G : Nat} (hG : G ≤ 2147483647) {stM : zS} (hm : MS st stM) (hR : RelC stM G (36 * k)) : ∃ m' stN, m' ≤ 2147483647 ∧ f_X11_bestChangeAt N st 0 (nI k) (nI n) (nI p) = some (nI m') ∧ f_X12_change_71 N 39 (nI n) (nI p) a3 k62 N stM (nI k) (nI 0) = k62 stN (nI (k + 1)) ∧ MS st stN ∧ RelC stN (min G m') (36 * (k + 1)) := by
  have hs := h.1
  have h6 := h.2.1.1.1.2
  have w1 := h.2.1.1.2
  have w2 := h.2.1.1.1.1
  by_cases h0 : K st 40 0 = 0
  · have hsM := hm.sh hs
    have w3 : zM stM 40 0 = nI (K st 40 0) := (hm.mB (Or.inl rfl)).trans w2
    refine ⟨2147483647, stM, by omega, ?_, ?_, hm, by rw [Nat.min_eq_left hG]; exact hR.mono (by omega)⟩
    · obtain ⟨f, hf⟩ : ∃ q, N = q + 2 := ⟨N - 2, by omega⟩
      rw [h0] at w2
      have e : f_X2_wayOf st 1 (nI 0) = some none := x_wayN h (Or.inr (by rw [h0]; decide))
      have e1 : ∀ x, f_X2_secondsOf st 1 (nI 0) x = some (nI 0) := fun x => by
        unfold f_X2_secondsOf
        simp (disch := omega) only [↓bs e, ↓reduceIte, List.mem_singleton, Option.bind_some, if_true, if_false, zM_PM, zLn_PM, zTg_PM, zR_PM, ↓zb, ↓zo, ↓zl, n_lt0, n_le, n_lt, n_eq, n_eq0, n_gt0, n_le0, n_ge0, n_zin, n_nat, nI_add, and_self, true_or, false_or, or_false, if_pos, if_neg, f_in_nI, Nat.reduceAdd, t1 hs]
      have e2 : ∀ x, f_X2_penceOf st 1 (nI 0) x = some (nI 0) := fun x => by
        unfold f_X2_penceOf
        simp (disch := omega) only [↓bs e, ↓reduceIte, List.mem_singleton, Option.bind_some, if_true, if_false, zM_PM, zLn_PM, zTg_PM, zR_PM, ↓zb, ↓zo, ↓zl, n_lt0, n_le, n_lt, n_eq, n_eq0, n_gt0, n_le0, n_ge0, n_zin, n_nat, nI_add, and_self, true_or, false_or, or_false, if_pos, if_neg, f_in_nI, Nat.reduceAdd, t1 hs]
      clear hR
      unfold f_X11_bestChangeAt f_X11_bestChangeAt_15 f_X11_bestChangeAt_33 f_X2_wayCount
      have em : ∀ x6, f_X11_bestChangeAt_42 N st 0 (nI k) (nI n) (nI p) N (nI 0) x6 (nI 2147483647) (nI 0) = some (nI 2147483647) := fun x6 => by
        have q : f_X11_bestChangeAt_42 N st 0 (nI k) (nI n) (nI p) N = f_X11_bestChangeAt_42 N st 0 (nI k) (nI n) (nI p) (f + 2) := by rw [← hf]
        rw [q, f_X11_bestChangeAt_42, if_pos (by decide)]
      by_cases hk0 : k = 0
      · subst hk0
        have q : f_X11_bestChangeAt_42 N st 0 (nI 0) (nI n) (nI p) N = f_X11_bestChangeAt_42 N st 0 (nI 0) (nI n) (nI p) (f + 2) := by rw [← hf]
        have q2 : f_X11_bestChangeAt_76 N st 0 (nI 0) (nI n) (nI p) (f_X11_bestChangeAt_42 N st 0 (nI 0) (nI n) (nI p) (f + 1)) N = f_X11_bestChangeAt_76 N st 0 (nI 0) (nI n) (nI p) (f_X11_bestChangeAt_42 N st 0 (nI 0) (nI n) (nI p) (f + 1)) (f + 2) := by rw [← hf]
        have e3 : f_X11_bestChangeAt_42 N st 0 (nI 0) (nI n) (nI p) N (nI 1) (nI 0) (nI 2147483647) (nI 0) = some (nI 2147483647) := by
          rw [q, f_X11_bestChangeAt_42]
          simp (disch := omega) only [e1, e2, q2, ↓reduceIte, List.mem_singleton, Option.bind_some, if_true, if_false, zM_PM, zLn_PM, zTg_PM, zR_PM, ↓zb, ↓zo, ↓zl, n_lt0, n_le, n_lt, n_eq, n_eq0, n_gt0, n_le0, n_ge0, n_zin, n_nat, nI_add, and_self, true_or, false_or, or_false, if_pos, if_neg, f_in_nI, Nat.reduceAdd, t0 hs, ↓bs (r0_0 hs), t1 hs]
          rw [f_X11_bestChangeAt_76, if_pos (by decide), f_X11_bestChangeAt_42, if_pos (by decide)]
        simp (disch := omega) only [w1, w2, e3, ↓reduceIte, List.mem_singleton, Option.bind_some, if_true, if_false, zM_PM, zLn_PM, zTg_PM, zR_PM, ↓zb, ↓zo, ↓zl, n_lt0, n_le, n_lt, n_eq, n_eq0, n_gt0, n_le0, n_ge0, n_zin, n_nat, nI_add, and_self, true_or, false_or, or_false, if_pos, if_neg, f_in_nI, Nat.reduceAdd, t0 hs, ↓bs (r0_0 hs), t1 hs]
      · by_cases hkn : k = n
        · subst hkn
          simp (disch := omega) only [hk0, w1, w2, em, ↓reduceIte, List.mem_singleton, Option.bind_some, if_true, if_false, zM_PM, zLn_PM, zTg_PM, zR_PM, ↓zb, ↓zo, ↓zl, n_lt0, n_le, n_lt, n_eq, n_eq0, n_gt0, n_le0, n_ge0, n_zin, n_nat, nI_add, and_self, true_or, false_or, or_false, if_pos, if_neg, f_in_nI, Nat.reduceAdd, t0 hs, ↓bs (r0_0 hs), t1 hs]
        · simp (disch := omega) only [hk0, hkn, w1, w2, em, ↓reduceIte, List.mem_singleton, Option.bind_some, if_true, if_false, zM_PM, zLn_PM, zTg_PM, zR_PM, ↓zb, ↓zo, ↓zl, n_lt0, n_le, n_lt, n_eq, n_eq0, n_gt0, n_le0, n_ge0, n_zin, n_nat, nI_add, and_self, true_or, false_or, or_false, if_pos, if_neg, f_in_nI, Nat.reduceAdd, t0 hs, ↓bs (r0_0 hs), t1 hs]
    · obtain ⟨f, hf⟩ : ∃ q, N = q + 1 := ⟨N - 1, by omega⟩
      rw [h0] at w3
      clear hR
      have q : f_X12_change_71 N 39 (nI n) (nI p) a3 k62 N = f_X12_change_71 N 39 (nI n) (nI p) a3 k62 (f + 1) := by rw [← hf]
      rw [q, f_X12_change_71]
      unfold f_X12_change_91 f_X12_change_97
      by_cases hk0 : k = 0 <;>
        simp (disch := omega) only [hk0, w3, ↓reduceIte, List.mem_singleton, Option.bind_some, if_true, if_false, zM_PM, zLn_PM, zTg_PM, zR_PM, ↓zb, ↓zo, ↓zl, n_lt0, n_le, n_lt, n_eq, n_eq0, n_gt0, n_le0, n_ge0, n_zin, n_nat, nI_add, and_self, true_or, false_or, or_false, if_pos, if_neg, f_in_nI, Nat.reduceAdd, t39 hsM, ↓bs (r39_1 hsM), t40 hsM, l40 hsM]
  · obtain ⟨S, P, sp⟩ := sp_all h hN
    have hR' : RelC stM (min G 2147483647) (36 * k + 6 * 0) := by rw [Nat.min_eq_left hG]; exact hR
    by_cases hk0 : k = 0
    · obtain ⟨m', stN, u1, u2, u3, u4, u5⟩ := ch_a h hN sp hn1 hn hp hk h0 a3 k62 (A := 1) (B := if k = n then 1 else K st 40 0) (by rw [if_pos hk0]) rfl hG 1 N N 0 2147483647 stM rfl (by omega) (by omega) (by omega) hm hR'
      refine ⟨m', stN, u1, ?_, u3, u4, u5⟩
      clear sp u3 u5 hR hR'
      unfold f_X11_bestChangeAt f_X11_bestChangeAt_15 f_X11_bestChangeAt_33 f_X2_wayCount
      rw [if_neg (by omega)] at u2
      simp (disch := omega) only [hk0] at u2
      simp (disch := omega) only [hk0, w1, w2, u2, ↓reduceIte, List.mem_singleton, Option.bind_some, if_true, if_false, zM_PM, zLn_PM, zTg_PM, zR_PM, ↓zb, ↓zo, ↓zl, n_lt0, n_le, n_lt, n_eq, n_eq0, n_gt0, n_le0, n_ge0, n_zin, n_nat, nI_add, and_self, true_or, false_or, or_false, if_pos, if_neg, f_in_nI, Nat.reduceAdd, t0 hs, ↓bs (r0_0 hs), t1 hs]
    · obtain ⟨m', stN, u1, u2, u3, u4, u5⟩ := ch_a h hN sp hn1 hn hp hk h0 a3 k62 (A := K st 40 0) (B := if k = n then 1 else K st 40 0) (by rw [if_neg hk0]) rfl hG (K st 40 0) N N 0 2147483647 stM (by omega) (by omega) (by omega) (by omega) hm hR'
      refine ⟨m', stN, u1, ?_, u3, u4, u5⟩
      clear sp u3 u5 hR hR'
      unfold f_X11_bestChangeAt f_X11_bestChangeAt_15 f_X11_bestChangeAt_33 f_X2_wayCount
      by_cases hkn : k = n
      · rw [if_pos hkn] at u2
        subst hkn
        simp (disch := omega) only [hk0, w1, w2, u2, ↓reduceIte, List.mem_singleton, Option.bind_some, if_true, if_false, zM_PM, zLn_PM, zTg_PM, zR_PM, ↓zb, ↓zo, ↓zl, n_lt0, n_le, n_lt, n_eq, n_eq0, n_gt0, n_le0, n_ge0, n_zin, n_nat, nI_add, and_self, true_or, false_or, or_false, if_pos, if_neg, f_in_nI, Nat.reduceAdd, t0 hs, ↓bs (r0_0 hs), t1 hs]
      · rw [if_neg hkn] at u2
        simp (disch := omega) only [hk0, hkn, w1, w2, u2, ↓reduceIte, List.mem_singleton, Option.bind_some, if_true, if_false, zM_PM, zLn_PM, zTg_PM, zR_PM, ↓zb, ↓zo, ↓zl, n_lt0, n_le, n_lt, n_eq, n_eq0, n_gt0, n_le0, n_ge0, n_zin, n_nat, nI_add, and_self, true_or, false_or, or_false, if_pos, if_neg, f_in_nI, Nat.reduceAdd, t0 hs, ↓bs (r0_0 hs), t1 hs]
theorem ch_loop {st : zS} (h : Inv st) {N : Nat} (hN : 3000 ≤ N) {n p j : Nat} (hn1 : 1 ≤ n) (hn : n ≤ 40) (hp : p ≤ 999) (hj : j ≤ 3) : ∀ kk f1 f2 k G stM, k + kk = n + 1 → kk < f1 → kk < f2 → G ≤ 2147483647 → MS st stM → RelC stM G (36 * k) → ∃ r stN, f_X11_change_35 N st 0 (nI n) (nI p) (nI j) f1 (nI G) (nI k) = some r ∧ f_X12_change_62 N 39 (nI n) (nI p) (nI j) f2 stM (nI k) = some (stN, r) ∧ MS st stN := by
  intro kk
  have hs := h.1
  induction kk with
  | zero =>
    intro f1 f2 k G stM h1 h2 h3 h4 hm hR
    obtain ⟨f1, rfl⟩ : ∃ q, f1 = q + 1 := ⟨f1 - 1, by omega⟩
    obtain ⟨f2, rfl⟩ : ∃ q, f2 = q + 1 := ⟨f2 - 1, by omega⟩
    have hsM := hm.sh hs
    rw [f_X11_change_35, f_X12_change_62]
    have hjj : j = 0 ∨ j = 1 ∨ j = 2 ∨ j = 3 := by omega
    rcases hR with ⟨r0, r1, r2, r3, r4⟩ | ⟨s, k', a', b', r1, r2, r3, r4, r5, r6, r7, r8, r9, r10⟩
    · refine ⟨-5, stM, ?_, ?_, hm⟩
      · simp (disch := omega) only [r0, ↓reduceIte, List.mem_singleton, Option.bind_some, if_true, if_false, zM_PM, zLn_PM, zTg_PM, zR_PM, ↓zb, ↓zo, ↓zl, n_lt0, n_le, n_lt, n_eq, n_eq0, n_gt0, n_le0, n_ge0, n_zin, n_nat, nI_add, and_self, true_or, false_or, or_false, if_pos, if_neg, f_in_nI, Nat.reduceAdd]
      · rcases hjj with rfl | rfl | rfl | rfl <;>
          simp (disch := omega) only [r1, r2, r3, r4, ↓reduceIte, List.mem_singleton, Option.bind_some, if_true, if_false, zM_PM, zLn_PM, zTg_PM, zR_PM, ↓zb, ↓zo, ↓zl, n_lt0, n_le, n_lt, n_eq, n_eq0, n_gt0, n_le0, n_ge0, n_zin, n_nat, nI_add, and_self, true_or, false_or, or_false, if_pos, if_neg, f_in_nI, Nat.reduceAdd, t39 hsM]
    · unfold codeN at r5
      have hG2 : G < 20000000 := by omega
      have d1 : nI G / nI 36 = nI (G / 36) := pk_div (by omega) (by omega) (by omega)
      have d2 : nI (G / 36) / nI 41 = nI (G / 36 / 41) := pk_div (by omega) (by omega) (by omega)
      have d3 : nI G / nI 6 = nI (G / 6) := pk_div (by omega) (by omega) (by omega)
      have d4 : nI (G / 6) / nI 6 = nI (G / 6 / 6) := pk_div (by omega) (by omega) (by omega)
      rcases hjj with rfl | rfl | rfl | rfl
      · refine ⟨nI s, stM, ?_, ?_, hm⟩
        · simp (disch := omega) only [d1, d2, ↓reduceIte, List.mem_singleton, Option.bind_some, if_true, if_false, zM_PM, zLn_PM, zTg_PM, zR_PM, ↓zb, ↓zo, ↓zl, n_lt0, n_le, n_lt, n_eq, n_eq0, n_gt0, n_le0, n_ge0, n_zin, n_nat, nI_add, and_self, true_or, false_or, or_false, if_pos, if_neg, f_in_nI, Nat.reduceAdd]
          congr 2; omega
        · simp (disch := omega) only [r7, ↓reduceIte, List.mem_singleton, Option.bind_some, if_true, if_false, zM_PM, zLn_PM, zTg_PM, zR_PM, ↓zb, ↓zo, ↓zl, n_lt0, n_le, n_lt, n_eq, n_eq0, n_gt0, n_le0, n_ge0, n_zin, n_nat, nI_add, and_self, true_or, false_or, or_false, if_pos, if_neg, f_in_nI, Nat.reduceAdd, t39 hsM]
      · refine ⟨nI a', stM, ?_, ?_, hm⟩
        · simp (disch := omega) only [d3, d4, n_mul, pk_sub, ↓reduceIte, List.mem_singleton, Option.bind_some, if_true, if_false, zM_PM, zLn_PM, zTg_PM, zR_PM, ↓zb, ↓zo, ↓zl, n_lt0, n_le, n_lt, n_eq, n_eq0, n_gt0, n_le0, n_ge0, n_zin, n_nat, nI_add, and_self, true_or, false_or, or_false, if_pos, if_neg, f_in_nI, Nat.reduceAdd]
          congr 2; omega
        · simp (disch := omega) only [r8, ↓reduceIte, List.mem_singleton, Option.bind_some, if_true, if_false, zM_PM, zLn_PM, zTg_PM, zR_PM, ↓zb, ↓zo, ↓zl, n_lt0, n_le, n_lt, n_eq, n_eq0, n_gt0, n_le0, n_ge0, n_zin, n_nat, nI_add, and_self, true_or, false_or, or_false, if_pos, if_neg, f_in_nI, Nat.reduceAdd, t39 hsM]
      · refine ⟨nI k', stM, ?_, ?_, hm⟩
        · simp (disch := omega) only [d1, d2, n_mul, pk_sub, ↓reduceIte, List.mem_singleton, Option.bind_some, if_true, if_false, zM_PM, zLn_PM, zTg_PM, zR_PM, ↓zb, ↓zo, ↓zl, n_lt0, n_le, n_lt, n_eq, n_eq0, n_gt0, n_le0, n_ge0, n_zin, n_nat, nI_add, and_self, true_or, false_or, or_false, if_pos, if_neg, f_in_nI, Nat.reduceAdd]
          congr 2; omega
        · simp (disch := omega) only [r9, ↓reduceIte, List.mem_singleton, Option.bind_some, if_true, if_false, zM_PM, zLn_PM, zTg_PM, zR_PM, ↓zb, ↓zo, ↓zl, n_lt0, n_le, n_lt, n_eq, n_eq0, n_gt0, n_le0, n_ge0, n_zin, n_nat, nI_add, and_self, true_or, false_or, or_false, if_pos, if_neg, f_in_nI, Nat.reduceAdd, t39 hsM]
      · refine ⟨nI b', stM, ?_, ?_, hm⟩
        · simp (disch := omega) only [d3, n_mul, pk_sub, ↓reduceIte, List.mem_singleton, Option.bind_some, if_true, if_false, zM_PM, zLn_PM, zTg_PM, zR_PM, ↓zb, ↓zo, ↓zl, n_lt0, n_le, n_lt, n_eq, n_eq0, n_gt0, n_le0, n_ge0, n_zin, n_nat, nI_add, and_self, true_or, false_or, or_false, if_pos, if_neg, f_in_nI, Nat.reduceAdd]
          congr 2; omega
        · simp (disch := omega) only [r10, ↓reduceIte, List.mem_singleton, Option.bind_some, if_true, if_false, zM_PM, zLn_PM, zTg_PM, zR_PM, ↓zb, ↓zo, ↓zl, n_lt0, n_le, n_lt, n_eq, n_eq0, n_gt0, n_le0, n_ge0, n_zin, n_nat, nI_add, and_self, true_or, false_or, or_false, if_pos, if_neg, f_in_nI, Nat.reduceAdd, t39 hsM]
  | succ kk ih =>
    intro f1 f2 k G stM h1 h2 h3 h4 hm hR
    obtain ⟨f1, rfl⟩ : ∃ q, f1 = q + 1 := ⟨f1 - 1, by omega⟩
    obtain ⟨f2, rfl⟩ : ∃ q, f2 = q + 1 := ⟨f2 - 1, by omega⟩
    obtain ⟨m, st1, v1, v2, v3, v4, v5⟩ := ch_k h hN hn1 hn hp (show k ≤ n by omega) (nI j) (f_X12_change_62 N 39 (nI n) (nI p) (nI j) f2) h4 hm hR
    obtain ⟨r, stN, u1, u2, u3⟩ := ih f1 f2 (k + 1) (min G m) st1 (by omega) (by omega) (by omega) (by omega) v4 v5
    refine ⟨r, stN, ?_, ?_, u3⟩
    · clear ih hR v3 v5 u2
      rw [f_X11_change_35]
      by_cases hc : m < G
      · rw [Nat.min_eq_right (by omega)] at u1
        simp (disch := omega) only [↓bs v2, hc, ↓zl, ↓reduceIte, List.mem_singleton, Option.bind_some, if_true, if_false, zM_PM, zLn_PM, zTg_PM, zR_PM, ↓zb, ↓zo, ↓zl, n_lt0, n_le, n_lt, n_eq, n_eq0, n_gt0, n_le0, n_ge0, n_zin, n_nat, nI_add, and_self, true_or, false_or, or_false, if_pos, if_neg, f_in_nI, Nat.reduceAdd, t0 hs]
        exact u1
      · rw [Nat.min_eq_left (by omega)] at u1
        simp (disch := omega) only [↓bs v2, hc, ↓zl, ↓reduceIte, List.mem_singleton, Option.bind_some, if_true, if_false, zM_PM, zLn_PM, zTg_PM, zR_PM, ↓zb, ↓zo, ↓zl, n_lt0, n_le, n_lt, n_eq, n_eq0, n_gt0, n_le0, n_ge0, n_zin, n_nat, nI_add, and_self, true_or, false_or, or_false, if_pos, if_neg, f_in_nI, Nat.reduceAdd, t0 hs]
        exact u1
    · rw [f_X12_change_62, if_neg (by rw [n_lt (by omega) (by omega)]; omega), v3]
      exact u2
theorem s_change {st : zS} (h : Inv st) {N : Nat} (hN : 3000 ≤ N) (a1 a2 a3 : Int32) : ∃ (r : Int32) (st1 st2 : zS), (f_X11_change N st 0 a1 a2 a3 = some r ∧ st1 = st) ∧ (f_X12_change N st1 39 a1 a2 a3 = some (st2, r)) ∧ Sh st1 ∧ Inv st2 := by
  have hs := h.1
  suffices q : ∃ (r : Int32) (st2 : zS), f_X11_change N st 0 a1 a2 a3 = some r ∧ f_X12_change N st 39 a1 a2 a3 = some (st2, r) ∧ MS st st2 by
    obtain ⟨r, st2, q1, q2, q3⟩ := q
    exact ⟨r, st, st2, ⟨q1, rfl⟩, q2, h.1, q3.inv h⟩
  unfold f_X11_change f_X12_change
  rcases i_neg a3 with z | ⟨j, hj, rfl⟩
  · refine ⟨-1, st, ?_, ?_, MS.rf⟩
    · simp (disch := omega) only [z, if_true]
    · simp (disch := omega) only [f_in_neg z, ↓reduceIte, List.mem_singleton, Option.bind_some, if_true, if_false, zM_PM, zLn_PM, zTg_PM, zR_PM, ↓zb, ↓zo, ↓zl, n_lt0, n_le, n_lt, n_eq, n_eq0, n_gt0, n_le0, n_ge0, n_zin, n_nat, nI_add, and_self, true_or, false_or, or_false, if_pos, if_neg, f_in_nI, Nat.reduceAdd]
  by_cases hj3 : j ≤ 3
  · rcases f_isLen (a := a1) with ⟨n, n1, n2, rfl, l1, l2⟩ | ⟨l1, l2⟩
    · rcases f_isPe (a := a2) with ⟨p, q1, rfl, q2, q3⟩ | ⟨q2, q3⟩
      · have hm : MS st (zPM (zPM (zPM (zPM st 39 13 (-5 : Int32)) 39 14 (-5 : Int32)) 39 15 (-5 : Int32)) 39 16 (-5 : Int32)) := (((MS.rf.pm _ _ _ (by omega)).pm _ _ _ (by omega)).pm _ _ _ (by omega)).pm _ _ _ (by omega)
        have hR : RelC (zPM (zPM (zPM (zPM st 39 13 (-5 : Int32)) 39 14 (-5 : Int32)) 39 15 (-5 : Int32)) 39 16 (-5 : Int32)) 2147483647 (36 * 0) := Or.inl ⟨rfl, rfl, rfl, rfl, rfl⟩
        obtain ⟨r, stN, u1, u2, u3⟩ := ch_loop h hN n1 n2 q1 hj3 (n + 1) N N 0 2147483647 _ (by omega) (by omega) (by omega) (by omega) hm hR
        refine ⟨r, stN, ?_, ?_, u3⟩
        · simp (disch := omega) only [↓bs l1, ↓bs q2, ↓reduceIte, List.mem_singleton, Option.bind_some, if_true, if_false, zM_PM, zLn_PM, zTg_PM, zR_PM, ↓zb, ↓zo, ↓zl, n_lt0, n_le, n_lt, n_eq, n_eq0, n_gt0, n_le0, n_ge0, n_zin, n_nat, nI_add, and_self, true_or, false_or, or_false, if_pos, if_neg, f_in_nI, Nat.reduceAdd]
          exact u1
        · simp (disch := omega) only [↓bs l2, ↓bs q3, ↓reduceIte, List.mem_singleton, Option.bind_some, if_true, if_false, zM_PM, zLn_PM, zTg_PM, zR_PM, ↓zb, ↓zo, ↓zl, n_lt0, n_le, n_lt, n_eq, n_eq0, n_gt0, n_le0, n_ge0, n_zin, n_nat, nI_add, and_self, true_or, false_or, or_false, if_pos, if_neg, f_in_nI, Nat.reduceAdd, t39 hs]
          exact u2
      · refine ⟨-2, st, ?_, ?_, MS.rf⟩
        · simp (disch := omega) only [↓bs l1, ↓bs q2, ↓reduceIte, List.mem_singleton, Option.bind_some, if_true, if_false, zM_PM, zLn_PM, zTg_PM, zR_PM, ↓zb, ↓zo, ↓zl, n_lt0, n_le, n_lt, n_eq, n_eq0, n_gt0, n_le0, n_ge0, n_zin, n_nat, nI_add, and_self, true_or, false_or, or_false, if_pos, if_neg, f_in_nI, Nat.reduceAdd]
        · simp (disch := omega) only [↓bs l2, ↓bs q3, ↓reduceIte, List.mem_singleton, Option.bind_some, if_true, if_false, zM_PM, zLn_PM, zTg_PM, zR_PM, ↓zb, ↓zo, ↓zl, n_lt0, n_le, n_lt, n_eq, n_eq0, n_gt0, n_le0, n_ge0, n_zin, n_nat, nI_add, and_self, true_or, false_or, or_false, if_pos, if_neg, f_in_nI, Nat.reduceAdd]
    · refine ⟨-2, st, ?_, ?_, MS.rf⟩
      · simp (disch := omega) only [↓bs l1, ↓reduceIte, List.mem_singleton, Option.bind_some, if_true, if_false, zM_PM, zLn_PM, zTg_PM, zR_PM, ↓zb, ↓zo, ↓zl, n_lt0, n_le, n_lt, n_eq, n_eq0, n_gt0, n_le0, n_ge0, n_zin, n_nat, nI_add, and_self, true_or, false_or, or_false, if_pos, if_neg, f_in_nI, Nat.reduceAdd]
      · simp (disch := omega) only [↓bs l2, ↓reduceIte, List.mem_singleton, Option.bind_some, if_true, if_false, zM_PM, zLn_PM, zTg_PM, zR_PM, ↓zb, ↓zo, ↓zl, n_lt0, n_le, n_lt, n_eq, n_eq0, n_gt0, n_le0, n_ge0, n_zin, n_nat, nI_add, and_self, true_or, false_or, or_false, if_pos, if_neg, f_in_nI, Nat.reduceAdd]
  · refine ⟨-1, st, ?_, ?_, MS.rf⟩
    · simp (disch := omega) only [↓reduceIte, List.mem_singleton, Option.bind_some, if_true, if_false, zM_PM, zLn_PM, zTg_PM, zR_PM, ↓zb, ↓zo, ↓zl, n_lt0, n_le, n_lt, n_eq, n_eq0, n_gt0, n_le0, n_ge0, n_zin, n_nat, nI_add, and_self, true_or, false_or, or_false, if_pos, if_neg, f_in_nI, Nat.reduceAdd]
    · simp (disch := omega) only [↓reduceIte, List.mem_singleton, Option.bind_some, if_true, if_false, zM_PM, zLn_PM, zTg_PM, zR_PM, ↓zb, ↓zo, ↓zl, n_lt0, n_le, n_lt, n_eq, n_eq0, n_gt0, n_le0, n_ge0, n_zin, n_nat, nI_add, and_self, true_or, false_or, or_false, if_pos, if_neg, f_in_nI, Nat.reduceAdd]
