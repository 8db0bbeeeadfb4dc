/-! the sign at a place, with lines tried -/
def MX (st sM : zS) : Prop := sM.1 = st.1 ∧ sM.2.1 = st.2.1 ∧ sM.2.2.2 = st.2.2.2 ∧ (∀ k j, (k < 39 ∨ k = 40 ∨ k = 41 ∨ 46 ≤ k) → ¬ (k = 40 ∧ 53 ≤ j ∧ j < 93) → zM sM k j = zM st k j) ∧ zM sM 39 3 = zM st 39 3 ∧ zM sM 39 20 = zM st 39 20
theorem MX.of {st sM : zS} (h : MS st sM) : MX st sM := ⟨h.1, h.2.1, h.2.2.1, fun k j q _ => h.2.2.2.1 k j q, h.2.2.2.2.1, h.2.2.2.2.2⟩
theorem MX.ms {st sM sN : zS} (h : MX st sM) (g : MS sM sN) : MX st sN := ⟨g.1.trans h.1, g.2.1.trans h.2.1, g.2.2.1.trans h.2.2.1, fun k j q q2 => (g.2.2.2.1 k j q).trans (h.2.2.2.1 k j q q2), g.2.2.2.2.1.trans h.2.2.2.2.1, g.2.2.2.2.2.trans h.2.2.2.2.2⟩
theorem MX.line {st sM : zS} (h : MX st sM) {j : Nat} (hj : 53 ≤ j ∧ j < 93) (x : Int32) : MX st (zPM sM 40 j x) := by
  refine ⟨h.1, h.2.1, h.2.2.1, fun k' j' q q2 => ?_, ?_, ?_⟩
  · rw [zM_PM, if_neg (by omega)]; exact h.2.2.2.1 k' j' q q2
  · rw [zM_PM, if_neg (by omega)]; exact h.2.2.2.2.1
  · rw [zM_PM, if_neg (by omega)]; exact h.2.2.2.2.2
theorem MX.sh {st sM : zS} (h : MX st sM) (hs : Sh st) : Sh sM := hs.cc ⟨h.1, h.2.1, h.2.2.1⟩
theorem MX.b {st sM : zS} (h : MX st sM) {j : Nat} (hj : ¬ (53 ≤ j ∧ j < 93)) : zM sM 40 j = zM st 40 j := h.2.2.2.1 40 j (by omega) (by omega)
theorem hold_info {st : zS} (h : Inv st) : ∃ hd c sz base : Nat, ∃ f : Nat → Nat, zR st 1 2 = some hd ∧ zTg st hd = 16 ∧ zR st hd 3 = some c ∧ zTg st c = 1 ∧ zLn st c = 100 ∧ zM st hd 4 = nI sz ∧ sz ≤ 100 ∧ (∀ i, i < sz → zM st c i = nI (f i)) ∧ depN f sz = some 0 ∧ base ≤ 808 ∧ ∀ sM, MX st sM → f_X12_tellsOf sM 39 (nI 243) (nI 0) = some (nI sz) ∧ nI 248 + nI 140 * zM sM 40 7 = nI base ∧ ∀ i, i < sz → zM sM 40 (base + i) = stp (f i) := by
  have hs := h.1
  have hK := h.2.1.2.1.1.2
  obtain ⟨hd, e3, e4⟩ := h.2.1.2.2.2.2.2.2.2.2.2.2.2.2.2
  obtain ⟨want, look, cnt, c, sz, f, p1, p2, p3, p4, p5, p6, p7, p8, p9, p10, p11, p12, p13, p14, p15, p16, p17, p18, p19⟩ := e4
  rcases p19 with ⟨q1, -, -, -, q2⟩ | ⟨act, w, l, q0, q1, q2, q3, q4, q5, q6, q7, q8, q9, q10⟩
  · refine ⟨hd, c, sz, 108, f, e3, p1, p2, p3, p4, p10, p16, p18, p17, by omega, fun sM hm => ?_⟩
    have e7 : zM sM 40 7 = -1 := (hm.b (by omega)).trans q1
    refine ⟨?_, by rw [e7]; decide, fun i hi => absurd hi (by rw [q2]; omega)⟩
    rw [m_tells0 (hm.sh hs) e7, q2]
  · refine ⟨hd, c, sz, 248 + 140 * act, f, e3, p1, p2, p3, p4, p10, p16, p18, p17, by omega, fun sM hm => ?_⟩
    have e7 : zM sM 40 7 = nI act := (hm.b (by omega)).trans q1
    refine ⟨?_, by rw [e7, n_mul, nI_add], fun i hi => ?_⟩
    · rw [m_tells1 (hm.sh hs) (act := act) (by omega) e7 243 (by omega), hm.b (by omega), q9]
    · rw [hm.b (by omega)]; exact q10 i hi
def byW (sM : zS) (w k v p s : Nat) : zS := zPM (zPM (zPM (zPM (zPM (zPM sM 42 0 (nI w)) 42 1 (nI k)) 42 2 (nI v)) 42 3 (nI (p / 10))) 42 4 (nI (p - p / 10 * 10))) 42 5 (nI s)
theorem byW_ms (sM : zS) (w k v p s : Nat) : MT sM (byW sM w k v p s) := (((((MT.rf.pm _ _ _ (by omega)).pm _ _ _ (by omega)).pm _ _ _ (by omega)).pm _ _ _ (by omega)).pm _ _ _ (by omega)).pm _ _ _ (by omega)
theorem byW_v (sM : zS) (w k v p s : Nat) : ∀ l, l < 6 → zM (byW sM w k v p s) 42 l = nI (valT w k v p s l) := by
  intro l hl
  have hll : l = 0 ∨ l = 1 ∨ l = 2 ∨ l = 3 ∨ l = 4 ∨ l = 5 := by omega
  rcases hll with rfl | rfl | rfl | rfl | rfl | rfl <;> rfl
theorem m_by {st sM : zS} (hs : Sh sM) {N w k v p s n sz base : Nat} (hn : zM sM 40 8 = nI n) (hpn : p < n) (hn40 : n ≤ 40) (hw : w < 6) (hv : zM sM 40 (53 + p) = nI w) (h11 : zM sM 40 (11 + w) = nI k) (h17 : zM sM 40 (17 + w) = nI v) (hsm : (p = 0 ∧ s = 0) ∨ (p ≠ 0 ∧ zM sM 40 (53 + p - 1) = nI w ∧ s = 1) ∨ (p ≠ 0 ∧ zM sM 40 (53 + p - 1) ≠ nI w ∧ s = 0)) (ht : f_X12_tellsOf (byW sM w k v p s) 39 (nI 243) (nI 0) = some (nI sz)) (hbase : nI 248 + nI 140 * zM sM 40 7 = nI base) : f_X12_signAt N sM 39 (nI p) = f_X12_signAt_137 N 39 (nI p) N (byW sM w k v p s) (nI 0) (nI sz) (nI base) (nI 0) (nI base) := by
  have e1 : f_X12_wayAt sM 39 (nI p) = some (nI w) := by
    unfold f_X12_wayAt
    simp (disch := omega) only [hn, hv, ↓reduceIte, List.mem_singleton, Option.bind_some, if_true, if_false, zM_PM, zLn_PM, zTg_PM, zR_PM, ↓zb, ↓zo, ↓zl, n_lt0, n_le, n_lt, n_eq, n_eq0, n_gt0, n_le0, n_ge0, n_zin, n_nat, nI_add, and_self, true_or, false_or, or_false, if_pos, if_neg, f_in_nI, Nat.reduceAdd, t39 hs, ↓bs (r39_1 hs), t40 hs, l40 hs]
  have e2 : nI p / nI 10 = nI (p / 10) := pk_div (by omega) (by omega) (by omega)
  unfold byW at *
  unfold f_X12_signAt
  rcases hsm with ⟨h0, rfl⟩ | ⟨h0, h1, rfl⟩ | ⟨h0, h1, rfl⟩
  · unfold f_X12_signAt_99 f_X12_signAt_100
    subst h0
    simp (disch := omega) only [↓bs e1, n_m1, ↓bs (r39_9 hs), t42 hs, l42 hs, h11, h17, e2, n_mul, pk_sub, ↓zl, hbase, ↓bs ht, ↓reduceIte, List.mem_singleton, Option.bind_some, if_true, if_false, zM_PM, zLn_PM, zTg_PM, zR_PM, ↓zb, ↓zo, ↓zl, n_lt0, n_le, n_lt, n_eq, n_eq0, n_gt0, n_le0, n_ge0, n_zin, n_nat, nI_add, and_self, true_or, false_or, or_false, if_pos, if_neg, f_in_nI, Nat.reduceAdd, t39 hs, ↓bs (r39_1 hs), t40 hs, l40 hs]
  · unfold f_X12_signAt_100
    simp (disch := omega) only [↓bs e1, n_m1, ↓bs (r39_9 hs), t42 hs, l42 hs, h11, h17, e2, n_mul, pk_sub, h0, h1, ↓zl, hbase, ↓bs ht, ↓reduceIte, List.mem_singleton, Option.bind_some, if_true, if_false, zM_PM, zLn_PM, zTg_PM, zR_PM, ↓zb, ↓zo, ↓zl, n_lt0, n_le, n_lt, n_eq, n_eq0, n_gt0, n_le0, n_ge0, n_zin, n_nat, nI_add, and_self, true_or, false_or, or_false, if_pos, if_neg, f_in_nI, Nat.reduceAdd, t39 hs, ↓bs (r39_1 hs), t40 hs, l40 hs]
  · unfold f_X12_signAt_99 f_X12_signAt_100
    simp (disch := omega) only [↓bs e1, n_m1, ↓bs (r39_9 hs), t42 hs, l42 hs, h11, h17, e2, n_mul, pk_sub, h0, h1, ↓zl, hbase, ↓bs ht, ↓reduceIte, List.mem_singleton, Option.bind_some, if_true, if_false, zM_PM, zLn_PM, zTg_PM, zR_PM, ↓zb, ↓zo, ↓zl, n_lt0, n_le, n_lt, n_eq, n_eq0, n_gt0, n_le0, n_ge0, n_zin, n_nat, nI_add, and_self, true_or, false_or, or_false, if_pos, if_neg, f_in_nI, Nat.reduceAdd, t39 hs, ↓bs (r39_1 hs), t40 hs, l40 hs]
def Eff (st sM : zS) (tried way : Int32) (e : Nat → Int32) : Prop := (∀ p, p < 40 → f_X2_numberIf st 1 (nI p) tried way = some (e p)) ∧ (∀ p, p < K st 40 8 → zM sM 40 (53 + p) = e p) ∧ (∀ p, K st 40 8 ≤ p → e p = -1) ∧ ∀ p, e p = -1 ∨ ∃ w, w < K st 40 0 ∧ e p = nI w
theorem sign_full {st : zS} (h : Inv st) {N : Nat} (hN : 3000 ≤ N) {sM : zS} (hm : MX st sM) {tried way : Int32} {e : Nat → Int32} (he : Eff st sM tried way e) {p : Nat} (hp : p < 40) : ∃ y sM', y ≤ 100 ∧ f_X2_signIf N st 1 (nI p) tried way = some (nI y) ∧ f_X12_signAt N sM 39 (nI p) = some (sM', nI y) ∧ MT sM sM' := by
  have hs := h.1
  have hsM := hm.sh hs
  have h6 := h.2.1.1.1.2
  have n1 := h.2.1.2.2.2.2.2.1.1.1
  have n2 := h.2.1.2.2.2.2.2.1.1.2
  have k8 : zM sM 40 8 = nI (K st 40 8) := (hm.b (by omega)).trans n1
  obtain ⟨v1, v2, v3, v4⟩ := he
  have x1 := v1 p hp
  by_cases hm1 : e p = -1
  · refine ⟨100, sM, Nat.le_refl _, ?_, ?_, MT.rf⟩
    · have e1 := x_wayN h (a := -1) (Or.inl (by decide))
      unfold f_X2_signIf
      rw [hm1] at x1
      clear v1 v2 v3 v4
      simp (disch := omega) only [↓bs x1, ↓bs e1, ↓reduceIte, List.mem_singleton, Option.bind_some, if_true, if_false, zM_PM, zLn_PM, zTg_PM, zR_PM, ↓zb, ↓zo, ↓zl, n_lt0, n_le, n_lt, n_eq, n_eq0, n_gt0, n_le0, n_ge0, n_zin, n_nat, nI_add, and_self, true_or, false_or, or_false, if_pos, if_neg, f_in_nI, Nat.reduceAdd, t1 hs]
    · have e1 : f_X12_wayAt sM 39 (nI p) = some (-1) := by
        have v5 := v2 p
        unfold f_X12_wayAt
        by_cases hpk : p < K st 40 8
        · have v6 := v5 hpk
          rw [hm1] at v6
          clear v1 v2 v3 v4 v5
          simp (disch := omega) only [k8, v6, ↓reduceIte, List.mem_singleton, Option.bind_some, if_true, if_false, zM_PM, zLn_PM, zTg_PM, zR_PM, ↓zb, ↓zo, ↓zl, n_lt0, n_le, n_lt, n_eq, n_eq0, n_gt0, n_le0, n_ge0, n_zin, n_nat, nI_add, and_self, true_or, false_or, or_false, if_pos, if_neg, f_in_nI, Nat.reduceAdd, t39 hsM, ↓bs (r39_1 hsM), t40 hsM, l40 hsM]
        · clear v1 v2 v3 v4 v5
          simp (disch := omega) only [k8, ↓reduceIte, List.mem_singleton, Option.bind_some, if_true, if_false, zM_PM, zLn_PM, zTg_PM, zR_PM, ↓zb, ↓zo, ↓zl, n_lt0, n_le, n_lt, n_eq, n_eq0, n_gt0, n_le0, n_ge0, n_zin, n_nat, nI_add, and_self, true_or, false_or, or_false, if_pos, if_neg, f_in_nI, Nat.reduceAdd, t39 hsM, ↓bs (r39_1 hsM), t40 hsM, l40 hsM]
      clear v1 v2 v3 v4
      unfold f_X12_signAt
      have e2 : ((-1 : Int32) = -1) = True := eq_self _
      simp (disch := omega) only [↓bs e1, e2, ↓reduceIte, List.mem_singleton, Option.bind_some, if_true, if_false, zM_PM, zLn_PM, zTg_PM, zR_PM, ↓zb, ↓zo, ↓zl, n_lt0, n_le, n_lt, n_eq, n_eq0, n_gt0, n_le0, n_ge0, n_zin, n_nat, nI_add, and_self, true_or, false_or, or_false, if_pos, if_neg, f_in_nI, Nat.reduceAdd, t39 hsM]
  · have hpk : p < K st 40 8 := by
      by_cases q : p < K st 40 8
      · exact q
      · exact absurd (v3 p (by omega)) hm1
    obtain ⟨w, hw, hew⟩ := (v4 p).resolve_left hm1
    have m53 := (v2 p hpk).trans hew
    rw [hew] at x1
    have pv : p ≠ 0 → f_X2_numberIf st 1 (nI (p - 1)) tried way = some (e (p - 1)) ∧ zM sM 40 (53 + p - 1) = e (p - 1) := fun q => ⟨v1 (p - 1) (by omega), by rw [← v2 (p - 1) (by omega)]; congr 1; omega⟩
    clear v1 v2 v3 v4 hm1
    rcases way_cases h (nI w) with ha | ⟨w', x, hw', ee, hx, hL⟩
    · rw [n_lt0 (by omega), n_le (by omega) (by omega)] at ha
      exact absurd (ha.resolve_left id) (by omega)
    rw [n_eq (by omega) (by omega)] at ee
    subst ee
    obtain ⟨k, v, sl, u1, u2, u3, u4, u5, u6, u7, u8, u9, u10, u11, u12, u13, u14, u15, u16⟩ := hL
    clear u15 u16
    have hl := tgK_ln k (by omega)
    have xw := x_wayS h hw hx
    obtain ⟨hd, c, sz, base, f, g1, g2, g3, g4, g5, g6, g7, g8, g9, g10, g11⟩ := hold_info h
    have fin : ∀ s, s ≤ 1 → ((p = 0 ∧ s = 0) ∨ (p ≠ 0 ∧ zM sM 40 (53 + p - 1) = nI w ∧ s = 1) ∨ (p ≠ 0 ∧ zM sM 40 (53 + p - 1) ≠ nI w ∧ s = 0)) → ∃ y sM', y ≤ 100 ∧ f_X6_signOf N st hd x (nI p) (nI s) = some (nI y) ∧ f_X12_signAt N sM 39 (nI p) = some (sM', nI y) ∧ MT sM sM' := by
      intro s hs1 hcase
      have hW := byW_ms sM w k v p s
      obtain ⟨y1, y2, y3⟩ := g11 _ (hm.ms hW.ms)
      rw [hW.mB (Or.inl rfl)] at y2
      rw [m_by (st := st) hsM k8 hpk n2 (by omega) m53 ((hm.b (by omega)).trans u12) ((hm.b (by omega)).trans u13) hcase y1 y2]
      obtain ⟨y, sM', z1, z2, z3, z4⟩ := sign_loop g2 g3 g4 g5 g6 g7 g8 g9 (by rw [u5]; exact hl) u8 u9 u10 (by omega) u1 u2 hp hs1 N g10 (hW.sh hsM) y3 (nI p) sz N N 0 0 0 0 _ (by omega) (by omega) (by omega) rfl ⟨by decide, fun j hj => by omega⟩ MT.rf (byW_v sM w k v p s) (by omega)
      exact ⟨y, sM', z1, z2, z3, hW.tr z4⟩
    clear g11 g8 m53
    by_cases h0 : p = 0
    · obtain ⟨y, sM', z1, z2, z3, z4⟩ := fin 0 (by omega) (Or.inl ⟨h0, rfl⟩)
      refine ⟨y, sM', z1, ?_, z3, z4⟩
      clear fin pv z3
      unfold f_X2_signIf f_X2_signIf_46 f_X2_signIf_47 f_X2_signIf_66
      subst h0
      simp (disch := omega) only [↓bs x1, ↓bs xw, ↓bs g1, g2, ↓bs z2, ↓reduceIte, List.mem_singleton, Option.bind_some, if_true, if_false, zM_PM, zLn_PM, zTg_PM, zR_PM, ↓zb, ↓zo, ↓zl, n_lt0, n_le, n_lt, n_eq, n_eq0, n_gt0, n_le0, n_ge0, n_zin, n_nat, nI_add, and_self, true_or, false_or, or_false, if_pos, if_neg, f_in_nI, Nat.reduceAdd, t1 hs]
    · obtain ⟨pv1, pv2⟩ := pv h0
      by_cases hsame : e (p - 1) = nI w
      · obtain ⟨y, sM', z1, z2, z3, z4⟩ := fin 1 (by omega) (Or.inr (Or.inl ⟨h0, pv2.trans hsame, rfl⟩))
        refine ⟨y, sM', z1, ?_, z3, z4⟩
        clear fin pv z3
        unfold f_X2_signIf f_X2_signIf_47 f_X2_signIf_66
        rw [hsame] at pv1
        simp (disch := omega) only [↓bs x1, ↓bs xw, ↓bs g1, g2, ↓bs z2, h0, pk_sub, ↓bs pv1, u5, hl, u9, ↓reduceIte, List.mem_singleton, Option.bind_some, if_true, if_false, zM_PM, zLn_PM, zTg_PM, zR_PM, ↓zb, ↓zo, ↓zl, n_lt0, n_le, n_lt, n_eq, n_eq0, n_gt0, n_le0, n_ge0, n_zin, n_nat, nI_add, and_self, true_or, false_or, or_false, if_pos, if_neg, f_in_nI, Nat.reduceAdd, t1 hs]
      · obtain ⟨y, sM', z1, z2, z3, z4⟩ := fin 0 (by omega) (Or.inr (Or.inr ⟨h0, by rw [pv2]; exact hsame, rfl⟩))
        refine ⟨y, sM', z1, ?_, z3, z4⟩
        clear fin pv z3
        unfold f_X2_signIf f_X2_signIf_46 f_X2_signIf_47 f_X2_signIf_66
        simp (disch := omega) only [↓bs x1, ↓bs xw, ↓bs g1, g2, ↓bs z2, h0, pk_sub, ↓bs pv1, u5, hl, u9, hsame, ↓reduceIte, List.mem_singleton, Option.bind_some, if_true, if_false, zM_PM, zLn_PM, zTg_PM, zR_PM, ↓zb, ↓zo, ↓zl, n_lt0, n_le, n_lt, n_eq, n_eq0, n_gt0, n_le0, n_ge0, n_zin, n_nat, nI_add, and_self, true_or, false_or, or_false, if_pos, if_neg, f_in_nI, Nat.reduceAdd, t1 hs]
theorem eff_now {st : zS} (h : Inv st) {sM : zS} (hm : MS st sM) : Eff st sM (-1) (-1) (fun p => if p < K st 40 8 then zM st 40 (53 + p) else -1) := by
  have hs := h.1
  obtain ⟨⟨p1, p2⟩, p3, p4⟩ := h.2.1.2.2.2.2.2.1
  refine ⟨fun p hp => ?_, fun p hp => ?_, fun p hp => ?_, fun p => ?_⟩
  · have e1 := f_get (ns7 hs) (p3.trans p1) p2 (by omega) (i := p) (by omega)
    have e2 : (if p < K st 40 8 then zM st (7 + 1) p else -1) = (if p < K st 40 8 then zM st 40 (53 + p) else -1) := by
      by_cases q : p < K st 40 8
      · rw [if_pos q, if_pos q]; exact (p4 p q).1
      · rw [if_neg q, if_neg q]
    rw [e2] at e1
    clear p4
    unfold f_X2_numberIf
    simp (disch := omega) only [n_m1, ↓bs e1, ↓reduceIte, List.mem_singleton, Option.bind_some, if_true, if_false, zM_PM, zLn_PM, zTg_PM, zR_PM, ↓zb, ↓zo, ↓zl, n_lt0, n_le, n_lt, n_eq, n_eq0, n_gt0, n_le0, n_ge0, n_zin, n_nat, nI_add, and_self, true_or, false_or, or_false, if_pos, if_neg, f_in_nI, Nat.reduceAdd, t1 hs, ↓bs (r1_5 hs), t7 hs]
  · dsimp only; rw [if_pos hp]; exact hm.mB (Or.inl rfl)
  · dsimp only; rw [if_neg (by omega)]
  · dsimp only
    by_cases q : p < K st 40 8
    · rw [if_pos q]
      rcases (p4 p q).2 with r | ⟨w, r1, r2⟩
      · exact Or.inl r
      · exact Or.inr ⟨w, r1, r2⟩
    · rw [if_neg q]; exact Or.inl rfl
theorem sign_now {st : zS} (h : Inv st) {N : Nat} (hN : 3000 ≤ N) {sM : zS} (hm : MS st sM) {p : Nat} (hp : p < 40) : ∃ y sM', y ≤ 100 ∧ f_X2_signAt N st 1 (nI p) = some (nI y) ∧ f_X12_signAt N sM 39 (nI p) = some (sM', nI y) ∧ MS st sM' ∧ MT sM sM' := by
  obtain ⟨y, sM', z1, z2, z3, z4⟩ := sign_full h hN (MX.of hm) (eff_now h hm) hp
  refine ⟨y, sM', z1, ?_, z3, hm.tr z4.ms, z4⟩
  unfold f_X2_signAt
  simp only [z2, t1 h.1, List.mem_singleton, ↓reduceIte, Option.bind_some]
