/-! twice, mend -/
theorem twice_loop {st : zS} (h : Inv st) {N : Nat} (hN : 3000 ≤ N) {P want w7 start : Nat} {hd : Nat} (hP : P ≤ 5) (h7 : w7 ≤ 4) (hst : start + w7 = want) (hw : want ≤ 40) (kc : f_X2_placeCount st 1 = some (nI P)) (wn : f_X12_wantNow st 39 = some (nI want)) (a1 a2 : Int32) : ∀ kk f1 f2 j A sM, j + kk = w7 → kk < f1 → kk < f2 → MS st sM → A ≤ 100 ^ (P + j) → ∃ U sM', U ≤ 100 ^ (P + w7) ∧ f_X11_twice_47 N st 0 a1 a2 f1 (nI want) (nI w7) (lN A) (nI (start + j)) = (Option.bind (f_X11_lowest N (lN U) (lN (100 ^ (P + w7))) a2) (fun r => some r)) ∧ f_X12_twice_53 N 39 a1 a2 f2 sM (lN A) (lN (100 ^ (P + j))) (nI (start + j)) = (Option.bind (f_X12_lowest N (lN U) (lN (100 ^ (P + w7))) a2) (fun r => some (sM', r))) ∧ MS st sM' := by
  intro kk
  have hs := h.1
  induction kk with
  | zero =>
    intro f1 f2 j A sM h1 h2 h3 hm hA
    obtain ⟨f1, rfl⟩ : ∃ m, f1 = m + 1 := ⟨f1 - 1, by omega⟩
    obtain ⟨f2, rfl⟩ : ∃ m, f2 = m + 1 := ⟨f2 - 1, by omega⟩
    have hj : j = w7 := by omega
    subst hj
    have hsM := hm.sh hs
    have wn2 := (hm.want hs).trans wn
    have hh : f_X11_hundreds N (nI (P + j)) = some (lN (100 ^ (P + j))) := x_hund N (P + j) (by omega) (P + j) N 0 (by omega) (by omega)
    refine ⟨A, sM, hA, ?_, ?_, hm⟩
    · rw [f_X11_twice_47]
      simp (disch := omega) only [↓bs kc, ↓bs hh, ↓reduceIte, List.mem_singleton, Option.bind_some, if_true, if_false, zM_PM, zLn_PM, zTg_PM, zR_PM, ↓zb, ↓zo, ↓zl, n_lt0, n_le, n_lt, n_eq, n_eq0, n_gt0, n_le0, n_ge0, n_zin, n_nat, nI_add, and_self, true_or, false_or, or_false, if_pos, if_neg, f_in_nI, Nat.reduceAdd, t0 hs, ↓bs (r0_0 hs), t1 hs]
    · rw [f_X12_twice_53]
      simp (disch := omega) only [↓bs wn2, ↓reduceIte, List.mem_singleton, Option.bind_some, if_true, if_false, zM_PM, zLn_PM, zTg_PM, zR_PM, ↓zb, ↓zo, ↓zl, n_lt0, n_le, n_lt, n_eq, n_eq0, n_gt0, n_le0, n_ge0, n_zin, n_nat, nI_add, and_self, true_or, false_or, or_false, if_pos, if_neg, f_in_nI, Nat.reduceAdd, t39 hsM]
  | succ kk ih =>
    intro f1 f2 j A sM h1 h2 h3 hm hA
    obtain ⟨f1, rfl⟩ : ∃ m, f1 = m + 1 := ⟨f1 - 1, by omega⟩
    obtain ⟨f2, rfl⟩ : ∃ m, f2 = m + 1 := ⟨f2 - 1, by omega⟩
    have hsM := hm.sh hs
    have wn2 := (hm.want hs).trans wn
    obtain ⟨y, s1, y1, y2, y3, y4, -⟩ := sign_now h hN hm (show start + j < 40 by omega)
    obtain ⟨U, s2, u1, u2, u3, u4⟩ := ih f1 f2 (j + 1) (A * (100 - y)) s1 (by omega) (by omega) (by omega) y4 (by
      rw [← Nat.add_assoc, Nat.pow_succ]
      exact Nat.mul_le_mul hA (by omega))
    clear ih
    refine ⟨U, s2, u1, ?_, ?_, u4⟩
    · rw [f_X11_twice_47]
      simp (disch := omega) only [↓bs y2, pk_sub, nI_l, lN_mul, ↓zl, ↓reduceIte, List.mem_singleton, Option.bind_some, if_true, if_false, zM_PM, zLn_PM, zTg_PM, zR_PM, ↓zb, ↓zo, ↓zl, n_lt0, n_le, n_lt, n_eq, n_eq0, n_gt0, n_le0, n_ge0, n_zin, n_nat, nI_add, and_self, true_or, false_or, or_false, if_pos, if_neg, f_in_nI, Nat.reduceAdd, t0 hs, ↓bs (r0_0 hs), t1 hs]
      exact u2
    · rw [f_X12_twice_53]
      rw [← Nat.add_assoc P j 1, Nat.pow_succ] at u3
      simp (disch := omega) only [↓bs wn2, y3, pk_sub, nI_l, lN_mul, ↓zl, ↓reduceIte, List.mem_singleton, Option.bind_some, if_true, if_false, zM_PM, zLn_PM, zTg_PM, zR_PM, ↓zb, ↓zo, ↓zl, n_lt0, n_le, n_lt, n_eq, n_eq0, n_gt0, n_le0, n_ge0, n_zin, n_nat, nI_add, and_self, true_or, false_or, or_false, if_pos, if_neg, f_in_nI, Nat.reduceAdd, t39 hsM]
      exact u3
theorem s_twice {st : zS} (h : Inv st) {N : Nat} (hN : 3000 ≤ N) (a1 a2 : Int32) : ∃ (r : Int64) (st1 st2 : zS), (f_X11_twice N st 0 a1 a2 = some r ∧ st1 = st) ∧ (f_X12_twice N st1 39 a1 a2 = some (st2, r)) ∧ Sh st1 ∧ Inv st2 := by
  have hs := h.1
  suffices q : ∃ (r : Int64) (st2 : zS), f_X11_twice N st 0 a1 a2 = some r ∧ f_X12_twice N st 39 a1 a2 = some (st2, r) ∧ MS st st2 by
    obtain ⟨r, st2, q1, q2, q3⟩ := q
    exact ⟨r, st, st2, ⟨q1, rfl⟩, q2, h.1, q3.inv h⟩
  have g2 := (f_isPt (a := a2)).2
  rcases i_neg a1 with z | ⟨L, hL, rfl⟩
  · refine ⟨-9223372036854775808, st, ?_, ?_, MS.rf⟩
    · unfold f_X11_twice
      simp (disch := omega) only [m_gt z, if_true]
    · unfold f_X12_twice
      simp (disch := omega) only [f_in_neg z, ↓reduceIte, List.mem_singleton, Option.bind_some, if_true, if_false, zM_PM, zLn_PM, zTg_PM, zR_PM, ↓zb, ↓zo, ↓zl, n_lt0, n_le, n_lt, n_eq, n_eq0, n_gt0, n_le0, n_ge0, n_zin, n_nat, nI_add, and_self, true_or, false_or, or_false, if_pos, if_neg, f_in_nI, Nat.reduceAdd]
  by_cases hL4 : 1 ≤ L ∧ L ≤ 4
  · obtain ⟨P, U, sM, b1, b2, b3, b4, b5, b6, b7, b8, b9⟩ := unseen_now h hN
    obtain ⟨hd, want, look, cnt, w1, w2, w3, w4, w5, w6, w7, w8, w9, w10, w11, w12, w13, w14⟩ := want_eq h
    have hsM := b8.sh hs
    have wn2 := (b8.want hs).trans w11
    have e7 : (if want < L then want else L) = min want L := by split <;> omega
    obtain ⟨V, sN, v1, v2, v3, v4⟩ := twice_loop h hN b2 (show min want L ≤ 4 by omega) (show (want - min want L) + min want L = want by omega) w7 b4 w11 (hd := hd) (nI L) a2 (min want L) N N 0 U sM (by omega) (by omega) (by omega) b8 b3
    rw [Nat.add_zero] at v2
    rw [Nat.add_zero, Nat.add_zero] at v3
    have hp := pow_le9 (show P + min want L ≤ 9 by omega)
    have x1 : f_X11_twice N st 0 (nI L) a2 = Option.bind (f_X11_lowest N (lN V) (lN (100 ^ (P + min want L))) a2) (fun r => some r) := by
      rw [← v2]
      unfold f_X11_twice
      by_cases hwl : want < L
      · rw [show min want L = want by omega]
        simp (disch := omega) only [hwl, ↓bs w1, w2, w3, ↓bs b5, ↓zl, pk_sub, ↓reduceIte, List.mem_singleton, Option.bind_some, if_true, if_false, zM_PM, zLn_PM, zTg_PM, zR_PM, ↓zb, ↓zo, ↓zl, n_lt0, n_le, n_lt, n_eq, n_eq0, n_gt0, n_le0, n_ge0, n_zin, n_nat, nI_add, and_self, true_or, false_or, or_false, if_pos, if_neg, f_in_nI, Nat.reduceAdd, t0 hs, ↓bs (r0_0 hs), t1 hs]
      · rw [show min want L = L by omega]
        simp (disch := omega) only [hwl, ↓bs w1, w2, w3, ↓bs b5, ↓zl, pk_sub, ↓reduceIte, List.mem_singleton, Option.bind_some, if_true, if_false, zM_PM, zLn_PM, zTg_PM, zR_PM, ↓zb, ↓zo, ↓zl, n_lt0, n_le, n_lt, n_eq, n_eq0, n_gt0, n_le0, n_ge0, n_zin, n_nat, nI_add, and_self, true_or, false_or, or_false, if_pos, if_neg, f_in_nI, Nat.reduceAdd, t0 hs, ↓bs (r0_0 hs), t1 hs]
    by_cases hpt : a2 = 0 ∨ a2 = nI 1
    · rw [if_pos hpt] at g2
      obtain ⟨r, r1, r2⟩ := low_eq hN (up := lN V) (u := V) (Or.inl rfl) (by omega) (by omega : 100 ^ (P + min want L) < 2 ^ 63) hp.1 hpt
      refine ⟨r, sN, ?_, ?_, v4⟩
      · rw [x1, r1]; rfl
      · have x2 : f_X12_twice N st 39 (nI L) a2 = Option.bind (f_X12_lowest N (lN V) (lN (100 ^ (P + min want L))) a2) (fun r => some (sN, r)) := by
          rw [← v3]
          unfold f_X12_twice f_X12_twice_51
          by_cases hwl : want ≤ L
          · rw [show want - min want L = 0 by omega]
            simp (disch := omega) only [hwl, ↓bs g2, b7, ↓bs b9, ↓bs wn2, pk_sub, ↓reduceIte, List.mem_singleton, Option.bind_some, if_true, if_false, zM_PM, zLn_PM, zTg_PM, zR_PM, ↓zb, ↓zo, ↓zl, n_lt0, n_le, n_lt, n_eq, n_eq0, n_gt0, n_le0, n_ge0, n_zin, n_nat, nI_add, and_self, true_or, false_or, or_false, if_pos, if_neg, f_in_nI, Nat.reduceAdd, t39 hs, t39 hsM]
          · rw [show want - min want L = want - L by omega]
            simp (disch := omega) only [hwl, ↓bs g2, b7, ↓bs b9, ↓bs wn2, pk_sub, ↓reduceIte, List.mem_singleton, Option.bind_some, if_true, if_false, zM_PM, zLn_PM, zTg_PM, zR_PM, ↓zb, ↓zo, ↓zl, n_lt0, n_le, n_lt, n_eq, n_eq0, n_gt0, n_le0, n_ge0, n_zin, n_nat, nI_add, and_self, true_or, false_or, or_false, if_pos, if_neg, f_in_nI, Nat.reduceAdd, t39 hs, t39 hsM]
        rw [x2, r2]; rfl
    · rw [if_neg hpt] at g2
      refine ⟨-9223372036854775808, st, ?_, ?_, MS.rf⟩
      · rw [x1, low_no hpt]; rfl
      · unfold f_X12_twice
        simp (disch := omega) only [↓bs g2, ↓reduceIte, List.mem_singleton, Option.bind_some, if_true, if_false, zM_PM, zLn_PM, zTg_PM, zR_PM, ↓zb, ↓zo, ↓zl, n_lt0, n_le, n_lt, n_eq, n_eq0, n_gt0, n_le0, n_ge0, n_zin, n_nat, nI_add, and_self, true_or, false_or, or_false, if_pos, if_neg, f_in_nI, Nat.reduceAdd]
  · refine ⟨-9223372036854775808, st, ?_, ?_, MS.rf⟩
    · unfold f_X11_twice
      by_cases h1 : L < 1
      · simp (disch := omega) only [↓reduceIte, List.mem_singleton, Option.bind_some, if_true, if_false, zM_PM, zLn_PM, zTg_PM, zR_PM, ↓zb, ↓zo, ↓zl, n_lt0, n_le, n_lt, n_eq, n_eq0, n_gt0, n_le0, n_ge0, n_zin, n_nat, nI_add, and_self, true_or, false_or, or_false, if_pos, if_neg, f_in_nI, Nat.reduceAdd]
      · simp (disch := omega) only [↓reduceIte, List.mem_singleton, Option.bind_some, if_true, if_false, zM_PM, zLn_PM, zTg_PM, zR_PM, ↓zb, ↓zo, ↓zl, n_lt0, n_le, n_lt, n_eq, n_eq0, n_gt0, n_le0, n_ge0, n_zin, n_nat, nI_add, and_self, true_or, false_or, or_false, if_pos, if_neg, f_in_nI, Nat.reduceAdd]
    · unfold f_X12_twice
      simp (disch := omega) only [↓reduceIte, List.mem_singleton, Option.bind_some, if_true, if_false, zM_PM, zLn_PM, zTg_PM, zR_PM, ↓zb, ↓zo, ↓zl, n_lt0, n_le, n_lt, n_eq, n_eq0, n_gt0, n_le0, n_ge0, n_zin, n_nat, nI_add, and_self, true_or, false_or, or_false, if_pos, if_neg, f_in_nI, Nat.reduceAdd]
theorem g_cmp {a b : Nat} (ha : a < 2 ^ 63) (hb : b < 2 ^ 63) : (lg_cmp (lN a) (lN b) ≤ 0) = (a ≤ b) := by
  unfold lg_cmp
  by_cases h1 : b < a
  · have e : (lN a > lN b) := (pk_lLT hb ha).mpr h1
    rw [if_pos e]
    exact propext ⟨fun q => absurd q (by decide), fun q => by omega⟩
  · have e : ¬ (lN a > lN b) := fun q => h1 ((pk_lLT hb ha).mp q)
    rw [if_neg e]
    split
    · exact propext ⟨fun _ => by omega, fun _ => by decide⟩
    · exact propext ⟨fun _ => by omega, fun _ => by decide⟩
theorem eff_try {st : zS} (h : Inv st) {sM : zS} (hm : MS st sM) {p w : Nat} (hp : p < K st 40 8) (hw : w < K st 40 0) : Eff st (zPM sM 40 (53 + p) (nI w)) (nI p) (nI w) (fun q => if q = p then nI w else if q < K st 40 8 then zM st 40 (53 + q) else -1) := by
  have hs := h.1
  obtain ⟨⟨p1, p2⟩, p3, p4⟩ := h.2.1.2.2.2.2.2.1
  refine ⟨fun q hq => ?_, fun q hq => ?_, fun q hq => ?_, fun q => ?_⟩
  · have e1 := f_get (ns7 hs) (p3.trans p1) p2 (by omega) (i := q) (by omega)
    have e2 : (if q < K st 40 8 then zM st (7 + 1) q else -1) = (if q < K st 40 8 then zM st 40 (53 + q) else -1) := by
      by_cases c : q < K st 40 8
      · rw [if_pos c, if_pos c]; exact (p4 q c).1
      · rw [if_neg c, if_neg c]
    rw [e2] at e1
    clear p4
    unfold f_X2_numberIf
    dsimp only
    by_cases c : q = p
    · simp (disch := omega) only [c, ↓reduceIte, List.mem_singleton, Option.bind_some, if_true, if_false, zM_PM, zLn_PM, zTg_PM, zR_PM, ↓zb, ↓zo, ↓zl, n_lt0, n_le, n_lt, n_eq, n_eq0, n_gt0, n_le0, n_ge0, n_zin, n_nat, nI_add, and_self, true_or, false_or, or_false, if_pos, if_neg, f_in_nI, Nat.reduceAdd]
    · simp (disch := omega) only [c, ↓bs e1, ↓reduceIte, List.mem_singleton, Option.bind_some, if_true, if_false, zM_PM, zLn_PM, zTg_PM, zR_PM, ↓zb, ↓zo, ↓zl, n_lt0, n_le, n_lt, n_eq, n_eq0, n_gt0, n_le0, n_ge0, n_zin, n_nat, nI_add, and_self, true_or, false_or, or_false, if_pos, if_neg, f_in_nI, Nat.reduceAdd, t1 hs, ↓bs (r1_5 hs), t7 hs]
  · dsimp only
    rw [zM_PM]
    by_cases c : q = p
    · rw [if_pos ⟨rfl, by omega⟩, if_pos c]
    · rw [if_neg (by omega), if_neg c, if_pos hq]; exact hm.mB (Or.inl rfl)
  · dsimp only
    rw [if_neg (by omega), if_neg (by omega)]
  · dsimp only
    by_cases c : q = p
    · rw [if_pos c]; exact Or.inr ⟨w, hw, rfl⟩
    · rw [if_neg c]
      by_cases q' : q < K st 40 8
      · rw [if_pos q']
        rcases (p4 q q').2 with r | ⟨w, r1, r2⟩
        · exact Or.inl r
        · exact Or.inr ⟨w, r1, r2⟩
      · rw [if_neg q']; exact Or.inl rfl
theorem ms_back {st sM sN : zS} (hm : MS st sM) {j : Nat} {x : Int32} (h2 : MS (zPM sM 40 j x) sN) : MS st (zPM sN 40 j (zM sM 40 j)) := by
  refine ⟨h2.1.trans hm.1, h2.2.1.trans hm.2.1, h2.2.2.1.trans hm.2.2.1, fun k' j' q => ?_, ?_, ?_⟩
  · rw [zM_PM]
    by_cases c : k' = 40 ∧ j' = j
    · rw [if_pos c, c.1, c.2]; exact hm.mB (Or.inl rfl)
    · rw [if_neg c, h2.2.2.2.1 k' j' q, zM_PM, if_neg c]; exact hm.2.2.2.1 k' j' q
  · rw [zM_PM, if_neg (by omega), h2.2.2.2.2.1, zM_PM, if_neg (by omega)]; exact hm.2.2.2.2.1
  · rw [zM_PM, if_neg (by omega), h2.2.2.2.2.2, zM_PM, if_neg (by omega)]; exact hm.2.2.2.2.2
theorem mend_loop {st : zS} (h : Inv st) {N : Nat} (hN : 3000 ≤ N) {P w : Nat} {pl : Nat → Nat} (hP : P ≤ 5) (hpl : ∀ i, i < P → pl i < 40) (kc : f_X2_placeCount st 1 = some (nI P)) (ka : ∀ i, i < P → f_X2_placeAt st 1 (nI i) = some (nI (pl i))) (km : ∀ sM, MX st sM → ∃ st3, f_X12_looksForPlaces N sM 39 = some st3 ∧ MS sM st3 ∧ PlM st3 P pl) (hw : w < K st 40 0) : ∀ kk f1 f2 i g best sM, i + kk = P → kk < f1 → kk < f2 → g ≤ 10000000000 → MS st sM → PlM sM P pl → ∃ r sM', f_X11_mend_27 N st 0 (nI w) f1 best (lN g) (nI i) = some r ∧ f_X12_mend_22 N 39 (nI w) f2 sM (lN g) best (nI i) = some (sM', r) ∧ MS st sM' := by
  intro kk
  have hs := h.1
  obtain ⟨⟨p1, p2⟩, p3, -⟩ := h.2.1.2.2.2.2.2.1
  induction kk with
  | zero =>
    intro f1 f2 i g best sM h1 h2 h3 hgb hm hg
    obtain ⟨f1, rfl⟩ : ∃ m, f1 = m + 1 := ⟨f1 - 1, by omega⟩
    obtain ⟨f2, rfl⟩ : ∃ m, f2 = m + 1 := ⟨f2 - 1, by omega⟩
    have hi : i = P := by omega
    subst hi
    have hsM := hm.sh hs
    have g1 := hg.1
    clear hg hpl ka km
    refine ⟨best, sM, ?_, ?_, hm⟩
    · rw [f_X11_mend_27]
      simp (disch := omega) only [↓bs kc, ↓reduceIte, List.mem_singleton, Option.bind_some, if_true, if_false, zM_PM, zLn_PM, zTg_PM, zR_PM, ↓zb, ↓zo, ↓zl, n_lt0, n_le, n_lt, n_eq, n_eq0, n_gt0, n_le0, n_ge0, n_zin, n_nat, nI_add, and_self, true_or, false_or, or_false, if_pos, if_neg, f_in_nI, Nat.reduceAdd, t0 hs, ↓bs (r0_0 hs), t1 hs]
    · rw [f_X12_mend_22]
      simp (disch := omega) only [g1, ↓reduceIte, List.mem_singleton, Option.bind_some, if_true, if_false, zM_PM, zLn_PM, zTg_PM, zR_PM, ↓zb, ↓zo, ↓zl, n_lt0, n_le, n_lt, n_eq, n_eq0, n_gt0, n_le0, n_ge0, n_zin, n_nat, nI_add, and_self, true_or, false_or, or_false, if_pos, if_neg, f_in_nI, Nat.reduceAdd, t39 hsM]
  | succ kk ih =>
    intro f1 f2 i g best sM h1 h2 h3 hgb hm hg
    obtain ⟨f1, rfl⟩ : ∃ m, f1 = m + 1 := ⟨f1 - 1, by omega⟩
    obtain ⟨f2, rfl⟩ : ∃ m, f2 = m + 1 := ⟨f2 - 1, by omega⟩
    have hsM := hm.sh hs
    have a1 := ka i (by omega)
    have g1 := hg.1
    have g2 := hg.2 i (by omega)
    have hpi := hpl i (by omega)
    have hh := f_has (ns7 hs) (p3.trans p1) (by omega) (nI (pl i))
    have e8 : zM sM 40 8 = nI (K st 40 8) := (hm.mB (Or.inl rfl)).trans p1
    by_cases hin : pl i < K st 40 8
    · rw [if_neg (by rw [n_lt0 (by omega), n_le (by omega) (by omega), false_or]; omega)] at hh
      obtain ⟨U, sN, u1, u2, u3, u4, u5⟩ := unseen_full h hN hP hpl kc ka km ((MX.of hm).line (j := 53 + pl i) (by omega) (nI w)) (eff_try h hm hin hw)
      have hp5 := pow_le5 hP
      have hmB := ms_back hm u4
      have hgB : PlM (zPM sN 40 (53 + pl i) (zM sM 40 (53 + pl i))) P pl := ⟨by rw [zM_PM, if_neg (by omega)]; exact u5.1, fun q hq => by rw [zM_PM, if_neg (by omega)]; exact u5.2 q hq⟩
      have hsN : Sh sN := u4.sh (hsM.pm _ _ _)
      by_cases hc : U ≤ g
      · obtain ⟨r, sF, v1, v2, v3⟩ := ih f1 f2 (i + 1) g best _ (by omega) (by omega) (by omega) hgb hmB hgB
        clear ih hg hpl ka km u4 u5 hgB
        refine ⟨r, sF, ?_, ?_, v3⟩
        · rw [f_X11_mend_27]
          unfold f_X11_mend_79 f_X11_mend_94
          simp (disch := omega) only [↓bs kc, ↓bs a1, ↓bs hh, ↓bs u2, g_cmp, hc, ↓reduceIte, List.mem_singleton, Option.bind_some, if_true, if_false, zM_PM, zLn_PM, zTg_PM, zR_PM, ↓zb, ↓zo, ↓zl, n_lt0, n_le, n_lt, n_eq, n_eq0, n_gt0, n_le0, n_ge0, n_zin, n_nat, nI_add, and_self, true_or, false_or, or_false, if_pos, if_neg, f_in_nI, Nat.reduceAdd, t0 hs, ↓bs (r0_0 hs), t1 hs, ↓bs (r1_5 hs), t7 hs]
          exact v1
        · rw [f_X12_mend_22]
          unfold f_X12_mend_107 f_X12_mend_122 f_X12_mend_123
          simp (disch := omega) only [g1, g2, e8, u3, g_cmp, hc, ↓zl, ↓reduceIte, List.mem_singleton, Option.bind_some, if_true, if_false, zM_PM, zLn_PM, zTg_PM, zR_PM, ↓zb, ↓zo, ↓zl, n_lt0, n_le, n_lt, n_eq, n_eq0, n_gt0, n_le0, n_ge0, n_zin, n_nat, nI_add, and_self, true_or, false_or, or_false, if_pos, if_neg, f_in_nI, Nat.reduceAdd, t39 hsM, ↓bs (r39_11 hsM), t44 hsM, l44 hsM, ↓bs (r39_1 hsM), t40 hsM, l40 hsM, t39 hsN, ↓bs (r39_1 hsN), t40 hsN, l40 hsN]
          exact v2
      · obtain ⟨r, sF, v1, v2, v3⟩ := ih f1 f2 (i + 1) U (nI (pl i)) _ (by omega) (by omega) (by omega) (by omega) hmB hgB
        clear ih hg hpl ka km u4 u5 hgB
        refine ⟨r, sF, ?_, ?_, v3⟩
        · rw [f_X11_mend_27]
          unfold f_X11_mend_79 f_X11_mend_94
          simp (disch := omega) only [↓bs kc, ↓bs a1, ↓bs hh, ↓bs u2, g_cmp, hc, ↓reduceIte, List.mem_singleton, Option.bind_some, if_true, if_false, zM_PM, zLn_PM, zTg_PM, zR_PM, ↓zb, ↓zo, ↓zl, n_lt0, n_le, n_lt, n_eq, n_eq0, n_gt0, n_le0, n_ge0, n_zin, n_nat, nI_add, and_self, true_or, false_or, or_false, if_pos, if_neg, f_in_nI, Nat.reduceAdd, t0 hs, ↓bs (r0_0 hs), t1 hs, ↓bs (r1_5 hs), t7 hs]
          exact v1
        · rw [f_X12_mend_22]
          unfold f_X12_mend_107 f_X12_mend_122 f_X12_mend_123
          simp (disch := omega) only [g1, g2, e8, u3, g_cmp, hc, ↓zl, ↓reduceIte, List.mem_singleton, Option.bind_some, if_true, if_false, zM_PM, zLn_PM, zTg_PM, zR_PM, ↓zb, ↓zo, ↓zl, n_lt0, n_le, n_lt, n_eq, n_eq0, n_gt0, n_le0, n_ge0, n_zin, n_nat, nI_add, and_self, true_or, false_or, or_false, if_pos, if_neg, f_in_nI, Nat.reduceAdd, t39 hsM, ↓bs (r39_11 hsM), t44 hsM, l44 hsM, ↓bs (r39_1 hsM), t40 hsM, l40 hsM, t39 hsN, ↓bs (r39_1 hsN), t40 hsN, l40 hsN]
          exact v2
    · rw [if_pos (Or.inr (by rw [n_le (by omega) (by omega)]; omega))] at hh
      obtain ⟨r, sF, v1, v2, v3⟩ := ih f1 f2 (i + 1) g best sM (by omega) (by omega) (by omega) hgb hm hg
      clear ih hg hpl ka km
      refine ⟨r, sF, ?_, ?_, v3⟩
      · rw [f_X11_mend_27]
        unfold f_X11_mend_79 f_X11_mend_94
        simp (disch := omega) only [↓bs kc, ↓bs a1, ↓bs hh, g_cmp, Nat.zero_le, ↓reduceIte, List.mem_singleton, Option.bind_some, if_true, if_false, zM_PM, zLn_PM, zTg_PM, zR_PM, ↓zb, ↓zo, ↓zl, n_lt0, n_le, n_lt, n_eq, n_eq0, n_gt0, n_le0, n_ge0, n_zin, n_nat, nI_add, and_self, true_or, false_or, or_false, if_pos, if_neg, f_in_nI, Nat.reduceAdd, t0 hs, ↓bs (r0_0 hs), t1 hs, ↓bs (r1_5 hs), t7 hs]
        exact v1
      · rw [f_X12_mend_22]
        unfold f_X12_mend_123
        simp (disch := omega) only [g1, g2, e8, ↓zl, ↓reduceIte, List.mem_singleton, Option.bind_some, if_true, if_false, zM_PM, zLn_PM, zTg_PM, zR_PM, ↓zb, ↓zo, ↓zl, n_lt0, n_le, n_lt, n_eq, n_eq0, n_gt0, n_le0, n_ge0, n_zin, n_nat, nI_add, and_self, true_or, false_or, or_false, if_pos, if_neg, f_in_nI, Nat.reduceAdd, t39 hsM, ↓bs (r39_11 hsM), t44 hsM, l44 hsM, ↓bs (r39_1 hsM), t40 hsM, l40 hsM]
        exact v2
theorem s_mend {st : zS} (h : Inv st) {N : Nat} (hN : 3000 ≤ N) (a1 : Int32) : ∃ (r : Int32) (st1 st2 : zS), (f_X11_mend N st 0 a1 = some r ∧ st1 = st) ∧ (f_X12_mend N st1 39 a1 = some (st2, r)) ∧ Sh st1 ∧ Inv st2 := by
  have hs := h.1
  rcases way_cases h a1 with ha | ⟨w, x, hw, rfl, hx, hL⟩
  · refine ⟨-1, st, st, ⟨?_, rfl⟩, ?_, hs, h⟩
    · unfold f_X11_mend
      simp (disch := omega) only [↓bs (x_wayN h ha), ↓reduceIte, List.mem_singleton, Option.bind_some, if_true, if_false, zM_PM, zLn_PM, zTg_PM, zR_PM, ↓zb, ↓zo, ↓zl, n_lt0, n_le, n_lt, n_eq, n_eq0, n_gt0, n_le0, n_ge0, n_zin, n_nat, nI_add, and_self, true_or, false_or, or_false, if_pos, if_neg, f_in_nI, Nat.reduceAdd, t0 hs, ↓bs (r0_0 hs), t1 hs]
    · unfold f_X12_mend
      simp (disch := omega) only [↓bs (m_wayN h ha), ↓reduceIte, List.mem_singleton, Option.bind_some, if_true, if_false, zM_PM, zLn_PM, zTg_PM, zR_PM, ↓zb, ↓zo, ↓zl, n_lt0, n_le, n_lt, n_eq, n_eq0, n_gt0, n_le0, n_ge0, n_zin, n_nat, nI_add, and_self, true_or, false_or, or_false, if_pos, if_neg, f_in_nI, Nat.reduceAdd, t39 hs]
  · clear hL
    obtain ⟨P, pl, a1, a2, a3, a4, a5, a6, a7, a8⟩ := places_x h hN
    obtain ⟨U, sM, u1, u2, u3, u4, u5⟩ := unseen_full h hN a2 a3 a6 a7 a8 (MX.of MS.rf) (eff_now h MS.rf)
    have hp5 := pow_le5 a2
    obtain ⟨r, sF, v1, v2, v3⟩ := mend_loop h hN a2 a3 a6 a7 a8 hw P N N 0 U (-5) sM (by omega) (by omega) (by omega) (by omega) u4 u5
    have e1 : f_X2_unseenNow N st 1 = some (lN U) := by
      unfold f_X2_unseenNow
      simp only [u2, t1 h.1, List.mem_singleton, ↓reduceIte, Option.bind_some]
    clear a3 a4 a5 a7 a8 u5
    refine ⟨r, st, sF, ⟨?_, rfl⟩, ?_, hs, v3.inv h⟩
    · unfold f_X11_mend
      simp (disch := omega) only [↓bs (x_wayS h hw hx), ↓bs e1, ↓reduceIte, List.mem_singleton, Option.bind_some, if_true, if_false, zM_PM, zLn_PM, zTg_PM, zR_PM, ↓zb, ↓zo, ↓zl, n_lt0, n_le, n_lt, n_eq, n_eq0, n_gt0, n_le0, n_ge0, n_zin, n_nat, nI_add, and_self, true_or, false_or, or_false, if_pos, if_neg, f_in_nI, Nat.reduceAdd, t0 hs, ↓bs (r0_0 hs), t1 hs]
      exact v1
    · unfold f_X12_mend
      simp (disch := omega) only [↓bs (m_wayS h hw), u3, ↓reduceIte, List.mem_singleton, Option.bind_some, if_true, if_false, zM_PM, zLn_PM, zTg_PM, zR_PM, ↓zb, ↓zo, ↓zl, n_lt0, n_le, n_lt, n_eq, n_eq0, n_gt0, n_le0, n_ge0, n_zin, n_nat, nI_add, and_self, true_or, false_or, or_false, if_pos, if_neg, f_in_nI, Nat.reduceAdd, t39 hs]
      exact v2
