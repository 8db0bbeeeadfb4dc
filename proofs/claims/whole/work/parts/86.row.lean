/-! row -/
theorem x_withRow {st : zS} {x r : Nat} (ht : zTg st x = 17) (hr : zR st x 4 = some r) (h1 : zTg st r = 1) (h2 : zLn st r = 4) (hx : x < st.1) {k : Nat} (hk : k ≤ 3) (n : Int32) : ∃ s', f_X7_withRow st x (nI k) n = some (s', some (st.1 + 1)) ∧ Grow st s' ∧ st.1 + 1 < s'.1 ∧ zTg s' (st.1 + 1) = 17 ∧ zM s' (st.1 + 1) 0 = nI 6 ∧ zM s' (st.1 + 1) 1 = zM st x 1 ∧ zM s' (st.1 + 1) 2 = zM st x 2 ∧ zM s' (st.1 + 1) 3 = zM st x 3 ∧ zR s' (st.1 + 1) 4 = some st.1 ∧ zTg s' st.1 = 1 ∧ zLn s' st.1 = 4 ∧ ∀ j, zM s' st.1 j = if j = k then n else zM st r j := by
  have g1 : zTg (zCl st r) st.1 = 1 := by rw [zTg_Cl, if_pos rfl]; exact h1
  have g2 : zLn (zCl st r) st.1 = 4 := by rw [zLn_Cl, if_pos rfl]; exact h2
  have e1 : f_X7_withRow st x (nI k) n = f_X7_withRow_25 x (nI k) n (zPM (zCl st r) st.1 k n) st.1 := by
    unfold f_X7_withRow
    simp (disch := omega) only [ht, ↓bs hr, h1, h2, g1, g2, ↓reduceIte, List.mem_singleton, Option.bind_some, if_true, if_false, zM_PM, zLn_PM, zTg_PM, zR_PM, ↓zb, ↓zo, ↓zl, n_lt0, n_le, n_lt, n_eq, n_eq0, n_gt0, n_le0, n_ge0, n_zin, n_nat, nI_add, and_self, true_or, false_or, or_false, if_pos, if_neg, f_in_nI, Nat.reduceAdd]
  have c1 : Grow st (zPM (zCl st r) st.1 k n) := (Grow.cl st r).pm (Nat.le_refl _) _ _
  have c2 : (zPM (zCl st r) st.1 k n).1 = st.1 + 1 := rfl
  have c3 : zTg (zPM (zCl st r) st.1 k n) st.1 = 1 := by rw [zTg_PM]; exact g1
  have c4 : zLn (zPM (zCl st r) st.1 k n) st.1 = 4 := by rw [zLn_PM]; exact g2
  have c5 : ∀ j, zM (zPM (zCl st r) st.1 k n) st.1 j = if j = k then n else zM st r j := fun j => by
    rw [zM_PM, zM_Cl, if_pos rfl]
    by_cases q : j = k
    · rw [if_pos ⟨rfl, q⟩, if_pos q]
    · rw [if_neg (fun z => q z.2), if_neg q]
  rw [e1]
  generalize zPM (zCl st r) st.1 k n = s at *
  have t1 : zTg s x = 17 := (c1.tg hx).trans ht
  have t2 : zTg (zNw s 17 0) x = 17 := by rw [zTg_Nw, if_neg (by omega)]; exact t1
  have t3 : zTg (zNw s 17 0) s.1 = 17 := by rw [zTg_Nw, if_pos rfl]
  have m1 : ∀ j, zM (zNw s 17 0) x j = zM st x j := fun j => by rw [zM_Nw, if_neg (by omega)]; exact (c1.2 x hx).2.2 j
  have e : ∀ a b c : Int32, f_X7_init (zNw s 17 0) s.1 a b c st.1 = some (zPR (ini4 (zNw s 17 0) s.1 (nI 6) a b c) s.1 4 (some st.1)) := fun a b c => by
    have q : f_X3_init (zNw s 17 0) s.1 (nI 6) a b c = some (ini4 (zNw s 17 0) s.1 (nI 6) a b c) := by
      unfold f_X3_init ini4
      rw [init_any (by rw [t3]; decide)]; rfl
    have q2 : zTg (ini4 (zNw s 17 0) s.1 (nI 6) a b c) s.1 = 17 := by
      unfold ini4; rw [zTg_PM, zTg_PM, zTg_PM, zTg_PM]; exact t3
    unfold f_X7_init
    rw [q, Option.bind_some, if_pos (by rw [q2]; decide)]
  refine ⟨zPR (ini4 (zNw s 17 0) s.1 (nI 6) (zM st x 1) (zM st x 2) (zM st x 3)) s.1 4 (some st.1), ?_, ?_, ?_, ?_, ?_, ?_, ?_, ?_, ?_, ?_, ?_, fun j => ?_⟩
  · unfold f_X7_withRow_25
    rw [if_pos (by rw [t2]; decide), m1, m1, m1, e, Option.bind_some, c2]
  · have gs : Grow s (zNw s 17 0) := Grow.nw s 17 0
    unfold ini4
    exact c1.tr (((((gs.pm (Nat.le_refl _) _ _).pm (Nat.le_refl _) _ _).pm (Nat.le_refl _) _ _).pm (Nat.le_refl _) _ _).pr (Nat.le_refl _) _ _)
  · show st.1 + 1 < s.1 + 1; omega
  · rw [← c2, zTg_PR]; unfold ini4; rw [zTg_PM, zTg_PM, zTg_PM, zTg_PM]; exact t3
  · rw [← c2]; unfold ini4; simp (disch := omega) only [zM_PR, zM_PM, if_pos, if_neg, and_self, if_true]
  · rw [← c2]; unfold ini4; simp (disch := omega) only [zM_PR, zM_PM, if_pos, if_neg, and_self, if_true]
  · rw [← c2]; unfold ini4; simp (disch := omega) only [zM_PR, zM_PM, if_pos, if_neg, and_self, if_true]
  · rw [← c2]; unfold ini4; simp (disch := omega) only [zM_PR, zM_PM, if_pos, if_neg, and_self, if_true]
  · rw [← c2, zR_PR, if_pos ⟨rfl, rfl⟩]
  · unfold ini4; rw [zTg_PR, zTg_PM, zTg_PM, zTg_PM, zTg_PM, zTg_Nw, if_neg (by omega)]; exact c3
  · unfold ini4; rw [zLn_PR, zLn_PM, zLn_PM, zLn_PM, zLn_PM, zLn_Nw, if_neg (by omega)]; exact c4
  · unfold ini4
    rw [zM_PR, zM_PM, if_neg (by omega), zM_PM, if_neg (by omega), zM_PM, if_neg (by omega), zM_PM, if_neg (by omega), zM_Nw, if_neg (by omega)]
    exact c5 j
theorem s_row {st : zS} (h : Inv st) {N : Nat} (hN : 3000 ≤ N) (a1 a2 a3 : Int32) : ∃ (r : Int32) (st1 st2 : zS), (f_X11_row st 0 a1 a2 a3 = some (st1, r)) ∧ (f_X12_row st1 39 a1 a2 a3 = some (st2, r)) ∧ Sh st1 ∧ Inv st2 := by
  have hs := h.1
  have h6 := h.2.1.1.1.2
  have w1 := h.2.1.1.2.trans h.2.1.1.1.1
  have w2 := h.2.1.1.1.1
  have ways := h.2.1.2.2.2.2.2.2.2.2.2.2.2.2.1
  rcases way_cases h a1 with ha | ⟨w, x, hw, rfl, hx, hL⟩
  · refine ⟨-1, st, st, ?_, ?_, hs, h⟩
    · unfold f_X11_row
      simp (disch := omega) only [↓bs (x_wayN h ha), ↓reduceIte, List.mem_singleton, Option.bind_some, if_true, if_false, zM_PM, zLn_PM, zTg_PM, zR_PM, ↓zb, ↓zo, ↓zl, n_lt0, n_le, n_lt, n_eq, n_eq0, n_gt0, n_le0, n_ge0, n_zin, n_nat, nI_add, and_self, true_or, false_or, or_false, if_pos, if_neg, f_in_nI, Nat.reduceAdd, t0 hs, ↓bs (r0_0 hs), t1 hs]
    · unfold f_X12_row
      simp (disch := omega) only [↓bs (m_wayN h ha), ↓reduceIte, List.mem_singleton, Option.bind_some, if_true, if_false, zM_PM, zLn_PM, zTg_PM, zR_PM, ↓zb, ↓zo, ↓zl, n_lt0, n_le, n_lt, n_eq, n_eq0, n_gt0, n_le0, n_ge0, n_zin, n_nat, nI_add, and_self, true_or, false_or, or_false, if_pos, if_neg, f_in_nI, Nat.reduceAdd, t39 hs]
  obtain ⟨k, v, sl, p1, p2, p3, p4, p5, p6, p7, p8, p9, p10, p11, p12, p13, p14, p15, p16⟩ := id hL
  have hl := tgK_in p1
  have xw := x_wayS h hw hx
  have mw := m_wayS h hw
  rcases i_neg a2 with z | ⟨j, hj, rfl⟩
  · refine ⟨-1, st, st, ?_, ?_, hs, h⟩
    · clear p16
      unfold f_X11_row
      simp (disch := omega) only [↓bs xw, z, ↓reduceIte, List.mem_singleton, Option.bind_some, if_true, if_false, zM_PM, zLn_PM, zTg_PM, zR_PM, ↓zb, ↓zo, ↓zl, n_lt0, n_le, n_lt, n_eq, n_eq0, n_gt0, n_le0, n_ge0, n_zin, n_nat, nI_add, and_self, true_or, false_or, or_false, if_pos, if_neg, f_in_nI, Nat.reduceAdd, t0 hs, ↓bs (r0_0 hs), t1 hs]
    · clear p16
      have e := f_in_neg z 0 3 (by omega)
      unfold f_X12_row
      simp (disch := omega) only [↓bs mw, ↓bs e, ↓reduceIte, List.mem_singleton, Option.bind_some, if_true, if_false, zM_PM, zLn_PM, zTg_PM, zR_PM, ↓zb, ↓zo, ↓zl, n_lt0, n_le, n_lt, n_eq, n_eq0, n_gt0, n_le0, n_ge0, n_zin, n_nat, nI_add, and_self, true_or, false_or, or_false, if_pos, if_neg, f_in_nI, Nat.reduceAdd, t39 hs]
  by_cases hj3 : j ≤ 3
  rotate_left
  · refine ⟨-1, st, st, ?_, ?_, hs, h⟩
    · clear p16
      unfold f_X11_row
      simp (disch := omega) only [↓bs xw, ↓reduceIte, List.mem_singleton, Option.bind_some, if_true, if_false, zM_PM, zLn_PM, zTg_PM, zR_PM, ↓zb, ↓zo, ↓zl, n_lt0, n_le, n_lt, n_eq, n_eq0, n_gt0, n_le0, n_ge0, n_zin, n_nat, nI_add, and_self, true_or, false_or, or_false, if_pos, if_neg, f_in_nI, Nat.reduceAdd, t0 hs, ↓bs (r0_0 hs), t1 hs]
    · clear p16
      have e : f_X12_in (nI j) (nI 0) (nI 3) = some (nI 0) := by rw [f_in_nI hj (by omega) (by omega), if_neg (by omega)]
      unfold f_X12_row
      simp (disch := omega) only [↓bs mw, ↓bs e, ↓reduceIte, List.mem_singleton, Option.bind_some, if_true, if_false, zM_PM, zLn_PM, zTg_PM, zR_PM, ↓zb, ↓zo, ↓zl, n_lt0, n_le, n_lt, n_eq, n_eq0, n_gt0, n_le0, n_ge0, n_zin, n_nat, nI_add, and_self, true_or, false_or, or_false, if_pos, if_neg, f_in_nI, Nat.reduceAdd, t39 hs]
  have i2 : f_X12_in (nI j) (nI 0) (nI 3) = some (nI 1) := by rw [f_in_nI hj (by omega) (by omega), if_pos ⟨by omega, hj3⟩]
  rcases f_dig (a := a3) with ⟨n, n1, rfl, d1, d2⟩ | ⟨d1, d2⟩
  rotate_left
  · refine ⟨-2, st, st, ?_, ?_, hs, h⟩
    · clear p16
      unfold f_X11_row
      simp (disch := omega) only [↓bs xw, ↓bs d1, ↓reduceIte, List.mem_singleton, Option.bind_some, if_true, if_false, zM_PM, zLn_PM, zTg_PM, zR_PM, ↓zb, ↓zo, ↓zl, n_lt0, n_le, n_lt, n_eq, n_eq0, n_gt0, n_le0, n_ge0, n_zin, n_nat, nI_add, and_self, true_or, false_or, or_false, if_pos, if_neg, f_in_nI, Nat.reduceAdd, t0 hs, ↓bs (r0_0 hs), t1 hs]
    · clear p16
      unfold f_X12_row
      simp (disch := omega) only [↓bs mw, ↓bs i2, ↓bs d2, ↓reduceIte, List.mem_singleton, Option.bind_some, if_true, if_false, zM_PM, zLn_PM, zTg_PM, zR_PM, ↓zb, ↓zo, ↓zl, n_lt0, n_le, n_lt, n_eq, n_eq0, n_gt0, n_le0, n_ge0, n_zin, n_nat, nI_add, and_self, true_or, false_or, or_false, if_pos, if_neg, f_in_nI, Nat.reduceAdd, t39 hs]
  by_cases hk6 : k = 6
  rotate_left
  · have ht : zTg st x ≠ 17 := by
      rw [p5]
      have hk : k = 0 ∨ k = 1 ∨ k = 2 ∨ k = 3 ∨ k = 4 ∨ k = 5 := by clear p16; omega
      rcases hk with rfl | rfl | rfl | rfl | rfl | rfl <;> decide
    have hl2 : zTg st x ∈ zLs := by rw [p5]; exact hl
    refine ⟨-3, st, st, ?_, ?_, hs, h⟩
    · clear p16
      unfold f_X11_row
      simp (disch := omega) only [↓bs xw, ↓bs d1, hl2, ht, ↓reduceIte, List.mem_singleton, Option.bind_some, if_true, if_false, zM_PM, zLn_PM, zTg_PM, zR_PM, ↓zb, ↓zo, ↓zl, n_lt0, n_le, n_lt, n_eq, n_eq0, n_gt0, n_le0, n_ge0, n_zin, n_nat, nI_add, and_self, true_or, false_or, or_false, if_pos, if_neg, f_in_nI, Nat.reduceAdd, t0 hs, ↓bs (r0_0 hs), t1 hs]
    · clear p16
      unfold f_X12_row
      simp (disch := omega) only [↓bs mw, ↓bs i2, ↓bs d2, p12, ↓reduceIte, List.mem_singleton, Option.bind_some, if_true, if_false, zM_PM, zLn_PM, zTg_PM, zR_PM, ↓zb, ↓zo, ↓zl, n_lt0, n_le, n_lt, n_eq, n_eq0, n_gt0, n_le0, n_ge0, n_zin, n_nat, nI_add, and_self, true_or, false_or, or_false, if_pos, if_neg, f_in_nI, Nat.reduceAdd, t39 hs, ↓bs (r39_1 hs), t40 hs, l40 hs]
  obtain ⟨r, r1, r2, r3, r4, r5, r6⟩ := p16 hk6
  subst hk6
  have ht : zTg st x = 17 := p5
  obtain ⟨s1, u1, u2, u3, u4, u5, u6, u7, u8, u9, u10, u11, u12⟩ := x_withRow ht r1 r4 r5 p7 hj3 (nI n)
  have hs1 := u2.sh hs
  have hst := hs.1
  have old : ∀ q j, q < 47 → zM s1 q j = zM st q j := fun q j hq => (u2.2 q (by omega)).2.2 j
  have oldr : ∀ q j, q < 47 → zR s1 q j = zR st q j := fun q j hq => (u2.2 q (by omega)).2.1 j
  have e11 : zM s1 1 1 = nI (K st 40 0) := (old 1 1 (by omega)).trans w1
  have tl : (17 : Nat) ∈ zLs := by decide
  have hA : Sh (zPR s1 2 w (some (st.1 + 1))) := hs1.pr (sh2 2 (Or.inl rfl) _) (fun _ a q => by
    obtain rfl := Option.some.inj q
    exact ⟨u3, by rw [u4]; exact tl⟩)
  have tx : zTg s1 x = 17 := (u2.tg p7).trans ht
  have rx : zR s1 x 4 = some r := ((u2.2 x p7).2.1 4).trans r1
  have tr : zTg s1 r = 1 := (u2.tg r3).trans r4
  have lr : zLn s1 r = 4 := by unfold zLn; rw [(u2.2 r r3).1]; exact r5
  have mr : zM s1 r j = zM st 40 (29 + 4 * w + j) := ((u2.2 r r3).2.2 j).trans (r6 j (by omega))
  have rxA : zR (zPR s1 2 w (some (st.1 + 1))) x 4 = some r := by rw [zR_PR, if_neg (by omega)]; exact rx
  have trA : zTg (zPR s1 2 w (some (st.1 + 1))) r = 1 := by rw [zTg_PR]; exact tr
  refine ⟨zM st 40 (29 + 4 * w + j), zPR s1 2 w (some (st.1 + 1)), zPM (zPR s1 2 w (some (st.1 + 1))) 40 (29 + 4 * w + j) (nI n), ?_, ?_, hA, ?_⟩
  · clear p16 r6 u12
    unfold f_X11_row f_X2_putWay f_X7_rowAt
    simp (disch := omega) only [↓bs xw, ↓bs d1, ht, tl, if_pos, Option.bind_some, n_eq0, show ((1 : Int32) = 0) = False by decide, u1, u4, tx, ↓bs rxA, trA, lr, mr, zTg_PR, zLn_PR, zM_PR, e11, ↓bs (r1_0 hs1), t1 hs1, t2 hs1, l2 hs1, ↓reduceIte, List.mem_singleton, Option.bind_some, if_true, if_false, zM_PM, zLn_PM, zTg_PM, zR_PM, ↓zb, ↓zo, ↓zl, n_lt0, n_le, n_lt, n_eq, n_eq0, n_gt0, n_le0, n_ge0, n_zin, n_nat, nI_add, and_self, true_or, false_or, or_false, if_pos, if_neg, f_in_nI, Nat.reduceAdd, t0 hs, ↓bs (r0_0 hs), t1 hs]
  · clear p16 r6 u12
    have e40 : ∀ j, zM (zPR s1 2 w (some (st.1 + 1))) 40 j = zM st 40 j := fun j => by rw [zM_PR]; exact old 40 j (by omega)
    have mw1 : f_X12_isWay (zPR s1 2 w (some (st.1 + 1))) 39 (nI w) = some (nI 1) := by
      unfold f_X12_isWay at mw ⊢
      simp (disch := omega) only [t39 hA, ↓bs (r39_1 hA), t40 hA, l40 hA, e40, ↓reduceIte, List.mem_singleton, Option.bind_some, if_true, if_false, zM_PM, zLn_PM, zTg_PM, zR_PM, ↓zb, ↓zo, ↓zl, n_lt0, n_le, n_lt, n_eq, n_eq0, n_gt0, n_le0, n_ge0, n_zin, n_nat, nI_add, and_self, true_or, false_or, or_false, if_pos, if_neg, f_in_nI, Nat.reduceAdd]
      simp (disch := omega) only [t39 hs, ↓bs (r39_1 hs), t40 hs, l40 hs, ↓reduceIte, List.mem_singleton, Option.bind_some, if_true, if_false, zM_PM, zLn_PM, zTg_PM, zR_PM, ↓zb, ↓zo, ↓zl, n_lt0, n_le, n_lt, n_eq, n_eq0, n_gt0, n_le0, n_ge0, n_zin, n_nat, nI_add, and_self, true_or, false_or, or_false, if_pos, if_neg, f_in_nI, Nat.reduceAdd] at mw
      exact mw
    unfold f_X12_row
    simp (disch := omega) only [↓bs mw1, ↓bs i2, ↓bs d2, e40, p12, n_mul, ↓reduceIte, List.mem_singleton, Option.bind_some, if_true, if_false, zM_PM, zLn_PM, zTg_PM, zR_PM, ↓zb, ↓zo, ↓zl, n_lt0, n_le, n_lt, n_eq, n_eq0, n_gt0, n_le0, n_ge0, n_zin, n_nat, nI_add, and_self, true_or, false_or, or_false, if_pos, if_neg, f_in_nI, Nat.reduceAdd, t39 hA, ↓bs (r39_1 hA), t40 hA, l40 hA]
  · have RF : ∀ q j', zR (zPM (zPR s1 2 w (some (st.1 + 1))) 40 (29 + 4 * w + j) (nI n)) q j' = if q = 2 ∧ j' = w then some (st.1 + 1) else zR s1 q j' := fun q j' => by rw [zR_PM, zR_PR]
    have VF : ∀ q j', zM (zPM (zPR s1 2 w (some (st.1 + 1))) 40 (29 + 4 * w + j) (nI n)) q j' = if q = 40 ∧ j' = 29 + 4 * w + j then nI n else zM s1 q j' := fun q j' => by rw [zM_PM, zM_PR]
    have o1 : (zPM (zPR s1 2 w (some (st.1 + 1))) 40 (29 + 4 * w + j) (nI n)).1 = s1.1 := rfl
    have o2 : (zPM (zPR s1 2 w (some (st.1 + 1))) 40 (29 + 4 * w + j) (nI n)).2.1 = s1.2.1 := rfl
    have shF : Sh (zPM (zPR s1 2 w (some (st.1 + 1))) 40 (29 + 4 * w + j) (nI n)) := hA.pm _ _ _
    clear rxA trA
    generalize zPM (zPR s1 2 w (some (st.1 + 1))) 40 (29 + 4 * w + j) (nI n) = sF at *
    have kp : Kept st sF := ⟨by rw [o1]; exact u2.1, fun q hq => by
      have hq2 : q < st.1 := by unfold Dyn at hq; omega
      obtain ⟨y1, y2, y3⟩ := u2.2 q hq2
      exact ⟨by rw [o2]; exact y1, fun j' => by rw [RF, if_neg (by unfold Dyn at hq; omega)]; exact y2 j', fun j' => by
        rw [VF, if_neg (by unfold Dyn at hq; omega)]; exact y3 j'⟩⟩
    have v40 : ∀ j', j' ≠ 29 + 4 * w + j → zM sF 40 j' = zM st 40 j' := fun j' y1 => by
      rw [VF, if_neg (by omega)]; exact old 40 j' (by omega)
    have wl : w < 6 := by omega
    have v40' : ∀ j', ¬ (29 ≤ j' ∧ j' < 53) → zM sF 40 j' = zM st 40 j' := fun j' y1 => v40 j' (by omega)
    refine inv_ways h kp shF (fun q j' y1 y2 y3 => ?_) (fun j' y1 y2 => v40' j' (by omega)) (K' := K st 40 0) ?_ (Nat.le_refl _) h6 ?_ ?_ ?_ (fun j' => ?_) (fun w' hw' => ?_)
    · rw [VF, if_neg (by omega)]; exact old q j' y2
    · rw [v40' 0 (by omega)]; exact w2
    · rw [VF, if_neg (by omega)]; exact e11
    · rw [RF, if_neg (by omega)]; exact oldr 1 2 (by omega)
    · rw [RF, if_neg (by omega)]; exact oldr 19 2 (by omega)
    · rw [RF, if_neg (by omega)]; exact oldr 20 j' (by omega)
    · by_cases hww : w' = w
      · subst hww
        have vnew : ∀ q j', 47 ≤ q → zM sF q j' = zM s1 q j' := fun q j' y1 => by rw [VF, if_neg (by omega)]
        refine ⟨st.1 + 1, by rw [RF, if_pos ⟨rfl, rfl⟩], 6, v, sl, p1, p2, p3, p4, by unfold zTg; rw [o2]; exact u4, by omega, by rw [o1]; exact u3, (vnew _ 0 (by omega)).trans u5, (vnew _ 1 (by omega)).trans (u6.trans p9), (vnew _ 2 (by omega)).trans (u7.trans p10), (vnew _ 3 (by omega)).trans (u8.trans p11), ?_, ?_, ?_, fun j' hj' => ?_, fun _ => ?_⟩
        · rw [v40' _ (by omega)]; exact p12
        · rw [v40' _ (by omega)]; exact p13
        · rw [v40' _ (by omega)]; exact p14
        · by_cases q : j' = j
          · subst q; rw [VF, if_pos ⟨rfl, rfl⟩]; exact ⟨n, by omega, rfl⟩
          · rw [v40 _ (by omega)]; exact p15 j' hj'
        · refine ⟨st.1, by rw [RF, if_neg (by omega)]; exact u9, hst, by rw [o1]; omega, by unfold zTg; rw [o2]; exact u10, by unfold zLn; rw [o2]; exact u11, fun j' hj' => ?_⟩
          rw [vnew _ j' hst, u12]
          by_cases q : j' = j
          · subst q; rw [if_pos rfl, VF, if_pos ⟨rfl, rfl⟩]
          · rw [if_neg q, v40 _ (by omega)]; exact r6 j' hj'
      · obtain ⟨a, q1, q2⟩ := ways w' hw'
        exact ⟨a, by rw [RF, if_neg (by omega)]; exact (oldr 2 w' (by omega)).trans q1, q2.cg kp (fun j' hj' => v40 j' (by omega))⟩
