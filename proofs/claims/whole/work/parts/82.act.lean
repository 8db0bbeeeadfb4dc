/-! act -/
def AXr (st sc : zS) (L : List Nat) : Prop := (sc.1 = st.1 ∧ sc.2.1 = st.2.1 ∧ sc.2.2.2 = st.2.2.2) ∧ (∀ k j, k ≠ 37 → k ≠ 38 → zM sc k j = zM st k j) ∧ zM sc 37 1 = nI L.length ∧ ∀ i, i < L.length → zM sc 38 i = nI (L.getD i 0)
def AMr (st sm : zS) (L : List Nat) : Prop := (sm.1 = st.1 ∧ sm.2.1 = st.2.1 ∧ sm.2.2.2 = st.2.2.2) ∧ (∀ k j, k ≠ 46 → ¬ (k = 39 ∧ j = 20) → zM sm k j = zM st k j) ∧ zM sm 39 20 = nI L.length ∧ ∀ i, i < L.length → zM sm 46 i = nI (L.getD i 0)
theorem get_app (L : List Nat) (b i : Nat) (hi : i < L.length) : (L ++ [b]).getD i 0 = L.getD i 0 := by
  simp [List.getD, List.getElem?_append_left hi]
theorem get_last (L : List Nat) (b : Nat) : (L ++ [b]).getD L.length 0 = b := by
  simp [List.getD]
theorem len_app (L : List Nat) (b : Nat) : (L ++ [b]).length = L.length + 1 := by simp
theorem x_ran {st sc : zS} (hs : Sh st) {L : List Nat} (h : AXr st sc L) (hl : L.length < 20) (b : Nat) : ∃ s', f_X8_ran sc 37 (nI b) = some s' ∧ AXr st s' (L ++ [b]) := by
  obtain ⟨hc, h1, h2, h3⟩ := h
  have hsc := hs.cc hc
  refine ⟨zPM (zPM sc 38 L.length (nI b)) 37 1 (nI (L.length + 1)), ?_, hc, fun k j q1 q2 => ?_, ?_, fun i hi => ?_⟩
  · clear h1 h3
    unfold f_X8_ran
    generalize L.length = n at *
    simp (disch := omega) only [h2, ↓reduceIte, List.mem_singleton, Option.bind_some, if_true, if_false, zM_PM, zLn_PM, zTg_PM, zR_PM, ↓zb, ↓zo, ↓zl, n_lt0, n_le, n_lt, n_eq, n_eq0, n_gt0, n_le0, n_ge0, n_zin, n_nat, nI_add, and_self, true_or, false_or, or_false, if_pos, if_neg, f_in_nI, Nat.reduceAdd, t37 hsc, ↓bs (r37_0 hsc), t38 hsc, l38 hsc]
  · rw [zM_PM, if_neg (by omega), zM_PM, if_neg (by omega)]; exact h1 k j q1 q2
  · rw [zM_PM, if_pos ⟨rfl, rfl⟩, len_app]
  · rw [len_app] at hi
    rw [zM_PM, if_neg (by omega), zM_PM]
    by_cases e : i = L.length
    · rw [if_pos ⟨rfl, e⟩, e, get_last]
    · rw [if_neg (by omega), get_app _ _ _ (by omega)]; exact h3 i (by omega)
theorem m_ran {st sm : zS} (hs : Sh st) {L : List Nat} (h : AMr st sm L) (hl : L.length < 20) (b : Nat) : ∃ s', f_X12_ranBody sm 39 (nI b) = some s' ∧ AMr st s' (L ++ [b]) := by
  obtain ⟨hc, h1, h2, h3⟩ := h
  have hsc := hs.cc hc
  refine ⟨zPM (zPM sm 46 L.length (nI b)) 39 20 (nI (L.length + 1)), ?_, hc, fun k j q1 q2 => ?_, ?_, fun i hi => ?_⟩
  · clear h1 h3
    unfold f_X12_ranBody
    generalize L.length = n at *
    simp (disch := omega) only [h2, ↓reduceIte, List.mem_singleton, Option.bind_some, if_true, if_false, zM_PM, zLn_PM, zTg_PM, zR_PM, ↓zb, ↓zo, ↓zl, n_lt0, n_le, n_lt, n_eq, n_eq0, n_gt0, n_le0, n_ge0, n_zin, n_nat, nI_add, and_self, true_or, false_or, or_false, if_pos, if_neg, f_in_nI, Nat.reduceAdd, t39 hsc, ↓bs (r39_19 hsc), t46 hsc, l46 hsc]
  · rw [zM_PM, if_neg (by omega), zM_PM, if_neg (by omega)]; exact h1 k j q1 q2
  · rw [zM_PM, if_pos ⟨rfl, rfl⟩, len_app]
  · rw [len_app] at hi
    rw [zM_PM, if_neg (by omega), zM_PM]
    by_cases e : i = L.length
    · rw [if_pos ⟨rfl, e⟩, e, get_last]
    · rw [if_neg (by omega), get_app _ _ _ (by omega)]; exact h3 i (by omega)
def wrV (k : Nat) (w x : Int32) : Int32 := if k = 1 ∨ k = 4 then x * nI 3 + w else if k = 5 then (x + w) ^^^ w else x + w
def wrL (k : Nat) : List Nat := if k = 1 ∨ k = 4 then [11, 1] else if k = 5 then [51, 1] else [1]
def shV (k : Nat) (w v x : Int32) : Int32 := if k = 2 ∨ k = 5 then -(wrV k w x - v) else if k = 6 then (wrV k w x - v) + v else wrV k w x - v
def shL (k : Nat) : List Nat := if k = 2 ∨ k = 5 then 21 :: 2 :: wrL k else if k = 6 then 61 :: 2 :: wrL k else 2 :: wrL k
def teV (k : Nat) (w v x : Int32) : Int32 := if k = 3 ∨ k = 6 then (shV k w v x * nI 2) ^^^ nI 7 else if k = 4 then shV k w v (x - nI 1) * nI 2 + wrV k w (nI 2) else shV k w v x * nI 2
def teL (k : Nat) : List Nat := if k = 3 ∨ k = 6 then 31 :: 3 :: shL k else if k = 4 then 41 :: 3 :: (shL k ++ wrL k) else 3 :: shL k
theorem act_len : ∀ k, k < 7 → (wrL k).length ≤ 2 ∧ (shL k).length ≤ 4 ∧ (teL k).length ≤ 8 := by decide
def XF (st : zS) (x k : Nat) (w v : Int32) : Prop := Sh st ∧ k ≤ 6 ∧ zTg st x = tgK k ∧ zM st x 1 = w ∧ zM st x 2 = v ∧ 47 ≤ x
theorem XF.sh {st : zS} {x k : Nat} {w v : Int32} (f : XF st x k w v) : Sh st := f.1
theorem XF.kk {st : zS} {x k : Nat} {w v : Int32} (f : XF st x k w v) : k ≤ 6 := f.2.1
theorem XF.tg {st : zS} {x k : Nat} {w v : Int32} (f : XF st x k w v) : zTg st x = tgK k := f.2.2.1
theorem XF.mw {st : zS} {x k : Nat} {w v : Int32} (f : XF st x k w v) : zM st x 1 = w := f.2.2.2.1
theorem XF.mv {st : zS} {x k : Nat} {w v : Int32} (f : XF st x k w v) : zM st x 2 = v := f.2.2.2.2.1
theorem XF.x47 {st : zS} {x k : Nat} {w v : Int32} (f : XF st x k w v) : 47 ≤ x := f.2.2.2.2.2
theorem AXr.f {st sc : zS} {L : List Nat} (h : AXr st sc L) {x k : Nat} {w v : Int32} (f : XF st x k w v) : Sh sc ∧ zTg sc x = tgK k ∧ zM sc x 1 = w ∧ zM sc x 2 = v :=
  ⟨f.sh.cc h.1, by unfold zTg; rw [h.1.2.1]; exact f.tg, by rw [h.2.1 _ _ (by have := f.x47; omega) (by have := f.x47; omega)]; exact f.mw, by rw [h.2.1 _ _ (by have := f.x47; omega) (by have := f.x47; omega)]; exact f.mv⟩
theorem tgK_in {k : Nat} (h : k ≤ 6) : tgK k ∈ zLs := tgK_ln k (by omega)
theorem x_w4 {st sc : zS} {x k : Nat} {w v : Int32} (f : XF st x k w v) {L : List Nat} (h : AXr st sc L) (hl : L.length < 20) (a : Int32) : ∃ s', f_X4_writes sc x a 37 = some (s', a + w) ∧ AXr st s' (L ++ [1]) := by
  obtain ⟨s1, e1, h1⟩ := x_ran f.sh h hl 1
  obtain ⟨a1, a2, a3, a4⟩ := h.f f
  obtain ⟨b1, b2, b3, b4⟩ := h1.f f
  refine ⟨s1, ?_, h1⟩
  unfold f_X4_writes
  simp only [t37 a1, ↓bs e1, b2, tgK_in f.kk, b3, List.mem_singleton, ↓reduceIte]
theorem x_w10 {st sc : zS} {x k : Nat} {w v : Int32} (f : XF st x k w v) {L : List Nat} (h : AXr st sc L) (hl : L.length < 19) (a : Int32) : ∃ s', f_X10_writes sc x a 37 = some (s', a * nI 3 + w) ∧ AXr st s' (L ++ [11, 1]) := by
  obtain ⟨s1, e1, h1⟩ := x_ran f.sh h (by omega) 11
  obtain ⟨a1, a2, a3, a4⟩ := h.f f
  obtain ⟨b1, b2, b3, b4⟩ := h1.f f
  obtain ⟨s2, e2, h2⟩ := x_w4 f h1 (by rw [len_app]; omega) (a * nI 3)
  refine ⟨s2, ?_, by rw [List.append_assoc] at h2; exact h2⟩
  unfold f_X10_writes
  simp only [t37 a1, ↓bs e1, b2, tgK_in f.kk, ↓zb, e2, Option.bind_some, List.mem_singleton, ↓reduceIte]
theorem x_writes {st sc : zS} {x k : Nat} {w v : Int32} (f : XF st x k w v) {L : List Nat} (h : AXr st sc L) (hl : L.length < 18) (a : Int32) : ∃ s', fv_Line_writes sc x a 37 = some (s', wrV k w a) ∧ AXr st s' (L ++ wrL k) := by
  obtain ⟨a1, a2, a3, a4⟩ := h.f f
  have hk := f.kk
  have hkk : k = 0 ∨ k = 1 ∨ k = 2 ∨ k = 3 ∨ k = 4 ∨ k = 5 ∨ k = 6 := by omega
  unfold fv_Line_writes
  rcases hkk with rfl | rfl | rfl | rfl | rfl | rfl | rfl
  · obtain ⟨s', e, g⟩ := x_w4 f h (by omega) a
    exact ⟨s', by rw [a2]; exact e, g⟩
  · obtain ⟨s', e, g⟩ := x_w10 f h (by omega) a
    exact ⟨s', by rw [a2]; exact e, g⟩
  · obtain ⟨s', e, g⟩ := x_w4 f h (by omega) a
    exact ⟨s', by rw [a2]; exact e, g⟩
  · obtain ⟨s', e, g⟩ := x_w4 f h (by omega) a
    exact ⟨s', by rw [a2]; exact e, g⟩
  · obtain ⟨s', e, g⟩ := x_w10 f h (by omega) a
    exact ⟨s', by rw [a2]; exact e, g⟩
  · obtain ⟨s1, e1, h1⟩ := x_ran f.sh h (by omega) 51
    obtain ⟨b1, b2, b3, b4⟩ := h1.f f
    obtain ⟨s2, e2, h2⟩ := x_w4 f h1 (by rw [len_app]; omega) a
    obtain ⟨c1, c2, c3, c4⟩ := h2.f f
    refine ⟨s2, ?_, by rw [List.append_assoc] at h2; exact h2⟩
    have e3 : f_X1_writes sc x a 37 = some (s2, (a + w) ^^^ w) := by
      unfold f_X1_writes
      simp only [t37 a1, ↓bs e1, b2, tgK_in f.kk, ↓zb, e2, Option.bind_some, c2, c3, show tgK 5 = 11 from rfl, List.mem_singleton, ↓reduceIte]
      rw [if_pos (by decide)]
    rw [a2]; exact e3
  · obtain ⟨s', e, g⟩ := x_w4 f h (by omega) a
    exact ⟨s', by rw [a2]; exact e, g⟩
theorem x_s4 {st sc : zS} {x k : Nat} {w v : Int32} (f : XF st x k w v) {L : List Nat} (h : AXr st sc L) (hl : L.length < 17) (a : Int32) : ∃ s', f_X4_shows sc x a 37 = some (s', wrV k w a - v) ∧ AXr st s' (L ++ (2 :: wrL k)) := by
  obtain ⟨a1, a2, a3, a4⟩ := h.f f
  obtain ⟨s1, e1, h1⟩ := x_ran f.sh h (by omega) 2
  obtain ⟨s2, e2, h2⟩ := x_writes f h1 (by rw [len_app]; omega) a
  obtain ⟨c1, c2, c3, c4⟩ := h2.f f
  refine ⟨s2, ?_, by rw [List.append_assoc] at h2; exact h2⟩
  unfold f_X4_shows
  simp only [t37 a1, ↓bs e1, ↓zb, e2, Option.bind_some, c2, c4, tgK_in f.kk, List.mem_singleton, ↓reduceIte]
theorem x_shows {st sc : zS} {x k : Nat} {w v : Int32} (f : XF st x k w v) {L : List Nat} (h : AXr st sc L) (hl : L.length < 16) (a : Int32) : ∃ s', fv_Line_shows sc x a 37 = some (s', shV k w v a) ∧ AXr st s' (L ++ shL k) := by
  obtain ⟨a1, a2, a3, a4⟩ := h.f f
  have hk := f.kk
  have hkk : k = 0 ∨ k = 1 ∨ k = 2 ∨ k = 3 ∨ k = 4 ∨ k = 5 ∨ k = 6 := by omega
  have h21 : ∃ s', f_X0_shows sc x a 37 = some (s', -(wrV k w a - v)) ∧ AXr st s' (L ++ (21 :: 2 :: wrL k)) := by
    obtain ⟨s1, e1, h1⟩ := x_ran f.sh h (by omega) 21
    obtain ⟨b1, b2, b3, b4⟩ := h1.f f
    obtain ⟨s2, e2, h2⟩ := x_s4 f h1 (by rw [len_app]; omega) a
    refine ⟨s2, ?_, by rw [List.append_assoc] at h2; exact h2⟩
    unfold f_X0_shows
    simp only [t37 a1, ↓bs e1, b2, tgK_in f.kk, ↓zb, e2, Option.bind_some, List.mem_singleton, ↓reduceIte]
  have h2 := x_s4 f h (by omega) a
  unfold fv_Line_shows
  rcases hkk with rfl | rfl | rfl | rfl | rfl | rfl | rfl
  · obtain ⟨s', e, g⟩ := h2
    exact ⟨s', by rw [a2]; exact e, g⟩
  · obtain ⟨s', e, g⟩ := h2
    exact ⟨s', by rw [a2]; exact e, g⟩
  · obtain ⟨s', e, g⟩ := h21
    exact ⟨s', by rw [a2]; exact e, g⟩
  · obtain ⟨s', e, g⟩ := h2
    exact ⟨s', by rw [a2]; exact e, g⟩
  · obtain ⟨s', e, g⟩ := h2
    exact ⟨s', by rw [a2]; exact e, g⟩
  · obtain ⟨s', e, g⟩ := h21
    exact ⟨s', by rw [a2]; exact e, g⟩
  · obtain ⟨s1, e1, h1⟩ := x_ran f.sh h (by omega) 61
    obtain ⟨b1, b2, b3, b4⟩ := h1.f f
    obtain ⟨s2, e2, h3⟩ := x_s4 f h1 (by rw [len_app]; omega) a
    obtain ⟨c1, c2, c3, c4⟩ := h3.f f
    refine ⟨s2, ?_, by rw [List.append_assoc] at h3; exact h3⟩
    have e3 : f_X7_shows sc x a 37 = some (s2, (wrV 6 w a - v) + v) := by
      unfold f_X7_shows
      simp only [t37 a1, ↓bs e1, b2, tgK_in f.kk, ↓zb, e2, Option.bind_some, c2, c4, show tgK 6 = 17 from rfl, List.mem_singleton, ↓reduceIte]
      rw [if_pos (by decide)]
    rw [a2]; exact e3
theorem x_t4 {st sc : zS} {x k : Nat} {w v : Int32} (f : XF st x k w v) {L : List Nat} (h : AXr st sc L) (hl : L.length < 15) (a : Int32) : ∃ s', f_X4_tells sc x a 37 = some (s', shV k w v a * nI 2) ∧ AXr st s' (L ++ (3 :: shL k)) := by
  obtain ⟨a1, a2, a3, a4⟩ := h.f f
  obtain ⟨s1, e1, h1⟩ := x_ran f.sh h (by omega) 3
  obtain ⟨s2, e2, h2⟩ := x_shows f h1 (by rw [len_app]; omega) a
  refine ⟨s2, ?_, by rw [List.append_assoc] at h2; exact h2⟩
  unfold f_X4_tells
  simp only [t37 a1, ↓bs e1, ↓zb, e2, Option.bind_some, List.mem_singleton, ↓reduceIte]
theorem x_tells {st sc : zS} {x k : Nat} {w v : Int32} (f : XF st x k w v) {L : List Nat} (h : AXr st sc L) (hl : L.length < 8) (a : Int32) : ∃ s', fv_Line_tells sc x a 37 = some (s', teV k w v a) ∧ AXr st s' (L ++ teL k) := by
  obtain ⟨a1, a2, a3, a4⟩ := h.f f
  have hk := f.kk
  have hkk : k = 0 ∨ k = 1 ∨ k = 2 ∨ k = 3 ∨ k = 4 ∨ k = 5 ∨ k = 6 := by omega
  have h31 : ∃ s', f_X3_tells sc x a 37 = some (s', (shV k w v a * nI 2) ^^^ nI 7) ∧ AXr st s' (L ++ (31 :: 3 :: shL k)) := by
    obtain ⟨s1, e1, h1⟩ := x_ran f.sh h (by omega) 31
    obtain ⟨b1, b2, b3, b4⟩ := h1.f f
    obtain ⟨s2, e2, h2⟩ := x_t4 f h1 (by rw [len_app]; omega) a
    refine ⟨s2, ?_, by rw [List.append_assoc] at h2; exact h2⟩
    unfold f_X3_tells
    simp only [t37 a1, ↓bs e1, b2, tgK_in f.kk, ↓zb, e2, Option.bind_some, List.mem_singleton, ↓reduceIte]
  have h2 := x_t4 f h (by omega) a
  unfold fv_Line_tells
  rcases hkk with rfl | rfl | rfl | rfl | rfl | rfl | rfl
  · obtain ⟨s', e, g⟩ := h2
    exact ⟨s', by rw [a2]; exact e, g⟩
  · obtain ⟨s', e, g⟩ := h2
    exact ⟨s', by rw [a2]; exact e, g⟩
  · obtain ⟨s', e, g⟩ := h2
    exact ⟨s', by rw [a2]; exact e, g⟩
  · obtain ⟨s', e, g⟩ := h31
    exact ⟨s', by rw [a2]; exact e, g⟩
  · obtain ⟨s1, e1, h1⟩ := x_ran f.sh h (by omega) 41
    obtain ⟨b1, b2, b3, b4⟩ := h1.f f
    obtain ⟨s2, e2, h3⟩ := x_t4 f h1 (by rw [len_app]; omega) (a - nI 1)
    obtain ⟨c1, c2, c3, c4⟩ := h3.f f
    obtain ⟨s3, e3, h4⟩ := x_w10 f h3 (by
      have : (L ++ [41] ++ 3 :: shL 4).length = L.length + 1 + 4 := by simp [shL, wrL]
      omega) (nI 2)
    refine ⟨s3, ?_, by rw [List.append_assoc, List.append_assoc] at h4; exact h4⟩
    have e4 : f_X9_tells sc x a 37 = some (s3, shV 4 w v (a - nI 1) * nI 2 + (nI 2 * nI 3 + w)) := by
      unfold f_X9_tells
      simp only [t37 a1, ↓bs e1, b2, tgK_in f.kk, ↓zb, e2, Option.bind_some, c2, show tgK 4 = 19 from rfl, e3, List.mem_singleton, ↓reduceIte]
      rw [if_pos (by decide)]
    rw [a2]; exact e4
  · obtain ⟨s', e, g⟩ := h2
    exact ⟨s', by rw [a2]; exact e, g⟩
  · obtain ⟨s', e, g⟩ := h31
    exact ⟨s', by rw [a2]; exact e, g⟩
/-! the reference -/
def MF (st : zS) (k : Nat) (w v : Int32) : Prop := Sh st ∧ k ≤ 6 ∧ zM st 39 21 = nI k ∧ zM st 39 22 = w ∧ zM st 39 23 = v
theorem MF.sh {st : zS} {k : Nat} {w v : Int32} (f : MF st k w v) : Sh st := f.1
theorem MF.kk {st : zS} {k : Nat} {w v : Int32} (f : MF st k w v) : k ≤ 6 := f.2.1
theorem MF.mk {st : zS} {k : Nat} {w v : Int32} (f : MF st k w v) : zM st 39 21 = nI k := f.2.2.1
theorem MF.mw {st : zS} {k : Nat} {w v : Int32} (f : MF st k w v) : zM st 39 22 = w := f.2.2.2.1
theorem MF.mv {st : zS} {k : Nat} {w v : Int32} (f : MF st k w v) : zM st 39 23 = v := f.2.2.2.2
theorem AMr.f {st sm : zS} {L : List Nat} (h : AMr st sm L) {k : Nat} {w v : Int32} (f : MF st k w v) : Sh sm ∧ zM sm 39 21 = nI k ∧ zM sm 39 22 = w ∧ zM sm 39 23 = v :=
  ⟨f.sh.cc h.1, (h.2.1 _ _ (by omega) (by omega)).trans f.mk, (h.2.1 _ _ (by omega) (by omega)).trans f.mw, (h.2.1 _ _ (by omega) (by omega)).trans f.mv⟩
theorem und_t : ∀ k, k < 7 → f_X12_isUnder (nI k) (nI 1) = some (if k = 1 ∨ k = 4 then nI 1 else nI 0) ∧ f_X12_isUnder (nI k) (nI 2) = some (if k = 2 ∨ k = 5 then nI 1 else nI 0) ∧ f_X12_isUnder (nI k) (nI 3) = some (if k = 3 ∨ k = 6 then nI 1 else nI 0) := by decide +kernel
theorem m_w4 {st sm : zS} {k : Nat} {w v : Int32} (f : MF st k w v) {L : List Nat} (h : AMr st sm L) (hl : L.length < 20) (a : Int32) : ∃ s', f_X12_plainWrites sm 39 a = some (s', a + w) ∧ AMr st s' (L ++ [1]) := by
  obtain ⟨s1, e1, h1⟩ := m_ran f.sh h hl 1
  obtain ⟨a1, a2, a3, a4⟩ := h.f f
  obtain ⟨b1, b2, b3, b4⟩ := h1.f f
  refine ⟨s1, ?_, h1⟩
  unfold f_X12_plainWrites
  simp only [t39 a1, ↓bs e1, t39 b1, b3, List.mem_singleton, ↓reduceIte]
theorem m_writes {st sm : zS} {k : Nat} {w v : Int32} (f : MF st k w v) {L : List Nat} (h : AMr st sm L) (hl : L.length < 18) (a : Int32) : ∃ s', f_X12_writesActs sm 39 a = some (s', wrV k w a) ∧ AMr st s' (L ++ wrL k) := by
  obtain ⟨a1, a2, a3, a4⟩ := h.f f
  have hk := f.kk
  have u := (und_t k (by omega)).1
  have z0 : (nI 0 = 0) = True := by decide
  have z1 : (nI 1 = 0) = False := by decide
  unfold f_X12_writesActs wrV wrL
  by_cases c1 : k = 1 ∨ k = 4
  · rw [if_pos c1] at u
    obtain ⟨s1, e1, h1⟩ := m_ran f.sh h (by omega) 11
    obtain ⟨b1, b2, b3, b4⟩ := h1.f f
    obtain ⟨s2, e2, h2⟩ := m_w4 f h1 (by rw [len_app]; omega) (a * nI 3)
    rw [if_pos c1, if_pos c1]
    refine ⟨s2, ?_, by rw [List.append_assoc] at h2; exact h2⟩
    simp only [t39 a1, a2, ↓bs u, z1, ↓bs e1, t39 b1, ↓zb, e2, Option.bind_some, List.mem_singleton, ↓reduceIte]
  · rw [if_neg c1] at u
    rw [if_neg c1, if_neg c1]
    by_cases c5 : k = 5
    · obtain ⟨s1, e1, h1⟩ := m_ran f.sh h (by omega) 51
      obtain ⟨b1, b2, b3, b4⟩ := h1.f f
      obtain ⟨s2, e2, h2⟩ := m_w4 f h1 (by rw [len_app]; omega) a
      obtain ⟨d1, d2, d3, d4⟩ := h2.f f
      rw [if_pos c5, if_pos c5]
      refine ⟨s2, ?_, by rw [List.append_assoc] at h2; exact h2⟩
      subst c5
      simp only [t39 a1, a2, ↓bs u, z0, ↓bs e1, t39 b1, ↓zb, e2, t39 d1, d3, Option.bind_some, List.mem_singleton, ↓reduceIte]
    · obtain ⟨s2, e2, h2⟩ := m_w4 f h (by omega) a
      rw [if_neg c5, if_neg c5]
      refine ⟨s2, ?_, h2⟩
      simp only [t39 a1, a2, ↓bs u, z0, (n_eq (a := k) (b := 5) (by omega) (by omega)), c5, ↓zb, e2, Option.bind_some, List.mem_singleton, ↓reduceIte]
theorem m_s4 {st sm : zS} {k : Nat} {w v : Int32} (f : MF st k w v) {L : List Nat} (h : AMr st sm L) (hl : L.length < 17) (a : Int32) : ∃ s', f_X12_plainShows sm 39 a = some (s', wrV k w a - v) ∧ AMr st s' (L ++ (2 :: wrL k)) := by
  obtain ⟨a1, a2, a3, a4⟩ := h.f f
  obtain ⟨s1, e1, h1⟩ := m_ran f.sh h (by omega) 2
  obtain ⟨b1, b2, b3, b4⟩ := h1.f f
  obtain ⟨s2, e2, h2⟩ := m_writes f h1 (by rw [len_app]; omega) a
  obtain ⟨c1, c2, c3, c4⟩ := h2.f f
  refine ⟨s2, ?_, by rw [List.append_assoc] at h2; exact h2⟩
  unfold f_X12_plainShows
  simp only [t39 a1, ↓bs e1, t39 b1, ↓zb, e2, Option.bind_some, t39 c1, c4, List.mem_singleton, ↓reduceIte]
theorem m_shows {st sm : zS} {k : Nat} {w v : Int32} (f : MF st k w v) {L : List Nat} (h : AMr st sm L) (hl : L.length < 16) (a : Int32) : ∃ s', f_X12_showsActs sm 39 a = some (s', shV k w v a) ∧ AMr st s' (L ++ shL k) := by
  obtain ⟨a1, a2, a3, a4⟩ := h.f f
  have hk := f.kk
  have u := (und_t k (by omega)).2.1
  have z0 : (nI 0 = 0) = True := by decide
  have z1 : (nI 1 = 0) = False := by decide
  unfold f_X12_showsActs shV shL
  by_cases c1 : k = 2 ∨ k = 5
  · rw [if_pos c1] at u
    obtain ⟨s1, e1, h1⟩ := m_ran f.sh h (by omega) 21
    obtain ⟨b1, b2, b3, b4⟩ := h1.f f
    obtain ⟨s2, e2, h2⟩ := m_s4 f h1 (by rw [len_app]; omega) a
    rw [if_pos c1, if_pos c1]
    refine ⟨s2, ?_, by rw [List.append_assoc] at h2; exact h2⟩
    simp only [t39 a1, a2, ↓bs u, z1, ↓bs e1, t39 b1, ↓zb, e2, Option.bind_some, List.mem_singleton, ↓reduceIte]
  · rw [if_neg c1] at u
    rw [if_neg c1, if_neg c1]
    by_cases c5 : k = 6
    · obtain ⟨s1, e1, h1⟩ := m_ran f.sh h (by omega) 61
      obtain ⟨b1, b2, b3, b4⟩ := h1.f f
      obtain ⟨s2, e2, h2⟩ := m_s4 f h1 (by rw [len_app]; omega) a
      obtain ⟨d1, d2, d3, d4⟩ := h2.f f
      rw [if_pos c5, if_pos c5]
      refine ⟨s2, ?_, by rw [List.append_assoc] at h2; exact h2⟩
      subst c5
      simp only [t39 a1, a2, ↓bs u, z0, ↓bs e1, t39 b1, ↓zb, e2, t39 d1, d4, Option.bind_some, List.mem_singleton, ↓reduceIte]
    · obtain ⟨s2, e2, h2⟩ := m_s4 f h (by omega) a
      rw [if_neg c5, if_neg c5]
      refine ⟨s2, ?_, h2⟩
      simp only [t39 a1, a2, ↓bs u, z0, (n_eq (a := k) (b := 6) (by omega) (by omega)), c5, ↓zb, e2, Option.bind_some, List.mem_singleton, ↓reduceIte]
theorem m_t4 {st sm : zS} {k : Nat} {w v : Int32} (f : MF st k w v) {L : List Nat} (h : AMr st sm L) (hl : L.length < 15) (a : Int32) : ∃ s', f_X12_plainTells sm 39 a = some (s', shV k w v a * nI 2) ∧ AMr st s' (L ++ (3 :: shL k)) := by
  obtain ⟨a1, a2, a3, a4⟩ := h.f f
  obtain ⟨s1, e1, h1⟩ := m_ran f.sh h (by omega) 3
  obtain ⟨b1, b2, b3, b4⟩ := h1.f f
  obtain ⟨s2, e2, h2⟩ := m_shows f h1 (by rw [len_app]; omega) a
  refine ⟨s2, ?_, by rw [List.append_assoc] at h2; exact h2⟩
  unfold f_X12_plainTells
  simp only [t39 a1, ↓bs e1, t39 b1, ↓zb, e2, Option.bind_some, List.mem_singleton, ↓reduceIte]
theorem m_tells {st sm : zS} {k : Nat} {w v : Int32} (f : MF st k w v) {L : List Nat} (h : AMr st sm L) (hl : L.length < 8) (a : Int32) : ∃ s', f_X12_tellsActs sm 39 a = some (s', teV k w v a) ∧ AMr st s' (L ++ teL k) := by
  obtain ⟨a1, a2, a3, a4⟩ := h.f f
  have hk := f.kk
  have u := (und_t k (by omega)).2.2
  have z0 : (nI 0 = 0) = True := by decide
  have z1 : (nI 1 = 0) = False := by decide
  unfold f_X12_tellsActs teV teL
  by_cases c1 : k = 3 ∨ k = 6
  · rw [if_pos c1] at u
    obtain ⟨s1, e1, h1⟩ := m_ran f.sh h (by omega) 31
    obtain ⟨b1, b2, b3, b4⟩ := h1.f f
    obtain ⟨s2, e2, h2⟩ := m_t4 f h1 (by rw [len_app]; omega) a
    rw [if_pos c1, if_pos c1]
    refine ⟨s2, ?_, by rw [List.append_assoc] at h2; exact h2⟩
    simp only [t39 a1, a2, ↓bs u, z1, ↓bs e1, t39 b1, ↓zb, e2, Option.bind_some, List.mem_singleton, ↓reduceIte]
  · rw [if_neg c1] at u
    rw [if_neg c1, if_neg c1]
    by_cases c5 : k = 4
    · obtain ⟨s1, e1, h1⟩ := m_ran f.sh h (by omega) 41
      obtain ⟨b1, b2, b3, b4⟩ := h1.f f
      obtain ⟨s2, e2, h2⟩ := m_t4 f h1 (by rw [len_app]; omega) (a - nI 1)
      obtain ⟨d1, d2, d3, d4⟩ := h2.f f
      subst c5
      obtain ⟨s3, e3, h3⟩ := m_writes f h2 (by
        have : (L ++ [41] ++ 3 :: shL 4).length = L.length + 1 + 4 := by simp [shL, wrL]
        omega) (nI 2)
      rw [if_pos rfl, if_pos rfl]
      refine ⟨s3, ?_, by rw [List.append_assoc, List.append_assoc] at h3; exact h3⟩
      simp only [t39 a1, a2, ↓bs u, z0, ↓bs e1, t39 b1, ↓zb, e2, t39 d1, e3, Option.bind_some, List.mem_singleton, ↓reduceIte]
    · obtain ⟨s2, e2, h2⟩ := m_t4 f h (by omega) a
      rw [if_neg c5, if_neg c5]
      refine ⟨s2, ?_, h2⟩
      simp only [t39 a1, a2, ↓bs u, z0, (n_eq (a := k) (b := 4) (by omega) (by omega)), c5, ↓zb, e2, Option.bind_some, List.mem_singleton, ↓reduceIte]
theorem inv_act {st st2 : zS} (h : Inv st) (hc : st2.1 = st.1 ∧ st2.2.1 = st.2.1 ∧ st2.2.2.2 = st.2.2.2) (hm : ∀ k j, k ≠ 37 → k ≠ 38 → k ≠ 46 → ¬ (k = 39 ∧ 20 ≤ j ∧ j ≤ 23) → zM st2 k j = zM st k j) {n : Nat} (hn : n ≤ 20) (h1 : zM st2 37 1 = nI n) (h2 : zM st2 39 20 = nI n) (h3 : ∀ i, i < n → zM st2 38 i = zM st2 46 i) : Inv st2 := by
  obtain ⟨g1, g2, g3, g4, -⟩ := h
  have hR : ∀ k j, zR st2 k j = zR st k j := fun k j => by unfold zR; rw [hc.2.2]
  have hk : Kept st st2 := ⟨by rw [hc.1]; exact Nat.le_refl _, fun k hk => ⟨by rw [hc.2.1], hR k, fun j => hm k j (by unfold Dyn at hk; omega) (by unfold Dyn at hk; omega) (by unfold Dyn at hk; omega) (by unfold Dyn at hk; omega)⟩⟩
  refine ⟨g1.cc hc, g2.cg hk (hR _) (hR _ _) (fun k j q1 q2 => hm k j (by omega) (by omega) (by omega) (by omega)) (fun j => hm 40 j (by omega) (by omega) (by omega) (by omega)), by rw [hm 0 2 (by omega) (by omega) (by omega) (by omega), hm 39 3 (by omega) (by omega) (by omega) (by omega)]; exact g3, ?_, by rw [h1, h2], n, by omega, h2, fun i q1 q2 => h3 i q1⟩
  rcases g4 with q | ⟨q1, q2⟩
  · exact Or.inl (by rw [hm 39 3 (by omega) (by omega) (by omega) (by omega)]; exact q)
  · exact Or.inr ⟨by rw [hm 39 3 (by omega) (by omega) (by omega) (by omega)]; exact q1, q2.cg hk (hR _) (hR _ _) (fun k j q1 q2 => hm k j (by omega) (by omega) (by omega) (by omega)) (fun j => hm 41 j (by omega) (by omega) (by omega) (by omega))⟩
theorem s_act {st : zS} (h : Inv st) {N : Nat} (hN : 3000 ≤ N) (a1 a2 a3 : Int32) : ∃ (r : Int32) (st1 st2 : zS), (f_X11_act st 0 a1 a2 a3 = some (st1, r)) ∧ (f_X12_act st1 39 a1 a2 a3 = some (st2, r)) ∧ Sh st1 ∧ Inv st2 := by
  have hs := h.1
  have h6 := h.2.1.1.1.2
  have w1 := h.2.1.1.2.trans h.2.1.1.1.1
  have w2 := h.2.1.1.1.1
  have hs0 : Sh (zPM st 37 1 (nI 0)) := hs.pm _ _ _
  have ec : f_X8_clear st 37 = some (zPM st 37 1 (nI 0)) := by unfold f_X8_clear; rw [t37 hs]; rfl
  have hx0 : AXr st (zPM st 37 1 (nI 0)) [] := ⟨⟨rfl, rfl, rfl⟩, fun k j q1 q2 => by rw [zM_PM, if_neg (by omega)], by rw [zM_PM, if_pos ⟨rfl, rfl⟩]; rfl, fun i hi => absurd hi (by simp)⟩
  have ew : f_X2_wayOf (zPM st 37 1 (nI 0)) 1 a1 = f_X2_wayOf st 1 a1 := by
    rw [f_wayOf hs w1 h6, f_wayOf hs0 (by rw [zM_PM, if_neg (by omega)]; exact w1) h6]; rfl
  have none0 : Inv (zPM (zPM st 37 1 (nI 0)) 39 20 (nI 0)) := inv_act h ⟨rfl, rfl, rfl⟩ (fun k j q1 q2 q3 q4 => by rw [zM_PM, if_neg (by omega), zM_PM, if_neg (by omega)]) (Nat.zero_le _) (by rw [zM_PM, if_neg (by omega), zM_PM, if_pos ⟨rfl, rfl⟩]) (by rw [zM_PM, if_pos ⟨rfl, rfl⟩]) (fun i hi => by omega)
  have iw : ∀ st1, Sh st1 → zM st1 40 0 = zM st 40 0 → f_X12_isWay (zPM st1 39 20 (nI 0)) 39 a1 = f_X12_isWay st 39 a1 := fun st1 q1 q2 => by
    rw [m_isWay hs w2 h6, m_isWay (q1.pm _ _ _) (by rw [zM_PM, if_neg (by omega), q2]; exact w2) h6]
  rcases way_cases h a1 with ha | ⟨w, x, hw, rfl, hx, hL⟩
  · refine ⟨nI 0, zPM st 37 1 (nI 0), zPM (zPM st 37 1 (nI 0)) 39 20 (nI 0), ?_, ?_, hs0, none0⟩
    · unfold f_X11_act
      rw [x_wayN h ha] at ew
      simp (disch := omega) only [↓bs ec, ↓bs ew, ↓reduceIte, List.mem_singleton, Option.bind_some, if_true, if_false, zM_PM, zLn_PM, zTg_PM, zR_PM, ↓zb, ↓zo, ↓zl, n_lt0, n_le, n_lt, n_eq, n_eq0, n_gt0, n_le0, n_ge0, n_zin, n_nat, nI_add, and_self, true_or, false_or, or_false, if_pos, if_neg, f_in_nI, Nat.reduceAdd, t0 hs, ↓bs (r0_0 hs), ↓bs (r0_3 hs), t1 hs, t37 hs]
    · have e := (iw _ hs0 (by rw [zM_PM, if_neg (by omega)])).trans (m_wayN h ha)
      unfold f_X12_act
      simp (disch := omega) only [↓bs e, ↓reduceIte, List.mem_singleton, Option.bind_some, if_true, if_false, zM_PM, zLn_PM, zTg_PM, zR_PM, ↓zb, ↓zo, ↓zl, n_lt0, n_le, n_lt, n_eq, n_eq0, n_gt0, n_le0, n_ge0, n_zin, n_nat, nI_add, and_self, true_or, false_or, or_false, if_pos, if_neg, f_in_nI, Nat.reduceAdd, t39 hs]
  · obtain ⟨k, v, sl, u1, u2, u3, u4, u5, u6, u7, u8, u9, u10, u11, u12, u13, u14, u15, u16⟩ := hL
    clear u15 u16
    have f : XF st x k (nI w) (nI v) := ⟨hs, u1, u5, u9, u10, u6⟩
    rw [x_wayS h hw hx] at ew
    have al := act_len k (by omega)
    have key : ∀ (cl : Option (zS × Int32)) (V : Int32) (Ls : List Nat), Ls.length ≤ 20 → (∃ s', cl = some (s', V) ∧ AXr st s' Ls) → (∀ sm0, MF sm0 k (nI w) (nI v) → AMr sm0 sm0 [] → ∃ s', (if a2 = 0 then f_X12_writesActs sm0 39 a3 else if a2 = nI 1 then f_X12_showsActs sm0 39 a3 else f_X12_tellsActs sm0 39 a3) = some (s', V) ∧ AMr sm0 s' Ls) → f_X12_in a2 (nI 0) (nI 2) = some (nI 1) → ∃ st1 st2, cl = some (st1, V) ∧ f_X12_act st1 39 (nI w) a2 a3 = some (st2, V) ∧ Sh st1 ∧ Inv st2 := by
      intro cl V Ls hlen hcl hml hin
      obtain ⟨s1, e1, g1⟩ := hcl
      have hs1 := hs.cc g1.1
      have mz : ∀ j, zM s1 40 j = zM st 40 j := fun j => g1.2.1 40 j (by omega) (by omega)
      have e := (iw s1 hs1 (mz 0)).trans (m_wayS h hw)
      have m11 := (mz (11 + w)).trans u12
      have m17 := (mz (17 + w)).trans u13
      have f0 : MF (zPM (zPM (zPM (zPM s1 39 20 (nI 0)) 39 21 (nI k)) 39 22 (nI w)) 39 23 (nI v)) k (nI w) (nI v) := ⟨(((hs1.pm _ _ _).pm _ _ _).pm _ _ _).pm _ _ _, u1, rfl, rfl, rfl⟩
      obtain ⟨s2, e2, g2⟩ := hml _ f0 ⟨⟨rfl, rfl, rfl⟩, fun _ _ _ _ => rfl, rfl, fun i hi => absurd hi (by simp)⟩
      refine ⟨s1, s2, e1, ?_, hs1, ?_⟩
      · unfold f_X12_act
        clear hml g1 g2 mz
        simp (disch := omega) only [↓bs e, ↓bs hin, m11, m17, ↓reduceIte, List.mem_singleton, Option.bind_some, if_true, if_false, zM_PM, zLn_PM, zTg_PM, zR_PM, ↓zb, ↓zo, ↓zl, n_lt0, n_le, n_lt, n_eq, n_eq0, n_gt0, n_le0, n_ge0, n_zin, n_nat, nI_add, and_self, true_or, false_or, or_false, if_pos, if_neg, f_in_nI, Nat.reduceAdd, t39 hs1, ↓bs (r39_1 hs1), t40 hs1, l40 hs1]
        by_cases c0 : a2 = 0
        · rw [if_pos c0] at e2
          rw [if_pos c0, e2]; rfl
        · rw [if_neg c0] at e2
          rw [if_neg c0]
          by_cases c1 : a2 = nI 1
          · rw [if_pos c1] at e2
            rw [if_pos c1, e2]; rfl
          · rw [if_neg c1] at e2
            rw [if_neg c1, e2]; rfl
      · refine inv_act h ⟨g2.1.1.trans g1.1.1, g2.1.2.1.trans g1.1.2.1, g2.1.2.2.trans g1.1.2.2⟩ (fun k' j q1 q2 q3 q4 => ?_) hlen ?_ g2.2.2.1 (fun i hi => ?_)
        · rw [g2.2.1 k' j q3 (by omega), zM_PM, if_neg (by omega), zM_PM, if_neg (by omega), zM_PM, if_neg (by omega), zM_PM, if_neg (by omega)]
          exact g1.2.1 k' j q1 q2
        · rw [g2.2.1 37 1 (by omega) (by omega), zM_PM, if_neg (by omega), zM_PM, if_neg (by omega), zM_PM, if_neg (by omega), zM_PM, if_neg (by omega)]
          exact g1.2.2.1
        · rw [g2.2.2.2 i hi, g2.2.1 38 i (by omega) (by omega), zM_PM, if_neg (by omega), zM_PM, if_neg (by omega), zM_PM, if_neg (by omega), zM_PM, if_neg (by omega)]
          exact g1.2.2.2 i hi
    rcases i_neg a2 with z | ⟨j, hj, rfl⟩
    · refine ⟨nI 0, zPM st 37 1 (nI 0), zPM (zPM st 37 1 (nI 0)) 39 20 (nI 0), ?_, ?_, hs0, none0⟩
      · unfold f_X11_act
        clear key
        simp (disch := omega) only [↓bs ec, ↓bs ew, m_eq z, ↓reduceIte, List.mem_singleton, Option.bind_some, if_true, if_false, zM_PM, zLn_PM, zTg_PM, zR_PM, ↓zb, ↓zo, ↓zl, n_lt0, n_le, n_lt, n_eq, n_eq0, n_gt0, n_le0, n_ge0, n_zin, n_nat, nI_add, and_self, true_or, false_or, or_false, if_pos, if_neg, f_in_nI, Nat.reduceAdd, t0 hs, ↓bs (r0_0 hs), ↓bs (r0_3 hs), t1 hs, t37 hs]
      · have e := (iw _ hs0 (by rw [zM_PM, if_neg (by omega)])).trans (m_wayS h hw)
        have e3 := f_in_neg z 0 2 (by omega)
        clear key
        unfold f_X12_act
        simp (disch := omega) only [↓bs e, ↓bs e3, ↓reduceIte, List.mem_singleton, Option.bind_some, if_true, if_false, zM_PM, zLn_PM, zTg_PM, zR_PM, ↓zb, ↓zo, ↓zl, n_lt0, n_le, n_lt, n_eq, n_eq0, n_gt0, n_le0, n_ge0, n_zin, n_nat, nI_add, and_self, true_or, false_or, or_false, if_pos, if_neg, f_in_nI, Nat.reduceAdd, t39 hs]
    · by_cases hj2 : j ≤ 2
      · have hin : f_X12_in (nI j) (nI 0) (nI 2) = some (nI 1) := by rw [f_in_nI hj (by omega) (by omega), if_pos ⟨by omega, hj2⟩]
        have hjj : j = 0 ∨ j = 1 ∨ j = 2 := by omega
        rcases hjj with rfl | rfl | rfl
        · obtain ⟨st1, st2, k1, k2, k3, k4⟩ := key (fv_Line_writes (zPM st 37 1 (nI 0)) x a3 37) (wrV k (nI w) a3) (wrL k) (by omega) (x_writes f hx0 (by simp) a3) (fun sm0 f0 g0 => by
            rw [if_pos (by decide)]
            exact m_writes f0 g0 (by simp) a3) hin
          refine ⟨_, st1, st2, ?_, k2, k3, k4⟩
          clear key k2
          unfold f_X11_act
          simp (disch := omega) only [↓bs ec, ↓bs ew, k1, ↓reduceIte, List.mem_singleton, Option.bind_some, if_true, if_false, zM_PM, zLn_PM, zTg_PM, zR_PM, ↓zb, ↓zo, ↓zl, n_lt0, n_le, n_lt, n_eq, n_eq0, n_gt0, n_le0, n_ge0, n_zin, n_nat, nI_add, and_self, true_or, false_or, or_false, if_pos, if_neg, f_in_nI, Nat.reduceAdd, t0 hs, ↓bs (r0_0 hs), ↓bs (r0_3 hs), t1 hs, t37 hs]
        · obtain ⟨st1, st2, k1, k2, k3, k4⟩ := key (fv_Line_shows (zPM st 37 1 (nI 0)) x a3 37) (shV k (nI w) (nI v) a3) (shL k) (by omega) (x_shows f hx0 (by simp) a3) (fun sm0 f0 g0 => by
            rw [if_neg (by decide), if_pos rfl]
            exact m_shows f0 g0 (by simp) a3) hin
          refine ⟨_, st1, st2, ?_, k2, k3, k4⟩
          clear key k2
          unfold f_X11_act
          simp (disch := omega) only [↓bs ec, ↓bs ew, k1, ↓reduceIte, List.mem_singleton, Option.bind_some, if_true, if_false, zM_PM, zLn_PM, zTg_PM, zR_PM, ↓zb, ↓zo, ↓zl, n_lt0, n_le, n_lt, n_eq, n_eq0, n_gt0, n_le0, n_ge0, n_zin, n_nat, nI_add, and_self, true_or, false_or, or_false, if_pos, if_neg, f_in_nI, Nat.reduceAdd, t0 hs, ↓bs (r0_0 hs), ↓bs (r0_3 hs), t1 hs, t37 hs]
        · obtain ⟨st1, st2, k1, k2, k3, k4⟩ := key (fv_Line_tells (zPM st 37 1 (nI 0)) x a3 37) (teV k (nI w) (nI v) a3) (teL k) (by omega) (x_tells f hx0 (by simp) a3) (fun sm0 f0 g0 => by
            rw [if_neg (by decide), if_neg (by decide)]
            exact m_tells f0 g0 (by simp) a3) hin
          refine ⟨_, st1, st2, ?_, k2, k3, k4⟩
          clear key k2
          unfold f_X11_act
          simp (disch := omega) only [↓bs ec, ↓bs ew, k1, ↓reduceIte, List.mem_singleton, Option.bind_some, if_true, if_false, zM_PM, zLn_PM, zTg_PM, zR_PM, ↓zb, ↓zo, ↓zl, n_lt0, n_le, n_lt, n_eq, n_eq0, n_gt0, n_le0, n_ge0, n_zin, n_nat, nI_add, and_self, true_or, false_or, or_false, if_pos, if_neg, f_in_nI, Nat.reduceAdd, t0 hs, ↓bs (r0_0 hs), ↓bs (r0_3 hs), t1 hs, t37 hs]
      · refine ⟨nI 0, zPM st 37 1 (nI 0), zPM (zPM st 37 1 (nI 0)) 39 20 (nI 0), ?_, ?_, hs0, none0⟩
        · unfold f_X11_act
          clear key
          simp (disch := omega) only [↓bs ec, ↓bs ew, ↓reduceIte, List.mem_singleton, Option.bind_some, if_true, if_false, zM_PM, zLn_PM, zTg_PM, zR_PM, ↓zb, ↓zo, ↓zl, n_lt0, n_le, n_lt, n_eq, n_eq0, n_gt0, n_le0, n_ge0, n_zin, n_nat, nI_add, and_self, true_or, false_or, or_false, if_pos, if_neg, f_in_nI, Nat.reduceAdd, t0 hs, ↓bs (r0_0 hs), ↓bs (r0_3 hs), t1 hs, t37 hs]
        · have e := (iw _ hs0 (by rw [zM_PM, if_neg (by omega)])).trans (m_wayS h hw)
          have e3 : f_X12_in (nI j) (nI 0) (nI 2) = some (nI 0) := by rw [f_in_nI hj (by omega) (by omega), if_neg (by omega)]
          clear key
          unfold f_X12_act
          simp (disch := omega) only [↓bs e, ↓bs e3, ↓reduceIte, List.mem_singleton, Option.bind_some, if_true, if_false, zM_PM, zLn_PM, zTg_PM, zR_PM, ↓zb, ↓zo, ↓zl, n_lt0, n_le, n_lt, n_eq, n_eq0, n_gt0, n_le0, n_ge0, n_zin, n_nat, nI_add, and_self, true_or, false_or, or_false, if_pos, if_neg, f_in_nI, Nat.reduceAdd, t39 hs]
