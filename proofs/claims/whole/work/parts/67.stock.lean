/-! stock, mean -/
theorem f_isC {a : Int32} : (∃ n, n ≤ 99 ∧ a = nI n ∧ f_X11_isCost a = some (nI 1) ∧ f_X12_in a (nI 0) (nI 99) = some (nI 1)) ∨ (f_X11_isCost a = some (nI 0) ∧ f_X12_in a (nI 0) (nI 99) = some (nI 0)) := by
  rcases i_neg a with z | ⟨j, hj, rfl⟩
  · refine Or.inr ⟨?_, f_in_neg z 0 99 (by omega)⟩
    unfold f_X11_isCost
    simp (disch := omega) only [z, if_true]
  · by_cases h : j ≤ 99
    · refine Or.inl ⟨j, h, rfl, ?_, by rw [f_in_nI hj (by omega) (by omega), if_pos ⟨by omega, h⟩]⟩
      unfold f_X11_isCost
      simp (disch := omega) only [↓reduceIte, List.mem_singleton, Option.bind_some, if_true, if_false, zM_PM, zLn_PM, zTg_PM, zR_PM, ↓zb, ↓zo, ↓zl, n_lt0, n_le, n_lt, n_eq, n_eq0, n_gt0, n_le0, n_ge0, n_zin, n_nat, nI_add, and_self, true_or, false_or, or_false, if_pos, if_neg, f_in_nI, Nat.reduceAdd]
    · refine Or.inr ⟨?_, by rw [f_in_nI hj (by omega) (by omega), if_neg (by omega)]⟩
      unfold f_X11_isCost
      simp (disch := omega) only [↓reduceIte, List.mem_singleton, Option.bind_some, if_true, if_false, zM_PM, zLn_PM, zTg_PM, zR_PM, ↓zb, ↓zo, ↓zl, n_lt0, n_le, n_lt, n_eq, n_eq0, n_gt0, n_le0, n_ge0, n_zin, n_nat, nI_add, and_self, true_or, false_or, or_false, if_pos, if_neg, f_in_nI, Nat.reduceAdd]
def cS (day : Nat → Nat) (o l n : Nat) : Nat → Nat
  | 0 => 0
  | i + 1 => cS day o l n i + (if day i < n then (n - day i) * o else (day i - n) * l)
theorem cS_le {day : Nat → Nat} {o l n : Nat} (ho : o ≤ 99) (hl : l ≤ 99) (hn : n ≤ 40) : ∀ i, (∀ q, q < i → day q ≤ 40) → cS day o l n i ≤ i * 3960
  | 0, _ => Nat.zero_le _
  | i + 1, h => by
    have h1 := cS_le ho hl hn i (fun q hq => h q (by omega))
    have h2 := h i (by omega)
    have h3 : (if day i < n then (n - day i) * o else (day i - n) * l) ≤ 40 * 99 := by
      split
      · exact Nat.mul_le_mul (by omega) ho
      · exact Nat.mul_le_mul (by omega) hl
    show cS day o l n i + _ ≤ _
    omega
theorem off_le {n d : Nat} (hn : n ≤ 40) (hd : d ≤ 40) : (nI n - nI d ≤ 0) = (n ≤ d) := by
  by_cases h : n < d
  · rw [m_le0 (pk_sneg (by omega) (by omega))]
    exact (eq_true (by omega)).symm
  · rw [pk_sub (by omega), n_le0 (by omega)]
    exact propext (by omega)
theorem off_x {n d l : Nat} (h : n ≤ d) : -(nI n - nI d) * nI l = nI ((d - n) * l) := by
  rw [Int32.neg_sub, pk_sub h, n_mul]
theorem off_m {n d l : Nat} (h : n ≤ d) : -nI l * (nI n - nI d) = nI ((d - n) * l) := by
  rw [Int32.neg_mul, ← Int32.mul_neg, Int32.neg_sub, pk_sub h, n_mul, Nat.mul_comm]
theorem x_cost {st : zS} (hs : Sh st) {D : Nat} (hD : zM st 13 1 = nI D) (hD8 : D ≤ 8) {day : Nat → Nat} (hd : ∀ i, i < D → zM st 14 i = nI (day i) ∧ day i ≤ 40) {o l n : Nat} (ho : o ≤ 99) (hl : l ≤ 99) (hn : n ≤ 40) (N : Nat) : ∀ k fuel i, i + k = D → k < fuel → f_X11_costOfStock_6 N st 0 (nI n) (nI o) (nI l) fuel (nI (cS day o l n i)) (nI i) = some (nI (cS day o l n D)) := by
  intro k
  induction k with
  | zero =>
    intro fuel i h1 h2
    obtain ⟨fuel, rfl⟩ : ∃ m, fuel = m + 1 := ⟨fuel - 1, by omega⟩
    have hi : i = D := by omega
    subst hi
    unfold f_X11_costOfStock_6
    simp (disch := omega) only [hD, ↓bs (f_size (ns13 hs)), ↓reduceIte, List.mem_singleton, Option.bind_some, if_true, if_false, zM_PM, zLn_PM, zTg_PM, zR_PM, ↓zb, ↓zo, ↓zl, n_lt0, n_le, n_lt, n_eq, n_eq0, n_gt0, n_le0, n_ge0, n_zin, n_nat, nI_add, and_self, true_or, false_or, or_false, if_pos, if_neg, f_in_nI, Nat.reduceAdd, t0 hs, ↓bs (r0_0 hs), t1 hs, ↓bs (r1_10 hs), t13 hs]
  | succ k ih =>
    intro fuel i h1 h2
    obtain ⟨fuel, rfl⟩ : ∃ m, fuel = m + 1 := ⟨fuel - 1, by omega⟩
    have e2 := ih fuel (i + 1) (by omega) (by omega)
    obtain ⟨d1, d2⟩ := hd i (by omega)
    have e1 := f_get (ns13 hs) hD hD8 (by omega) (i := i) (by omega)
    rw [if_pos (by omega), d1] at e1
    clear ih hd
    have e3 : cS day o l n (i + 1) = cS day o l n i + (if day i < n then (n - day i) * o else (day i - n) * l) := rfl
    rw [e3] at e2
    unfold f_X11_costOfStock_6 f_X11_costOfStock_56
    by_cases hq : n ≤ day i
    · rw [if_neg (by omega)] at e2
      simp (disch := omega) only [hD, ↓bs (f_size (ns13 hs)), ↓bs e1, off_le, off_x, hq, ↓reduceIte, List.mem_singleton, Option.bind_some, if_true, if_false, zM_PM, zLn_PM, zTg_PM, zR_PM, ↓zb, ↓zo, ↓zl, n_lt0, n_le, n_lt, n_eq, n_eq0, n_gt0, n_le0, n_ge0, n_zin, n_nat, nI_add, and_self, true_or, false_or, or_false, if_pos, if_neg, f_in_nI, Nat.reduceAdd, t0 hs, ↓bs (r0_0 hs), t1 hs, ↓bs (r1_10 hs), t13 hs]
      exact e2
    · rw [if_pos (by omega)] at e2
      simp (disch := omega) only [hD, ↓bs (f_size (ns13 hs)), ↓bs e1, off_le, pk_sub, n_mul, ↓reduceIte, List.mem_singleton, Option.bind_some, if_true, if_false, zM_PM, zLn_PM, zTg_PM, zR_PM, ↓zb, ↓zo, ↓zl, n_lt0, n_le, n_lt, n_eq, n_eq0, n_gt0, n_le0, n_ge0, n_zin, n_nat, nI_add, and_self, true_or, false_or, or_false, if_pos, if_neg, f_in_nI, Nat.reduceAdd, t0 hs, ↓bs (r0_0 hs), t1 hs, ↓bs (r1_10 hs), t13 hs]
      exact e2
theorem m_cost {st : zS} (hs : Sh st) {D : Nat} (hD : zM st 40 4 = nI D) (hD8 : D ≤ 8) {day : Nat → Nat} (hd : ∀ i, i < D → zM st 40 (104 + i) = nI (day i) ∧ day i ≤ 40) {o l n : Nat} (ho : o ≤ 99) (hl : l ≤ 99) (hn : n ≤ 40) (N : Nat) (k12 : zS → Int32 → Int32 → Option (zS × Int32)) (x3 : Int32) {c0 : Nat} (h18 : zM st 39 18 = nI c0) (hc0 : c0 ≤ 1000000) : ∀ k fuel i, i + k = D → k < fuel → f_X12_stockOf_25 N 39 (nI o) (nI l) k12 fuel st x3 (nI n) (nI (cS day o l n i)) (nI i) = if c0 ≤ cS day o l n D then k12 (zPM st 39 18 (nI c0)) x3 (nI (n + 1)) else k12 (zPM st 39 18 (nI (cS day o l n D))) (nI n) (nI (n + 1)) := by
  intro k
  have hcl := cS_le (day := day) ho hl hn D (fun q hq => (hd q hq).2)
  induction k with
  | zero =>
    intro fuel i h1 h2
    obtain ⟨fuel, rfl⟩ : ∃ m, fuel = m + 1 := ⟨fuel - 1, by omega⟩
    have hi : i = D := by omega
    subst hi
    clear hd
    unfold f_X12_stockOf_25 f_X12_stockOf_94 f_X12_stockOf_114
    by_cases hq : c0 ≤ cS day o l n i <;>
      simp (disch := omega) only [hq, hD, h18, ↓reduceIte, List.mem_singleton, Option.bind_some, if_true, if_false, zM_PM, zLn_PM, zTg_PM, zR_PM, ↓zb, ↓zo, ↓zl, n_lt0, n_le, n_lt, n_eq, n_eq0, n_gt0, n_le0, n_ge0, n_zin, n_nat, nI_add, and_self, true_or, false_or, or_false, if_pos, if_neg, f_in_nI, Nat.reduceAdd, t39 hs, ↓bs (r39_1 hs), t40 hs, l40 hs]
  | succ k ih =>
    intro fuel i h1 h2
    obtain ⟨fuel, rfl⟩ : ∃ m, fuel = m + 1 := ⟨fuel - 1, by omega⟩
    have e2 := ih fuel (i + 1) (by omega) (by omega)
    obtain ⟨d1, d2⟩ := hd i (by omega)
    clear ih hd
    have e3 : cS day o l n (i + 1) = cS day o l n i + (if day i < n then (n - day i) * o else (day i - n) * l) := rfl
    rw [e3] at e2
    unfold f_X12_stockOf_25 f_X12_stockOf_70
    by_cases hq : n ≤ day i
    · rw [if_neg (by omega)] at e2
      simp (disch := omega) only [hD, d1, off_le, off_m, hq, ↓reduceIte, List.mem_singleton, Option.bind_some, if_true, if_false, zM_PM, zLn_PM, zTg_PM, zR_PM, ↓zb, ↓zo, ↓zl, n_lt0, n_le, n_lt, n_eq, n_eq0, n_gt0, n_le0, n_ge0, n_zin, n_nat, nI_add, and_self, true_or, false_or, or_false, if_pos, if_neg, f_in_nI, Nat.reduceAdd, t39 hs, ↓bs (r39_1 hs), t40 hs, l40 hs]
      exact e2
    · rw [if_pos (by omega)] at e2
      rw [Nat.mul_comm] at e2
      simp (disch := omega) only [hD, d1, off_le, pk_sub, n_mul, ↓reduceIte, List.mem_singleton, Option.bind_some, if_true, if_false, zM_PM, zLn_PM, zTg_PM, zR_PM, ↓zb, ↓zo, ↓zl, n_lt0, n_le, n_lt, n_eq, n_eq0, n_gt0, n_le0, n_ge0, n_zin, n_nat, nI_add, and_self, true_or, false_or, or_false, if_pos, if_neg, f_in_nI, Nat.reduceAdd, t39 hs, ↓bs (r39_1 hs), t40 hs, l40 hs]
      exact e2
theorem stock_loop {st : zS} (h : Inv st) {N : Nat} (hN : 3000 ≤ N) {D : Nat} (hK : K st 40 4 = D) {day : Nat → Nat} (hd : ∀ i, i < D → zM st 14 i = nI (day i) ∧ zM st 40 (104 + i) = nI (day i) ∧ day i ≤ 40) {o l : Nat} (ho : o ≤ 99) (hl : l ≤ 99) : ∀ k f1 f2 i best stM, i + k = 41 → k < f1 → k < f2 → best ≤ 40 → MS st stM → zM stM 39 18 = nI (cS day o l best D) → ∃ b stN, b ≤ 40 ∧ f_X11_bestStock_5 N st 0 (nI o) (nI l) f1 (nI best) (nI i) = some (nI b) ∧ f_X12_stockOf_12 N 39 (nI o) (nI l) f2 stM (nI best) (nI i) = some (stN, nI b) ∧ MS st stN ∧ zM stN 39 18 = nI (cS day o l b D) := by
  intro k
  have hs := h.1
  obtain ⟨⟨p1, p2⟩, p3, -⟩ := h.2.1.2.2.2.2.2.2.2.2.1
  rw [hK] at p1 p2
  induction k with
  | zero =>
    intro f1 f2 i best stM h1 h2 h3 h4 hm h18
    obtain ⟨f1, rfl⟩ : ∃ m, f1 = m + 1 := ⟨f1 - 1, by omega⟩
    obtain ⟨f2, rfl⟩ : ∃ m, f2 = m + 1 := ⟨f2 - 1, by omega⟩
    have hi : i = 41 := by omega
    subst hi
    refine ⟨best, stM, h4, ?_, ?_, hm, h18⟩
    · unfold f_X11_bestStock_5; rw [if_pos (by decide)]
    · unfold f_X12_stockOf_12; rw [if_pos (by decide)]
  | succ k ih =>
    intro f1 f2 i best stM h1 h2 h3 h4 hm h18
    obtain ⟨f1, rfl⟩ : ∃ m, f1 = m + 1 := ⟨f1 - 1, by omega⟩
    obtain ⟨f2, rfl⟩ : ∃ m, f2 = m + 1 := ⟨f2 - 1, by omega⟩
    have hsM := hm.sh hs
    have a1 : f_X11_costOfStock N st 0 (nI i) (nI o) (nI l) = some (nI (cS day o l i D)) := x_cost hs (p3.trans p1) p2 (fun q hq => ⟨(hd q hq).1, (hd q hq).2.2⟩) ho hl (by omega) N D N 0 (by omega) (by omega)
    have a2 : f_X11_costOfStock N st 0 (nI best) (nI o) (nI l) = some (nI (cS day o l best D)) := x_cost hs (p3.trans p1) p2 (fun q hq => ⟨(hd q hq).1, (hd q hq).2.2⟩) ho hl h4 N D N 0 (by omega) (by omega)
    have c1 := cS_le (day := day) ho hl (show i ≤ 40 by omega) D (fun q hq => (hd q hq).2.2)
    have c2 := cS_le (day := day) ho hl h4 D (fun q hq => (hd q hq).2.2)
    have a3 : f_X12_stockOf_12 N 39 (nI o) (nI l) (f2 + 1) stM (nI best) (nI i) = if cS day o l best D ≤ cS day o l i D then f_X12_stockOf_12 N 39 (nI o) (nI l) f2 (zPM stM 39 18 (nI (cS day o l best D))) (nI best) (nI (i + 1)) else f_X12_stockOf_12 N 39 (nI o) (nI l) f2 (zPM stM 39 18 (nI (cS day o l i D))) (nI i) (nI (i + 1)) := by
      rw [f_X12_stockOf_12, if_neg (by rw [n_lt (by omega) (by omega)]; omega)]
      exact m_cost hsM ((hm.mB (Or.inl rfl)).trans p1) p2 (n := i) (fun q hq => ⟨(hm.mB (Or.inl rfl)).trans (hd q hq).2.1, (hd q hq).2.2⟩) ho hl (by omega) N _ _ h18 (by omega) D N 0 (by omega) (by omega)
    rw [a3]
    unfold f_X11_bestStock_5 f_X11_bestStock_33
    rw [if_neg (by rw [n_lt (by omega) (by omega)]; omega), if_pos (by rw [t0 hs]; exact List.mem_singleton.mpr rfl), a1, Option.bind_some, a2, Option.bind_some, nI_add]
    simp (disch := omega) only [n_le]
    by_cases hq : cS day o l best D ≤ cS day o l i D
    · rw [if_pos hq, if_pos hq]
      exact ih f1 f2 (i + 1) best _ (by omega) (by omega) (by omega) h4 (hm.pm _ _ _ (by omega)) (by rw [zM_PM, if_pos ⟨rfl, rfl⟩])
    · rw [if_neg hq, if_neg hq]
      exact ih f1 f2 (i + 1) i _ (by omega) (by omega) (by omega) (by omega) (hm.pm _ _ _ (by omega)) (by rw [zM_PM, if_pos ⟨rfl, rfl⟩])
theorem stock_eq {st : zS} (h : Inv st) {N : Nat} (hN : 3000 ≤ N) {o l : Nat} (ho : o ≤ 99) (hl : l ≤ 99) : ∃ (b c : Nat) (stN : zS), c ≤ 31680 ∧ f_X11_bestStock N st 0 (nI o) (nI l) = some (nI b) ∧ f_X12_stockOf N st 39 (nI o) (nI l) = some (stN, nI b) ∧ MS st stN ∧ zM stN 39 18 = nI c ∧ f_X11_costOfStock N st 0 (nI b) (nI o) (nI l) = some (nI c) := by
  have hs := h.1
  obtain ⟨⟨p1, p2⟩, p3, p4⟩ := id h.2.1.2.2.2.2.2.2.2.2.1
  have hd : ∀ i, i < K st 40 4 → zM st 14 i = nI ((zM st 40 (104 + i)).toNatClampNeg) ∧ zM st 40 (104 + i) = nI ((zM st 40 (104 + i)).toNatClampNeg) ∧ (zM st 40 (104 + i)).toNatClampNeg ≤ 40 := by
    intro i hi
    obtain ⟨q1, j, q2, q3⟩ := p4 i hi
    rw [q3, n_nat (by omega)]
    exact ⟨q1.trans q3, rfl, by omega⟩
  have c1 := cS_le (day := fun i => (zM st 40 (104 + i)).toNatClampNeg) ho hl (show 0 ≤ 40 by omega) (K st 40 4) (fun q hq => (hd q hq).2.2)
  have hm0 : MS st (zPM st 39 18 (nI 1000000)) := MS.rf.pm _ _ _ (by omega)
  have hm1 : MS st (zPM (zPM st 39 18 (nI 1000000)) 39 18 (nI (cS (fun i => (zM st 40 (104 + i)).toNatClampNeg) o l 0 (K st 40 4)))) := hm0.pm _ _ _ (by omega)
  obtain ⟨f2, hf2⟩ : ∃ m, N = m + 1 := ⟨N - 1, by omega⟩
  obtain ⟨b, stN, b1, b2, b3, b4, b5⟩ := stock_loop h hN rfl hd ho hl 40 N f2 1 0 _ rfl (by omega) (by omega) (by omega) hm1 (by rw [zM_PM, if_pos ⟨rfl, rfl⟩])
  have c2 := cS_le (day := fun i => (zM st 40 (104 + i)).toNatClampNeg) ho hl b1 (K st 40 4) (fun q hq => (hd q hq).2.2)
  refine ⟨b, _, stN, by omega, b2, ?_, b4, b5, x_cost hs (p3.trans p1) p2 (fun q hq => ⟨(hd q hq).1, (hd q hq).2.2⟩) ho hl b1 N (K st 40 4) N 0 (by omega) (by omega)⟩
  unfold f_X12_stockOf
  rw [if_pos (by rw [t39 hs]; exact List.mem_singleton.mpr rfl)]
  have e : f_X12_stockOf_12 N 39 (nI o) (nI l) N = f_X12_stockOf_12 N 39 (nI o) (nI l) (f2 + 1) := by rw [← hf2]
  rw [e]
  rw [f_X12_stockOf_12, if_neg (by decide)]
  have hs0 := hm0.sh hs
  refine (m_cost hs0 ((hm0.mB (Or.inl rfl)).trans p1) p2 (day := fun i => (zM st 40 (104 + i)).toNatClampNeg) (fun q hq => ⟨(hm0.mB (Or.inl rfl)).trans (hd q hq).2.1, (hd q hq).2.2⟩) ho hl (show 0 ≤ 40 by omega) N _ (-5) (c0 := 1000000) (by rw [zM_PM, if_pos ⟨rfl, rfl⟩]) (by omega) (K st 40 4) N 0 (by omega) (by omega)).trans ?_
  rw [if_neg (by omega)]
  exact b3
theorem s_stock {st : zS} (h : Inv st) {N : Nat} (hN : 3000 ≤ N) (a1 a2 : Int32) : ∃ (r : Int32) (st1 st2 : zS), (f_X11_stock N st 0 a1 a2 = some r ∧ st1 = st) ∧ (f_X12_stock N st1 39 a1 a2 = some (st2, r)) ∧ Sh st1 ∧ Inv st2 := by
  have hs := h.1
  obtain ⟨⟨p1, p2⟩, p3, p4⟩ := id h.2.1.2.2.2.2.2.2.2.2.1
  clear p4
  rcases f_isC (a := a1) with ⟨o, o1, rfl, o2, o3⟩ | ⟨o2, o3⟩
  · rcases f_isC (a := a2) with ⟨l, l1, rfl, l2, l3⟩ | ⟨l2, l3⟩
    · by_cases h0 : K st 40 4 = 0
      · rw [h0] at p1
        refine ⟨-5, st, st, ⟨?_, rfl⟩, ?_, hs, h⟩
        · unfold f_X11_stock
          simp (disch := omega) only [↓bs o2, ↓bs l2, ↓bs (f_size (ns13 hs)), p3, p1, ↓reduceIte, List.mem_singleton, Option.bind_some, if_true, if_false, zM_PM, zLn_PM, zTg_PM, zR_PM, ↓zb, ↓zo, ↓zl, n_lt0, n_le, n_lt, n_eq, n_eq0, n_gt0, n_le0, n_ge0, n_zin, n_nat, nI_add, and_self, true_or, false_or, or_false, if_pos, if_neg, f_in_nI, Nat.reduceAdd, t0 hs, ↓bs (r0_0 hs), t1 hs, ↓bs (r1_10 hs), t13 hs]
        · unfold f_X12_stock
          simp (disch := omega) only [↓bs o3, ↓bs l3, p1, ↓reduceIte, List.mem_singleton, Option.bind_some, if_true, if_false, zM_PM, zLn_PM, zTg_PM, zR_PM, ↓zb, ↓zo, ↓zl, n_lt0, n_le, n_lt, n_eq, n_eq0, n_gt0, n_le0, n_ge0, n_zin, n_nat, nI_add, and_self, true_or, false_or, or_false, if_pos, if_neg, f_in_nI, Nat.reduceAdd, t39 hs, ↓bs (r39_1 hs), t40 hs, l40 hs]
      · obtain ⟨b, c, stN, -, b1, b2, b3, b4, b5⟩ := stock_eq h hN o1 l1
        refine ⟨nI b, st, stN, ⟨?_, rfl⟩, ?_, hs, b3.inv h⟩
        · unfold f_X11_stock
          simp (disch := omega) only [↓bs o2, ↓bs l2, ↓bs (f_size (ns13 hs)), p3, p1, ↓bs b1, ↓reduceIte, List.mem_singleton, Option.bind_some, if_true, if_false, zM_PM, zLn_PM, zTg_PM, zR_PM, ↓zb, ↓zo, ↓zl, n_lt0, n_le, n_lt, n_eq, n_eq0, n_gt0, n_le0, n_ge0, n_zin, n_nat, nI_add, and_self, true_or, false_or, or_false, if_pos, if_neg, f_in_nI, Nat.reduceAdd, t0 hs, ↓bs (r0_0 hs), t1 hs, ↓bs (r1_10 hs), t13 hs]
        · unfold f_X12_stock
          simp (disch := omega) only [↓bs o3, ↓bs l3, p1, b2, ↓reduceIte, List.mem_singleton, Option.bind_some, if_true, if_false, zM_PM, zLn_PM, zTg_PM, zR_PM, ↓zb, ↓zo, ↓zl, n_lt0, n_le, n_lt, n_eq, n_eq0, n_gt0, n_le0, n_ge0, n_zin, n_nat, nI_add, and_self, true_or, false_or, or_false, if_pos, if_neg, f_in_nI, Nat.reduceAdd, t39 hs, ↓bs (r39_1 hs), t40 hs, l40 hs]
    · refine ⟨-2, st, st, ⟨?_, rfl⟩, ?_, hs, h⟩
      · unfold f_X11_stock
        simp (disch := omega) only [↓bs o2, ↓bs l2, ↓reduceIte, List.mem_singleton, Option.bind_some, if_true, if_false, zM_PM, zLn_PM, zTg_PM, zR_PM, ↓zb, ↓zo, ↓zl, n_lt0, n_le, n_lt, n_eq, n_eq0, n_gt0, n_le0, n_ge0, n_zin, n_nat, nI_add, and_self, true_or, false_or, or_false, if_pos, if_neg, f_in_nI, Nat.reduceAdd]
      · unfold f_X12_stock
        simp (disch := omega) only [↓bs o3, ↓bs l3, ↓reduceIte, List.mem_singleton, Option.bind_some, if_true, if_false, zM_PM, zLn_PM, zTg_PM, zR_PM, ↓zb, ↓zo, ↓zl, n_lt0, n_le, n_lt, n_eq, n_eq0, n_gt0, n_le0, n_ge0, n_zin, n_nat, nI_add, and_self, true_or, false_or, or_false, if_pos, if_neg, f_in_nI, Nat.reduceAdd]
  · refine ⟨-2, st, st, ⟨?_, rfl⟩, ?_, hs, h⟩
    · unfold f_X11_stock
      simp (disch := omega) only [↓bs o2, ↓reduceIte, List.mem_singleton, Option.bind_some, if_true, if_false, zM_PM, zLn_PM, zTg_PM, zR_PM, ↓zb, ↓zo, ↓zl, n_lt0, n_le, n_lt, n_eq, n_eq0, n_gt0, n_le0, n_ge0, n_zin, n_nat, nI_add, and_self, true_or, false_or, or_false, if_pos, if_neg, f_in_nI, Nat.reduceAdd]
    · unfold f_X12_stock
      simp (disch := omega) only [↓bs o3, ↓reduceIte, List.mem_singleton, Option.bind_some, if_true, if_false, zM_PM, zLn_PM, zTg_PM, zR_PM, ↓zb, ↓zo, ↓zl, n_lt0, n_le, n_lt, n_eq, n_eq0, n_gt0, n_le0, n_ge0, n_zin, n_nat, nI_add, and_self, true_or, false_or, or_false, if_pos, if_neg, f_in_nI, Nat.reduceAdd]
theorem s_mean {st : zS} (h : Inv st) {N : Nat} (hN : 3000 ≤ N) (a1 a2 a3 : Int32) : ∃ (r : Int64) (st1 st2 : zS), (f_X11_mean N st 0 a1 a2 a3 = some r ∧ st1 = st) ∧ (f_X12_mean N st1 39 a1 a2 a3 = some (st2, r)) ∧ Sh st1 ∧ Inv st2 := by
  have hs := h.1
  obtain ⟨⟨p1, p2⟩, p3, p4⟩ := id h.2.1.2.2.2.2.2.2.2.2.1
  clear p4
  have hp := (f_isPt (a := a3)).2
  rcases f_isC (a := a1) with ⟨o, o1, rfl, o2, o3⟩ | ⟨o2, o3⟩
  · rcases f_isC (a := a2) with ⟨l, l1, rfl, l2, l3⟩ | ⟨l2, l3⟩
    · by_cases h0 : K st 40 4 = 0
      · rw [h0] at p1
        refine ⟨-9223372036854775808, st, st, ⟨?_, rfl⟩, ?_, hs, h⟩
        · unfold f_X11_mean
          simp (disch := omega) only [↓bs o2, ↓bs l2, ↓bs (f_size (ns13 hs)), p3, p1, ↓reduceIte, List.mem_singleton, Option.bind_some, if_true, if_false, zM_PM, zLn_PM, zTg_PM, zR_PM, ↓zb, ↓zo, ↓zl, n_lt0, n_le, n_lt, n_eq, n_eq0, n_gt0, n_le0, n_ge0, n_zin, n_nat, nI_add, and_self, true_or, false_or, or_false, if_pos, if_neg, f_in_nI, Nat.reduceAdd, t0 hs, ↓bs (r0_0 hs), t1 hs, ↓bs (r1_10 hs), t13 hs]
        · unfold f_X12_mean
          by_cases h3 : a3 = 0 ∨ a3 = nI 1
          · rw [if_pos h3] at hp
            simp (disch := omega) only [↓bs o3, ↓bs l3, ↓bs hp, p1, ↓reduceIte, List.mem_singleton, Option.bind_some, if_true, if_false, zM_PM, zLn_PM, zTg_PM, zR_PM, ↓zb, ↓zo, ↓zl, n_lt0, n_le, n_lt, n_eq, n_eq0, n_gt0, n_le0, n_ge0, n_zin, n_nat, nI_add, and_self, true_or, false_or, or_false, if_pos, if_neg, f_in_nI, Nat.reduceAdd, t39 hs, ↓bs (r39_1 hs), t40 hs, l40 hs]
          · rw [if_neg h3] at hp
            simp (disch := omega) only [↓bs o3, ↓bs l3, ↓bs hp, p1, ↓reduceIte, List.mem_singleton, Option.bind_some, if_true, if_false, zM_PM, zLn_PM, zTg_PM, zR_PM, ↓zb, ↓zo, ↓zl, n_lt0, n_le, n_lt, n_eq, n_eq0, n_gt0, n_le0, n_ge0, n_zin, n_nat, nI_add, and_self, true_or, false_or, or_false, if_pos, if_neg, f_in_nI, Nat.reduceAdd, t39 hs, ↓bs (r39_1 hs), t40 hs, l40 hs]
      · obtain ⟨b, c, stN, c1, b1, b2, b3, b4, b5⟩ := stock_eq h hN o1 l1
        have hsN := b3.sh hs
        have n4 : zM stN 40 4 = nI (K st 40 4) := (b3.mB (Or.inl rfl)).trans p1
        by_cases h3 : a3 = 0 ∨ a3 = nI 1
        · rw [if_pos h3] at hp
          obtain ⟨r, r1, r2⟩ := low_eq hN (up := lN c) (u := c) (v := K st 40 4) (Or.inl rfl) (by omega) (by omega) (by omega) h3
          refine ⟨r, st, stN, ⟨?_, rfl⟩, ?_, hs, b3.inv h⟩
          · unfold f_X11_mean
            simp (disch := omega) only [↓bs o2, ↓bs l2, ↓bs (f_size (ns13 hs)), p3, p1, ↓bs b1, ↓bs b5, nI_l, ↓bs r1, ↓reduceIte, List.mem_singleton, Option.bind_some, if_true, if_false, zM_PM, zLn_PM, zTg_PM, zR_PM, ↓zb, ↓zo, ↓zl, n_lt0, n_le, n_lt, n_eq, n_eq0, n_gt0, n_le0, n_ge0, n_zin, n_nat, nI_add, and_self, true_or, false_or, or_false, if_pos, if_neg, f_in_nI, Nat.reduceAdd, t0 hs, ↓bs (r0_0 hs), t1 hs, ↓bs (r1_10 hs), t13 hs]
          · unfold f_X12_mean
            simp (disch := omega) only [↓bs o3, ↓bs l3, ↓bs hp, p1, b2, b4, n4, nI_l, ↓bs r2, ↓reduceIte, List.mem_singleton, Option.bind_some, if_true, if_false, zM_PM, zLn_PM, zTg_PM, zR_PM, ↓zb, ↓zo, ↓zl, n_lt0, n_le, n_lt, n_eq, n_eq0, n_gt0, n_le0, n_ge0, n_zin, n_nat, nI_add, and_self, true_or, false_or, or_false, if_pos, if_neg, f_in_nI, Nat.reduceAdd, t39 hs, ↓bs (r39_1 hs), t40 hs, l40 hs, t39 hsN, ↓bs (r39_1 hsN), t40 hsN, l40 hsN]
        · rw [if_neg h3] at hp
          refine ⟨-9223372036854775808, st, st, ⟨?_, rfl⟩, ?_, hs, h⟩
          · unfold f_X11_mean
            simp (disch := omega) only [↓bs o2, ↓bs l2, ↓bs (f_size (ns13 hs)), p3, p1, ↓bs b1, ↓bs b5, ↓bs (low_no h3), ↓reduceIte, List.mem_singleton, Option.bind_some, if_true, if_false, zM_PM, zLn_PM, zTg_PM, zR_PM, ↓zb, ↓zo, ↓zl, n_lt0, n_le, n_lt, n_eq, n_eq0, n_gt0, n_le0, n_ge0, n_zin, n_nat, nI_add, and_self, true_or, false_or, or_false, if_pos, if_neg, f_in_nI, Nat.reduceAdd, t0 hs, ↓bs (r0_0 hs), t1 hs, ↓bs (r1_10 hs), t13 hs]
          · unfold f_X12_mean
            simp (disch := omega) only [↓bs o3, ↓bs l3, ↓bs hp, ↓reduceIte, List.mem_singleton, Option.bind_some, if_true, if_false, zM_PM, zLn_PM, zTg_PM, zR_PM, ↓zb, ↓zo, ↓zl, n_lt0, n_le, n_lt, n_eq, n_eq0, n_gt0, n_le0, n_ge0, n_zin, n_nat, nI_add, and_self, true_or, false_or, or_false, if_pos, if_neg, f_in_nI, Nat.reduceAdd]
    · refine ⟨-9223372036854775808, st, st, ⟨?_, rfl⟩, ?_, hs, h⟩
      · unfold f_X11_mean
        simp (disch := omega) only [↓bs o2, ↓bs l2, ↓reduceIte, List.mem_singleton, Option.bind_some, if_true, if_false, zM_PM, zLn_PM, zTg_PM, zR_PM, ↓zb, ↓zo, ↓zl, n_lt0, n_le, n_lt, n_eq, n_eq0, n_gt0, n_le0, n_ge0, n_zin, n_nat, nI_add, and_self, true_or, false_or, or_false, if_pos, if_neg, f_in_nI, Nat.reduceAdd]
      · unfold f_X12_mean
        simp (disch := omega) only [↓bs o3, ↓bs l3, ↓reduceIte, List.mem_singleton, Option.bind_some, if_true, if_false, zM_PM, zLn_PM, zTg_PM, zR_PM, ↓zb, ↓zo, ↓zl, n_lt0, n_le, n_lt, n_eq, n_eq0, n_gt0, n_le0, n_ge0, n_zin, n_nat, nI_add, and_self, true_or, false_or, or_false, if_pos, if_neg, f_in_nI, Nat.reduceAdd]
  · refine ⟨-9223372036854775808, st, st, ⟨?_, rfl⟩, ?_, hs, h⟩
    · unfold f_X11_mean
      simp (disch := omega) only [↓bs o2, ↓reduceIte, List.mem_singleton, Option.bind_some, if_true, if_false, zM_PM, zLn_PM, zTg_PM, zR_PM, ↓zb, ↓zo, ↓zl, n_lt0, n_le, n_lt, n_eq, n_eq0, n_gt0, n_le0, n_ge0, n_zin, n_nat, nI_add, and_self, true_or, false_or, or_false, if_pos, if_neg, f_in_nI, Nat.reduceAdd]
    · unfold f_X12_mean
      simp (disch := omega) only [↓bs o3, ↓reduceIte, List.mem_singleton, Option.bind_some, if_true, if_false, zM_PM, zLn_PM, zTg_PM, zR_PM, ↓zb, ↓zo, ↓zl, n_lt0, n_le, n_lt, n_eq, n_eq0, n_gt0, n_le0, n_ge0, n_zin, n_nat, nI_add, and_self, true_or, false_or, or_false, if_pos, if_neg, f_in_nI, Nat.reduceAdd]
