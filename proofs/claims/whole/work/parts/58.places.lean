/-! places -/
def hasU (pl : Nat → Nat) (q : Nat) : Nat → Nat
  | 0 => 0
  | n + 1 => if hasU pl q n = 1 then 1 else if pl n = q then 1 else 0
theorem hasU_01 (pl : Nat → Nat) (q : Nat) : ∀ n, hasU pl q n = 0 ∨ hasU pl q n = 1
  | 0 => Or.inl rfl
  | n + 1 => by unfold hasU; split; exact Or.inr rfl; split; exact Or.inr rfl; exact Or.inl rfl
theorem hasU_zero {pl : Nat → Nat} {q : Nat} : ∀ n, (∀ i, i < n → pl i ≠ q) → hasU pl q n = 0
  | 0, _ => rfl
  | n + 1, h => by unfold hasU; rw [hasU_zero n (fun i hi => h i (by omega)), if_neg (by omega), if_neg (h n (by omega))]
theorem hasU_one {pl : Nat → Nat} {q : Nat} : ∀ n i, i < n → pl i = q → hasU pl q n = 1
  | 0, i, hi, _ => by omega
  | n + 1, i, hi, h => by
    unfold hasU
    by_cases e : hasU pl q n = 1
    · rw [if_pos e]
    · rw [if_neg e]
      by_cases hin : i = n
      · rw [← hin, if_pos h]
      · exact absurd (hasU_one n i (by omega) h) e
def PlM (st : zS) (P : Nat) (pl : Nat → Nat) : Prop := zM st 39 12 = nI P ∧ ∀ i, i < P → zM st 44 i = nI (pl i)
theorem m_isPl {st : zS} (hs : Sh st) {P : Nat} {pl : Nat → Nat} (hP : P ≤ 5) (hpl : ∀ i, pl i < 1000) (g : PlM st P pl) {q : Nat} (hq : q < 1000) (N : Nat) : ∀ k fuel i, i + k = P → k < fuel → f_X12_isPlace_4 N st 39 (nI q) fuel (nI (hasU pl q i)) (nI i) = some (nI (hasU pl q P)) := by
  obtain ⟨g1, g2⟩ := g
  intro k
  induction k with
  | zero =>
    intro fuel i h1 h2
    obtain ⟨fuel, rfl⟩ : ∃ m, fuel = m + 1 := ⟨fuel - 1, by omega⟩
    have hi : i = P := by omega
    subst hi
    have hz : zB (nI (hasU pl q i)) := by
      rcases hasU_01 pl q i with e | e <;> rw [e]
      · exact Or.inl rfl
      · exact Or.inr rfl
    unfold f_X12_isPlace_4
    simp (disch := omega) only [g1, hz, ↓reduceIte, List.mem_singleton, Option.bind_some, if_true, if_false, zM_PM, zLn_PM, zTg_PM, zR_PM, ↓zb, ↓zo, ↓zl, n_lt0, n_le, n_lt, n_eq, n_eq0, n_gt0, n_le0, n_ge0, n_zin, n_nat, nI_add, and_self, true_or, false_or, or_false, if_pos, if_neg, f_in_nI, Nat.reduceAdd, t39 hs]
  | succ k ih =>
    intro fuel i h1 h2
    obtain ⟨fuel, rfl⟩ : ∃ m, fuel = m + 1 := ⟨fuel - 1, by omega⟩
    have e2 := ih fuel (i + 1) (by omega) (by omega)
    have g3 := g2 i (by omega)
    have hpi := hpl i
    clear ih g2
    unfold f_X12_isPlace_4 f_X12_isPlace_26 f_X12_isPlace_31
    rcases hasU_01 pl q i with e | e
    · rw [e]
      by_cases hq2 : pl i = q
      · have e3 : hasU pl q (i + 1) = 1 := by unfold hasU; rw [if_neg (by omega), if_pos hq2]
        rw [e3] at e2
        clear e3
        simp (disch := omega) only [g1, g3, hq2, ↓reduceIte, List.mem_singleton, Option.bind_some, if_true, if_false, zM_PM, zLn_PM, zTg_PM, zR_PM, ↓zb, ↓zo, ↓zl, n_lt0, n_le, n_lt, n_eq, n_eq0, n_gt0, n_le0, n_ge0, n_zin, n_nat, nI_add, and_self, true_or, false_or, or_false, if_pos, if_neg, f_in_nI, Nat.reduceAdd, t39 hs, ↓bs (r39_11 hs), t44 hs, l44 hs]
        exact e2
      · have e3 : hasU pl q (i + 1) = 0 := by unfold hasU; rw [if_neg (by omega), if_neg hq2]
        rw [e3] at e2
        clear e3
        simp (disch := omega) only [g1, g3, hq2, ↓reduceIte, List.mem_singleton, Option.bind_some, if_true, if_false, zM_PM, zLn_PM, zTg_PM, zR_PM, ↓zb, ↓zo, ↓zl, n_lt0, n_le, n_lt, n_eq, n_eq0, n_gt0, n_le0, n_ge0, n_zin, n_nat, nI_add, and_self, true_or, false_or, or_false, if_pos, if_neg, f_in_nI, Nat.reduceAdd, t39 hs, ↓bs (r39_11 hs), t44 hs, l44 hs]
        exact e2
    · rw [e]
      have e3 : hasU pl q (i + 1) = 1 := by unfold hasU; rw [if_pos e]
      rw [e3] at e2
      clear e3
      simp (disch := omega) only [g1, ↓reduceIte, List.mem_singleton, Option.bind_some, if_true, if_false, zM_PM, zLn_PM, zTg_PM, zR_PM, ↓zb, ↓zo, ↓zl, n_lt0, n_le, n_lt, n_eq, n_eq0, n_gt0, n_le0, n_ge0, n_zin, n_nat, nI_add, and_self, true_or, false_or, or_false, if_pos, if_neg, f_in_nI, Nat.reduceAdd, t39 hs]
      exact e2
theorem m_isPlace {st : zS} (hs : Sh st) {P : Nat} {pl : Nat → Nat} (hP : P ≤ 5) (hpl : ∀ i, pl i < 1000) (g : PlM st P pl) {q : Nat} (hq : q < 1000) {N : Nat} (hN : 3000 ≤ N) : f_X12_isPlace N st 39 (nI q) = some (nI (hasU pl q P)) :=
  m_isPl hs hP hpl g hq N P N 0 (by omega) (by omega)
/-- one place more -/
theorem m_putN {st0 st : zS} (h0 : Inv st0) (hm : MS st0 st) {P : Nat} {pl : Nat → Nat} (hP : P < 5) (hpl : ∀ i, pl i < 1000) (g : PlM st P pl) (hz : hasU pl (pl P) P = 0) {N : Nat} (hN : 3000 ≤ N) (k19 : zS → Int32 → Int32 → Int32 → Option zS) (x1 x2 x3 : Int32) : ∃ st', f_X12_looksForPlaces_85 N 39 k19 st x1 x2 x3 (nI (pl P)) = k19 st' x1 x2 (x3 + nI 1) ∧ MS st0 st' ∧ PlM st' (P + 1) pl := by
  have hs := hm.sh h0.1
  have e := m_isPlace hs (by omega) hpl g (hpl P) hN
  unfold f_X12_looksForPlaces_85 f_X12_looksForPlaces_117
  obtain ⟨g1, g2⟩ := g
  rw [hz] at e
  refine ⟨zPM (zPM st 44 P (nI (pl P))) 39 12 (nI (P + 1)), ?_, (hm.pm _ _ _ (by omega)).pm _ _ _ (by omega), ?_, fun j hj => ?_⟩
  · clear g2 hz hpl
    simp (disch := omega) only [g1, ↓bs e, ↓reduceIte, List.mem_singleton, Option.bind_some, if_true, if_false, zM_PM, zLn_PM, zTg_PM, zR_PM, ↓zb, ↓zo, ↓zl, n_lt0, n_le, n_lt, n_eq, n_eq0, n_gt0, n_le0, n_ge0, n_zin, n_nat, nI_add, and_self, true_or, false_or, or_false, if_pos, if_neg, f_in_nI, Nat.reduceAdd, t39 hs, ↓bs (r39_11 hs), t44 hs, l44 hs]
  · simp (disch := omega) only [zM_PM, if_pos, and_self, if_true]
  · by_cases hj2 : j = P
    · subst hj2
      simp (disch := omega) only [zM_PM, if_pos, if_neg, and_self, if_true]
    · have := g2 j (by omega)
      simp (disch := omega) only [zM_PM, if_neg]
      exact this
/-- a place that is there already -/
theorem m_putO {st : zS} (hs : Sh st) {P q : Nat} {pl : Nat → Nat} (hP : P ≤ 5) (hpl : ∀ i, pl i < 1000) (g : PlM st P pl) (hq : q < 1000) (h1 : hasU pl q P = 1) {N : Nat} (hN : 3000 ≤ N) (k19 : zS → Int32 → Int32 → Int32 → Option zS) (x1 x2 x3 : Int32) : f_X12_looksForPlaces_85 N 39 k19 st x1 x2 x3 (nI q) = k19 st x1 x2 (x3 + nI 1) := by
  have e := m_isPlace hs (by omega) hpl g hq hN
  rw [h1] at e
  clear h1 hpl
  unfold f_X12_looksForPlaces_85 f_X12_looksForPlaces_117
  simp (disch := omega) only [↓bs e, ↓reduceIte, List.mem_singleton, Option.bind_some, if_true, if_false, zM_PM, zLn_PM, zTg_PM, zR_PM, ↓zb, ↓zo, ↓zl, n_lt0, n_le, n_lt, n_eq, n_eq0, n_gt0, n_le0, n_ge0, n_zin, n_nat, nI_add, and_self, true_or, false_or, or_false, if_pos, if_neg, f_in_nI, Nat.reduceAdd, t39 hs]
theorem MS.tells {st st' : zS} (hm : MS st st') (hs : Sh st) (a b : Int32) : f_X12_tellsOf st' 39 a b = f_X12_tellsOf st 39 a b := by
  unfold f_X12_tellsOf
  simp only [↓bs (r39_1 (hm.sh hs)), ↓bs (r39_1 hs), hm.tg, hm.ln, hm.mB (B := 40) (Or.inl rfl)]
theorem MS.look {st st' : zS} (hm : MS st st') (hs : Sh st) : f_X12_lookNow st' 39 = f_X12_lookNow st 39 := by
  unfold f_X12_lookNow
  rw [hm.tells hs, hm.tg]
theorem MS.want {st st' : zS} (hm : MS st st') (hs : Sh st) : f_X12_wantNow st' 39 = f_X12_wantNow st 39 := by
  unfold f_X12_wantNow
  rw [hm.tells hs, hm.tg]
theorem places_named {st0 : zS} (h0 : Inv st0) {N : Nat} (hN : 3000 ≤ N) {n : Nat} (h5 : n ≤ 5) (hn1 : 1 ≤ n) {pl : Nat → Nat} (hpl : ∀ i, pl i < 1000) (hp : ∀ i, i < n → zM st0 40 (93 + i) = nI (pl i)) (hd : ∀ i j, i < n → j < n → pl i = pl j → i = j) (x1 : Int32) : ∀ k fuel i st, i + k = n → k < fuel → MS st0 st → PlM st i pl → ∃ st3, f_X12_looksForPlaces_19 N 39 fuel st x1 (nI n) (nI i) = some st3 ∧ MS st0 st3 ∧ PlM st3 n pl := by
  intro k
  induction k with
  | zero =>
    intro fuel i st h1 h2 hm g
    obtain ⟨fuel, rfl⟩ : ∃ m, fuel = m + 1 := ⟨fuel - 1, by omega⟩
    have hi : i = n := by omega
    subst hi
    refine ⟨st, ?_, hm, g⟩
    clear hd hp hpl
    unfold f_X12_looksForPlaces_19 f_X12_looksForPlaces_44
    simp (disch := omega) only [↓reduceIte, List.mem_singleton, Option.bind_some, if_true, if_false, zM_PM, zLn_PM, zTg_PM, zR_PM, ↓zb, ↓zo, ↓zl, n_lt0, n_le, n_lt, n_eq, n_eq0, n_gt0, n_le0, n_ge0, n_zin, n_nat, nI_add, and_self, true_or, false_or, or_false, if_pos, if_neg, f_in_nI, Nat.reduceAdd]
  | succ k ih =>
    intro fuel i st h1 h2 hm g
    obtain ⟨fuel, rfl⟩ : ∃ m, fuel = m + 1 := ⟨fuel - 1, by omega⟩
    have hs := hm.sh h0.1
    have hz : hasU pl (pl i) i = 0 := hasU_zero _ (fun j hj e => by have := hd j i (by omega) (by omega) e; omega)
    obtain ⟨st', e1, e2, e3⟩ := m_putN h0 hm (by omega) hpl g hz hN (f_X12_looksForPlaces_19 N 39 fuel) x1 (nI n) (nI i)
    rw [nI_add] at e1
    obtain ⟨st3, e4, e5⟩ := ih fuel (i + 1) st' (by omega) (by omega) e2 e3
    refine ⟨st3, ?_, e5⟩
    have e6 : zM st 40 (93 + i) = nI (pl i) := (hm.mB (Or.inl rfl)).trans (hp i (by omega))
    rw [← e4, ← e1]
    clear hd hp hpl ih e5
    rw [f_X12_looksForPlaces_19]
    unfold f_X12_looksForPlaces_44
    simp (disch := omega) only [e6, ↓reduceIte, List.mem_singleton, Option.bind_some, if_true, if_false, zM_PM, zLn_PM, zTg_PM, zR_PM, ↓zb, ↓zo, ↓zl, n_lt0, n_le, n_lt, n_eq, n_eq0, n_gt0, n_le0, n_ge0, n_zin, n_nat, nI_add, and_self, true_or, false_or, or_false, if_pos, if_neg, f_in_nI, Nat.reduceAdd, t39 hs, ↓bs (r39_1 hs), t40 hs, l40 hs]
def defPl (want i : Nat) : Nat := if i = 0 then 0 else if i = 1 then want - 1 else want / 2
theorem places_def {st0 : zS} (h0 : Inv st0) {N : Nat} (hN : 3000 ≤ N) {want look : Nat} (hw1 : 1 ≤ want) (hw2 : want ≤ 40) (hl1 : 1 ≤ look) (hl2 : look ≤ 5) (hlk : f_X12_lookNow st0 39 = some (nI look)) : ∀ k fuel i st, i + k = min 3 look → k < fuel → MS st0 st → PlM st (min want i) (defPl want) → ∃ st3, f_X12_looksForPlaces_19 N 39 fuel st (nI want) (nI 0) (nI i) = some st3 ∧ MS st0 st3 ∧ PlM st3 (min want (min 3 look)) (defPl want) := by
  have hpl : ∀ i, defPl want i < 1000 := fun i => by unfold defPl; split; omega; split <;> omega
  intro k
  induction k with
  | zero =>
    intro fuel i st h1 h2 hm g
    obtain ⟨fuel, rfl⟩ : ∃ m, fuel = m + 1 := ⟨fuel - 1, by omega⟩
    have hi : i = min 3 look := by omega
    rw [hi] at g
    refine ⟨st, ?_, hm, g⟩
    have e := (hm.look h0.1).trans hlk
    have hs := hm.sh h0.1
    clear hpl
    unfold f_X12_looksForPlaces_19 f_X12_looksForPlaces_44
    by_cases h3 : 3 ≤ look <;> simp (disch := omega) only [↓bs e, ↓reduceIte, List.mem_singleton, Option.bind_some, if_true, if_false, zM_PM, zLn_PM, zTg_PM, zR_PM, ↓zb, ↓zo, ↓zl, n_lt0, n_le, n_lt, n_eq, n_eq0, n_gt0, n_le0, n_ge0, n_zin, n_nat, nI_add, and_self, true_or, false_or, or_false, if_pos, if_neg, f_in_nI, Nat.reduceAdd, t39 hs]
  | succ k ih =>
    intro fuel i st h1 h2 hm g
    obtain ⟨fuel, rfl⟩ : ∃ m, fuel = m + 1 := ⟨fuel - 1, by omega⟩
    have hs := hm.sh h0.1
    have key : ∃ st', f_X12_looksForPlaces_85 N 39 (f_X12_looksForPlaces_19 N 39 fuel) st (nI want) (nI 0) (nI i) (nI (defPl want i)) = f_X12_looksForPlaces_19 N 39 fuel st' (nI want) (nI 0) (nI (i + 1)) ∧ MS st0 st' ∧ PlM st' (min want (i + 1)) (defPl want) := by
      rw [← nI_add]
      by_cases hiw : i < want
      · rw [show min want i = i by omega] at g
        rw [show min want (i + 1) = i + 1 by omega]
        refine m_putN h0 hm (by omega) hpl g (hasU_zero _ (fun j hj e => ?_)) hN _ _ _ _
        unfold defPl at e
        split at e <;> split at e <;> (try split at e) <;> (try split at e) <;> omega
      · rw [show min want i = want by omega] at g
        rw [show min want (i + 1) = want by omega]
        refine ⟨st, m_putO hs (by omega) hpl g (hpl i) (hasU_one _ (want - 1) (by omega) ?_) hN _ _ _ _, hm, g⟩
        unfold defPl
        split <;> split <;> (try split) <;> (try split) <;> omega
    obtain ⟨st', e1, e2, e3⟩ := key
    obtain ⟨st3, e4, e5⟩ := ih fuel (i + 1) st' (by omega) (by omega) e2 e3
    refine ⟨st3, ?_, e5⟩
    rw [← e4, ← e1]
    have e := (hm.look h0.1).trans hlk
    clear hpl ih e5 g e3
    rw [f_X12_looksForPlaces_19]
    unfold f_X12_looksForPlaces_44 defPl
    have hi : i = 0 ∨ i = 1 ∨ i = 2 := by omega
    rcases hi with rfl | rfl | rfl <;> by_cases h3 : 3 ≤ look <;> first | (exfalso; omega) | simp (disch := omega) only [↓bs e, pk_sub, pk_div, ↓reduceIte, List.mem_singleton, Option.bind_some, if_true, if_false, zM_PM, zLn_PM, zTg_PM, zR_PM, ↓zb, ↓zo, ↓zl, n_lt0, n_le, n_lt, n_eq, n_eq0, n_gt0, n_le0, n_ge0, n_zin, n_nat, nI_add, and_self, true_or, false_or, or_false, if_pos, if_neg, f_in_nI, Nat.reduceAdd, t39 hs]
