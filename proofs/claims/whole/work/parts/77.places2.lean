/-! the places, with lines tried -/
theorem MX.tells {st sM : zS} (h : Inv st) (hm : MX st sM) {a : Nat} (ha : 228 ≤ a) (ha2 : a ≤ 900) (b : Int32) : f_X12_tellsOf sM 39 (nI a) b = f_X12_tellsOf st 39 (nI a) b := by
  have hK := h.2.1.2.1.1.2
  obtain ⟨hd, e3, e4⟩ := h.2.1.2.2.2.2.2.2.2.2.2.2.2.2.2
  obtain ⟨want, look, cnt, c, sz, f, p1, p2, p3, p4, p5, p6, p7, p8, p9, p10, p11, p12, p13, p14, p15, p16, p17, p18, p19⟩ := e4
  rcases p19 with ⟨q1, -⟩ | ⟨act, w, l, q0, q1, -⟩
  · rw [m_tells0 h.1 q1, m_tells0 (hm.sh h.1) ((hm.b (by omega)).trans q1)]
  · rw [m_tells1 h.1 (act := act) (by omega) q1 a ha2, m_tells1 (hm.sh h.1) (act := act) (by omega) ((hm.b (by omega)).trans q1) a ha2, hm.b (by omega)]
theorem MX.look {st sM : zS} (h : Inv st) (hm : MX st sM) : f_X12_lookNow sM 39 = f_X12_lookNow st 39 := by
  unfold f_X12_lookNow
  rw [hm.tells h (by omega) (by omega), t39 (hm.sh h.1), t39 h.1]
theorem MX.want {st sM : zS} (h : Inv st) (hm : MX st sM) : f_X12_wantNow sM 39 = f_X12_wantNow st 39 := by
  unfold f_X12_wantNow
  rw [hm.tells h (by omega) (by omega), t39 (hm.sh h.1), t39 h.1]
theorem MX.count {st sM : zS} (h : Inv st) (hm : MX st sM) : f_X12_doesCount sM 39 = f_X12_doesCount st 39 := by
  unfold f_X12_doesCount
  rw [hm.tells h (by omega) (by omega), t39 (hm.sh h.1), t39 h.1]
def MXS (st0 sM st : zS) : Prop := MX st0 sM ∧ MS sM st
theorem MXS.sh {st0 sM st : zS} (h : MXS st0 sM st) (hs : Sh st0) : Sh st := h.2.sh (h.1.sh hs)
theorem MXS.pm {st0 sM st : zS} (h : MXS st0 sM st) (k j : Nat) (x : Int32) (hk : (42 ≤ k ∧ k < 46) ∨ (k = 39 ∧ j ≠ 3 ∧ j ≠ 20)) : MXS st0 sM (zPM st k j x) := ⟨h.1, h.2.pm k j x hk⟩
theorem MXS.b {st0 sM st : zS} (h : MXS st0 sM st) {j : Nat} (hj : ¬ (53 ≤ j ∧ j < 93)) : zM st 40 j = zM st0 40 j := (h.2.mB (Or.inl rfl)).trans (h.1.b hj)
theorem MXS.look {st0 sM st : zS} (h : MXS st0 sM st) (h0 : Inv st0) : f_X12_lookNow st 39 = f_X12_lookNow st0 39 := (h.1.ms h.2).look h0
theorem MXS.want {st0 sM st : zS} (h : MXS st0 sM st) (h0 : Inv st0) : f_X12_wantNow st 39 = f_X12_wantNow st0 39 := (h.1.ms h.2).want h0
/-- one place more -/
theorem m_putNx {st0 sM st : zS} (h0 : Inv st0) (hm : MXS st0 sM st) {P : Nat} {pl : Nat → Nat} (hP : P < 5) (hpl : ∀ i, pl i < 1000) (g : PlM st P pl) (hz : hasU pl (pl P) P = 0) {N : Nat} (hN : 3000 ≤ N) (k19 : zS → Int32 → Int32 → Int32 → Option zS) (x1 x2 x3 : Int32) : ∃ st', f_X12_looksForPlaces_85 N 39 k19 st x1 x2 x3 (nI (pl P)) = k19 st' x1 x2 (x3 + nI 1) ∧ MXS st0 sM st' ∧ PlM st' (P + 1) pl := by
  have hs := hm.sh h0.1
  have e := m_isPlace hs (by omega) hpl g (hpl P) hN
  unfold f_X12_looksForPlaces_85 f_X12_looksForPlaces_117
  obtain ⟨g1, g2⟩ := g
  rw [hz] at e
  refine ⟨zPM (zPM st 44 P (nI (pl P))) 39 12 (nI (P + 1)), ?_, (hm.pm _ _ _ (by omega)).pm _ _ _ (by omega), ?_, fun j hj => ?_⟩
  · clear g2 hz hpl
    simp (disch := omega) only [g1, ↓bs e, ↓reduceIte, List.mem_singleton, Option.bind_some, if_true, if_false, zM_PM, zLn_PM, zTg_PM, zR_PM, ↓zb, ↓zo, ↓zl, n_lt0, n_le, n_lt, n_eq, n_eq0, n_gt0, n_le0, n_ge0, n_zin, n_nat, nI_add, and_self, true_or, false_or, or_false, if_pos, if_neg, f_in_nI, Nat.reduceAdd, t39 hs, ↓bs (r39_11 hs), t44 hs, l44 hs]
  · simp (disch := omega) only [zM_PM, if_pos, and_self, if_true]
  · by_cases hj2 : j = P
    · subst hj2
      simp (disch := omega) only [zM_PM, if_pos, if_neg, and_self, if_true]
    · have := g2 j (by omega)
      simp (disch := omega) only [zM_PM, if_neg]
      exact this
theorem places_namedx {st0 sM : zS} (h0 : Inv st0) {N : Nat} (hN : 3000 ≤ N) {n : Nat} (h5 : n ≤ 5) (hn1 : 1 ≤ n) {pl : Nat → Nat} (hpl : ∀ i, pl i < 1000) (hp : ∀ i, i < n → zM st0 40 (93 + i) = nI (pl i)) (hd : ∀ i j, i < n → j < n → pl i = pl j → i = j) (x1 : Int32) : ∀ k fuel i st, i + k = n → k < fuel → MXS st0 sM st → PlM st i pl → ∃ st3, f_X12_looksForPlaces_19 N 39 fuel st x1 (nI n) (nI i) = some st3 ∧ MXS st0 sM st3 ∧ PlM st3 n pl := by
  intro k
  induction k with
  | zero =>
    intro fuel i st h1 h2 hm g
    obtain ⟨fuel, rfl⟩ : ∃ m, fuel = m + 1 := ⟨fuel - 1, by omega⟩
    have hi : i = n := by omega
    subst hi
    refine ⟨st, ?_, hm, g⟩
    clear hd hp hpl
    unfold f_X12_looksForPlaces_19 f_X12_looksForPlaces_44
    simp (disch := omega) only [↓reduceIte, List.mem_singleton, Option.bind_some, if_true, if_false, zM_PM, zLn_PM, zTg_PM, zR_PM, ↓zb, ↓zo, ↓zl, n_lt0, n_le, n_lt, n_eq, n_eq0, n_gt0, n_le0, n_ge0, n_zin, n_nat, nI_add, and_self, true_or, false_or, or_false, if_pos, if_neg, f_in_nI, Nat.reduceAdd]
  | succ k ih =>
    intro fuel i st h1 h2 hm g
    obtain ⟨fuel, rfl⟩ : ∃ m, fuel = m + 1 := ⟨fuel - 1, by omega⟩
    have hs := hm.sh h0.1
    have hz : hasU pl (pl i) i = 0 := hasU_zero _ (fun j hj e => by have := hd j i (by omega) (by omega) e; omega)
    obtain ⟨st', e1, e2, e3⟩ := m_putNx h0 hm (by omega) hpl g hz hN (f_X12_looksForPlaces_19 N 39 fuel) x1 (nI n) (nI i)
    rw [nI_add] at e1
    obtain ⟨st3, e4, e5⟩ := ih fuel (i + 1) st' (by omega) (by omega) e2 e3
    refine ⟨st3, ?_, e5⟩
    have e6 : zM st 40 (93 + i) = nI (pl i) := (hm.b (by omega)).trans (hp i (by omega))
    rw [← e4, ← e1]
    clear hd hp hpl ih e5
    rw [f_X12_looksForPlaces_19]
    unfold f_X12_looksForPlaces_44
    simp (disch := omega) only [e6, ↓reduceIte, List.mem_singleton, Option.bind_some, if_true, if_false, zM_PM, zLn_PM, zTg_PM, zR_PM, ↓zb, ↓zo, ↓zl, n_lt0, n_le, n_lt, n_eq, n_eq0, n_gt0, n_le0, n_ge0, n_zin, n_nat, nI_add, and_self, true_or, false_or, or_false, if_pos, if_neg, f_in_nI, Nat.reduceAdd, t39 hs, ↓bs (r39_1 hs), t40 hs, l40 hs]
theorem places_defx {st0 sM : zS} (h0 : Inv st0) {N : Nat} (hN : 3000 ≤ N) {want look : Nat} (hw1 : 1 ≤ want) (hw2 : want ≤ 40) (hl1 : 1 ≤ look) (hl2 : look ≤ 5) (hlk : f_X12_lookNow st0 39 = some (nI look)) : ∀ k fuel i st, i + k = min 3 look → k < fuel → MXS st0 sM st → PlM st (min want i) (defPl want) → ∃ st3, f_X12_looksForPlaces_19 N 39 fuel st (nI want) (nI 0) (nI i) = some st3 ∧ MXS st0 sM st3 ∧ PlM st3 (min want (min 3 look)) (defPl want) := by
  have hpl : ∀ i, defPl want i < 1000 := fun i => by unfold defPl; split; omega; split <;> omega
  intro k
  induction k with
  | zero =>
    intro fuel i st h1 h2 hm g
    obtain ⟨fuel, rfl⟩ : ∃ m, fuel = m + 1 := ⟨fuel - 1, by omega⟩
    have hi : i = min 3 look := by omega
    rw [hi] at g
    refine ⟨st, ?_, hm, g⟩
    have e := (hm.look h0).trans hlk
    have hs := hm.sh h0.1
    clear hpl
    unfold f_X12_looksForPlaces_19 f_X12_looksForPlaces_44
    by_cases h3 : 3 ≤ look <;> simp (disch := omega) only [↓bs e, ↓reduceIte, List.mem_singleton, Option.bind_some, if_true, if_false, zM_PM, zLn_PM, zTg_PM, zR_PM, ↓zb, ↓zo, ↓zl, n_lt0, n_le, n_lt, n_eq, n_eq0, n_gt0, n_le0, n_ge0, n_zin, n_nat, nI_add, and_self, true_or, false_or, or_false, if_pos, if_neg, f_in_nI, Nat.reduceAdd, t39 hs]
  | succ k ih =>
    intro fuel i st h1 h2 hm g
    obtain ⟨fuel, rfl⟩ : ∃ m, fuel = m + 1 := ⟨fuel - 1, by omega⟩
    have hs := hm.sh h0.1
    have key : ∃ st', f_X12_looksForPlaces_85 N 39 (f_X12_looksForPlaces_19 N 39 fuel) st (nI want) (nI 0) (nI i) (nI (defPl want i)) = f_X12_looksForPlaces_19 N 39 fuel st' (nI want) (nI 0) (nI (i + 1)) ∧ MXS st0 sM st' ∧ PlM st' (min want (i + 1)) (defPl want) := by
      rw [← nI_add]
      by_cases hiw : i < want
      · rw [show min want i = i by omega] at g
        rw [show min want (i + 1) = i + 1 by omega]
        refine m_putNx h0 hm (by omega) hpl g (hasU_zero _ (fun j hj e => ?_)) hN _ _ _ _
        unfold defPl at e
        split at e <;> split at e <;> (try split at e) <;> (try split at e) <;> omega
      · rw [show min want i = want by omega] at g
        rw [show min want (i + 1) = want by omega]
        refine ⟨st, m_putO hs (by omega) hpl g (hpl i) (hasU_one _ (want - 1) (by omega) ?_) hN _ _ _ _, hm, g⟩
        unfold defPl
        split <;> split <;> (try split) <;> (try split) <;> omega
    obtain ⟨st', e1, e2, e3⟩ := key
    obtain ⟨st3, e4, e5⟩ := ih fuel (i + 1) st' (by omega) (by omega) e2 e3
    refine ⟨st3, ?_, e5⟩
    rw [← e4, ← e1]
    have e := (hm.look h0).trans hlk
    clear hpl ih e5 g e3
    rw [f_X12_looksForPlaces_19]
    unfold f_X12_looksForPlaces_44 defPl
    have hi : i = 0 ∨ i = 1 ∨ i = 2 := by omega
    rcases hi with rfl | rfl | rfl <;> by_cases h3 : 3 ≤ look <;> first | (exfalso; omega) | simp (disch := omega) only [↓bs e, pk_sub, pk_div, ↓reduceIte, List.mem_singleton, Option.bind_some, if_true, if_false, zM_PM, zLn_PM, zTg_PM, zR_PM, ↓zb, ↓zo, ↓zl, n_lt0, n_le, n_lt, n_eq, n_eq0, n_gt0, n_le0, n_ge0, n_zin, n_nat, nI_add, and_self, true_or, false_or, or_false, if_pos, if_neg, f_in_nI, Nat.reduceAdd, t39 hs]
theorem places_x {st : zS} (h : Inv st) {N : Nat} (hN : 3000 ≤ N) : ∃ (P : Nat) (pl : Nat → Nat), 1 ≤ P ∧ P ≤ 5 ∧ (∀ i, i < P → pl i < 40) ∧ (∀ i, pl i < 1000) ∧ (∀ i j, i < P → j < P → pl i = pl j → i = j) ∧ f_X2_placeCount st 1 = some (nI P) ∧ (∀ i, i < P → f_X2_placeAt st 1 (nI i) = some (nI (pl i))) ∧ ∀ sM, MX st sM → ∃ st3, f_X12_looksForPlaces N sM 39 = some st3 ∧ MS sM st3 ∧ PlM st3 P pl := by
  have hs := h.1
  obtain ⟨hd, want, look, cnt, w1, w2, w3, w4, w5, w6, w7, w8, w9, w10, w11, w12, w13, w14⟩ := want_eq h
  obtain ⟨⟨q1, q2⟩, q3, q4⟩ := h.2.1.2.2.2.2.2.2.1
  have e1 := h.2.1.2.2.2.2.2.2.2.2.2.2.2.1
  have hsz := f_size (ns9 hs)
  rw [show zM st 9 1 = nI (K st 40 2) from q3.trans q1] at hsz
  by_cases hK : K st 40 2 = 0
  · have hpl : ∀ i, defPl want i < 40 := fun i => by unfold defPl; split; omega; split <;> omega
    rw [hK] at hsz q1
    refine ⟨min want (min 3 look), defPl want, by omega, by omega, fun i _ => hpl i, fun i => by have := hpl i; omega, fun i j hi hj e => ?_, ?_, fun i hi => ?_, fun sM hm => ?_⟩
    · unfold defPl at e
      split at e <;> split at e <;> (try split at e) <;> (try split at e) <;> omega
    · clear q4 e1 hpl
      unfold f_X2_placeCount
      by_cases a1 : 3 < look <;> by_cases a2 : want < min 3 look <;> simp (disch := omega) only [↓bs hsz, ↓bs w1, w2, w3, w4, ↓reduceIte, List.mem_singleton, Option.bind_some, if_true, if_false, zM_PM, zLn_PM, zTg_PM, zR_PM, ↓zb, ↓zo, ↓zl, n_lt0, n_le, n_lt, n_eq, n_eq0, n_gt0, n_le0, n_ge0, n_zin, n_nat, nI_add, and_self, true_or, false_or, or_false, if_pos, if_neg, f_in_nI, Nat.reduceAdd, t1 hs, ↓bs (r1_8 hs), t9 hs] <;> congr 2 <;> omega
    · have hi3 : i = 0 ∨ i = 1 ∨ i = 2 := by omega
      clear q4 e1 hpl
      unfold f_X2_placeAt defPl
      rcases hi3 with rfl | rfl | rfl <;> simp (disch := omega) only [↓bs hsz, ↓bs w1, w2, w3, pk_sub, pk_div, ↓reduceIte, List.mem_singleton, Option.bind_some, if_true, if_false, zM_PM, zLn_PM, zTg_PM, zR_PM, ↓zb, ↓zo, ↓zl, n_lt0, n_le, n_lt, n_eq, n_eq0, n_gt0, n_le0, n_ge0, n_zin, n_nat, nI_add, and_self, true_or, false_or, or_false, if_pos, if_neg, f_in_nI, Nat.reduceAdd, t1 hs, ↓bs (r1_8 hs), t9 hs]
    · have hq := hpl 0
      have hm0 : MXS st sM (zPM sM 39 12 (nI 0)) := ⟨hm, MS.rf.pm _ _ _ (by omega)⟩
      have hs0 := hm0.sh hs
      have hsM := hm.sh hs
      have ew := (hm0.want h).trans w11
      have g0 : ∀ pl, PlM (zPM sM 39 12 (nI 0)) 0 pl := fun pl => ⟨by simp (disch := omega) only [zM_PM, if_pos, and_self, if_true], fun i hi => by omega⟩
      have q1' := (hm.b (j := 2) (by omega)).trans q1
      obtain ⟨st3, k1, k2, k3⟩ := places_defx (sM := sM) h hN w6 w7 w8 w9 w12 (min 3 look) N 0 (zPM sM 39 12 (nI 0)) (by omega) (by omega) hm0 (by rw [show min want 0 = 0 by omega]; exact g0 _)
      refine ⟨st3, ?_, k2.2, k3⟩
      clear q4 e1 hpl k3
      unfold f_X12_looksForPlaces
      simp (disch := omega) only [↓bs ew, q1', ↓reduceIte, List.mem_singleton, Option.bind_some, if_true, if_false, zM_PM, zLn_PM, zTg_PM, zR_PM, ↓zb, ↓zo, ↓zl, n_lt0, n_le, n_lt, n_eq, n_eq0, n_gt0, n_le0, n_ge0, n_zin, n_nat, nI_add, and_self, true_or, false_or, or_false, if_pos, if_neg, f_in_nI, Nat.reduceAdd, t39 hsM, ↓bs (r39_1 hsM), ↓bs (r39_1 hs0), t40 hs0, l40 hs0, t40 hsM, l40 hsM]
      exact k1
  · have hK2 := q2
    have hp : ∀ i, i < K st 40 2 → zM st 40 (93 + i) = nI (K st 40 (93 + i)) ∧ K st 40 (93 + i) < 40 := fun i hi => by
      obtain ⟨j, j1, j2⟩ := (q4 i hi).2
      have : K st 40 (93 + i) = j := K_of j2 (by omega)
      rw [this]; exact ⟨j2, j1⟩
    let pl : Nat → Nat := fun i => if i < K st 40 2 then K st 40 (93 + i) else 0
    have pl_lt : ∀ i, i < K st 40 2 → pl i = K st 40 (93 + i) := fun i hi => if_pos hi
    have hpl : ∀ i, pl i < 40 := fun i => by
      by_cases hi : i < K st 40 2
      · rw [pl_lt i hi]; exact (hp i hi).2
      · show (if i < K st 40 2 then K st 40 (93 + i) else 0) < 40; rw [if_neg hi]; omega
    have hd2 : ∀ i j, i < K st 40 2 → j < K st 40 2 → pl i = pl j → i = j := fun i j hi hj e => by
      rw [pl_lt i hi, pl_lt j hj] at e
      exact e1 i j hi hj (by rw [(hp i hi).1, (hp j hj).1, e])
    refine ⟨K st 40 2, pl, by omega, q2, fun i _ => hpl i, fun i => by have := hpl i; omega, hd2, ?_, fun i hi => ?_, fun sM hm => ?_⟩
    · clear q4 e1 hpl hp hd2 pl_lt
      unfold f_X2_placeCount
      simp (disch := omega) only [↓bs hsz, ↓reduceIte, List.mem_singleton, Option.bind_some, if_true, if_false, zM_PM, zLn_PM, zTg_PM, zR_PM, ↓zb, ↓zo, ↓zl, n_lt0, n_le, n_lt, n_eq, n_eq0, n_gt0, n_le0, n_ge0, n_zin, n_nat, nI_add, and_self, true_or, false_or, or_false, if_pos, if_neg, f_in_nI, Nat.reduceAdd, t1 hs, ↓bs (r1_8 hs), t9 hs]
    · have g := f_get (ns9 hs) (q3.trans q1) q2 (by omega) (i := i) (by omega)
      rw [if_pos hi, (q4 i hi).1, (hp i hi).1, ← pl_lt i hi] at g
      clear q4 e1 hpl hp hd2 pl_lt
      unfold f_X2_placeAt
      simp (disch := omega) only [↓bs hsz, ↓bs g, ↓reduceIte, List.mem_singleton, Option.bind_some, if_true, if_false, zM_PM, zLn_PM, zTg_PM, zR_PM, ↓zb, ↓zo, ↓zl, n_lt0, n_le, n_lt, n_eq, n_eq0, n_gt0, n_le0, n_ge0, n_zin, n_nat, nI_add, and_self, true_or, false_or, or_false, if_pos, if_neg, f_in_nI, Nat.reduceAdd, t1 hs, ↓bs (r1_8 hs), t9 hs]
    · have hq := hpl 0
      have hm0 : MXS st sM (zPM sM 39 12 (nI 0)) := ⟨hm, MS.rf.pm _ _ _ (by omega)⟩
      have hs0 := hm0.sh hs
      have hsM := hm.sh hs
      have ew := (hm0.want h).trans w11
      have g0 : ∀ pl, PlM (zPM sM 39 12 (nI 0)) 0 pl := fun pl => ⟨by simp (disch := omega) only [zM_PM, if_pos, and_self, if_true], fun i hi => by omega⟩
      have q1' := (hm.b (j := 2) (by omega)).trans q1
      obtain ⟨st3, k1, k2, k3⟩ := places_namedx (sM := sM) h hN q2 (by omega) (pl := pl) (fun i => by have := hpl i; omega) (fun i hi => by rw [pl_lt i hi]; exact (hp i hi).1) hd2 (nI want) (K st 40 2) N 0 (zPM sM 39 12 (nI 0)) (by omega) (by omega) hm0 (g0 _)
      refine ⟨st3, ?_, k2.2, k3⟩
      clear q4 e1 hpl hp hd2 pl_lt k3
      unfold f_X12_looksForPlaces
      simp (disch := omega) only [↓bs ew, q1', ↓reduceIte, List.mem_singleton, Option.bind_some, if_true, if_false, zM_PM, zLn_PM, zTg_PM, zR_PM, ↓zb, ↓zo, ↓zl, n_lt0, n_le, n_lt, n_eq, n_eq0, n_gt0, n_le0, n_ge0, n_zin, n_nat, nI_add, and_self, true_or, false_or, or_false, if_pos, if_neg, f_in_nI, Nat.reduceAdd, t39 hsM, ↓bs (r39_1 hsM), ↓bs (r39_1 hs0), t40 hs0, l40 hs0, t40 hsM, l40 hsM]
      exact k1
