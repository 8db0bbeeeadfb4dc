/-! a clause -/
def RA2 (o c : Nat) (s s' : zS) : Prop := s'.1 = s.1 ∧ s'.2.1 = s.2.1 ∧ s'.2.2.2 = s.2.2.2 ∧ ∀ k j, k ≠ c → k ≠ o → zM s' k j = zM s k j
def RB2 (act : Nat) (s s' : zS) : Prop := s'.1 = s.1 ∧ s'.2.1 = s.2.1 ∧ s'.2.2.2 = s.2.2.2 ∧ ∀ k j, ¬ (k = 39 ∧ (j = 5 ∨ j = 7 ∨ j = 8)) → ¬ (k = 40 ∧ (j = 228 + act ∨ j = 233 + act ∨ j = 238 + act ∨ j = 243 + act ∨ (248 + 140 * act ≤ j ∧ j < 388 + 140 * act))) → zM s' k j = zM s k j
theorem RA2.rf {o c : Nat} {s : zS} : RA2 o c s s := ⟨rfl, rfl, rfl, fun _ _ _ _ => rfl⟩
theorem RB2.rf {act : Nat} {s : zS} : RB2 act s s := ⟨rfl, rfl, rfl, fun _ _ _ _ => rfl⟩
theorem RA2.tr {o c : Nat} {a b d : zS} (h : RA2 o c a b) (g : RA2 o c b d) : RA2 o c a d := ⟨g.1.trans h.1, g.2.1.trans h.2.1, g.2.2.1.trans h.2.2.1, fun k j q1 q2 => (g.2.2.2 k j q1 q2).trans (h.2.2.2 k j q1 q2)⟩
theorem RB2.tr {act : Nat} {a b d : zS} (h : RB2 act a b) (g : RB2 act b d) : RB2 act a d := ⟨g.1.trans h.1, g.2.1.trans h.2.1, g.2.2.1.trans h.2.2.1, fun k j q1 q2 => (g.2.2.2 k j q1 q2).trans (h.2.2.2 k j q1 q2)⟩
theorem RA.r2 {o c : Nat} {a b : zS} (h : RA o c a b) : RA2 o c a b := ⟨h.1, h.2.1, h.2.2.1, fun k j q1 q2 => h.2.2.2 k j q1 (fun z => q2 z.1)⟩
theorem RB.r2 {act : Nat} {a b : zS} (h : RB act a b) : RB2 act a b := ⟨h.1, h.2.1, h.2.2.1, fun k j q1 q2 => h.2.2.2 k j q1 (by omega)⟩
theorem RA2.tp {o c : Nat} {a b : zS} (h : RA2 o c a b) (ho : 47 ≤ o) (hc : 47 ≤ c) {L : Nat} {t : Nat → Nat} (g : TpA a L t) : TpA b L t := ⟨g.1.cc ⟨h.1, h.2.1, h.2.2.1⟩, g.2.1, g.2.2.1, (h.2.2.2 _ _ (by omega) (by omega)).trans g.2.2.2.1, fun i hi => (h.2.2.2 _ _ (by omega) (by omega)).trans (g.2.2.2.2 i hi)⟩
def CS (sA sB : zS) (o act w l ct : Nat) : Prop := w ≤ 99 ∧ l ≤ 99 ∧ ct ≤ 99 ∧ zM sA o 0 = nI (max 1 (min 40 w)) ∧ zM sA o 1 = nI (max 1 (min 5 l)) ∧ zM sA o 2 = nI ct ∧ zM sB 40 (228 + act) = nI w ∧ zM sB 40 (233 + act) = nI l ∧ zM sB 40 (238 + act) = nI ct
theorem CS.r {sA sB sA' sB' : zS} {o c act w l ct : Nat} (h : CS sA sB o act w l ct) (hoc : o ≠ c) (ha : act < 5) (rA : RA o c sA sA') (rB : RB act sB sB') : CS sA' sB' o act w l ct := by
  obtain ⟨h1, h2, h3, h4, h5, h6, h7, h8, h9⟩ := h
  exact ⟨h1, h2, h3, (rA.2.2.2 _ _ hoc (by omega)).trans h4, (rA.2.2.2 _ _ hoc (by omega)).trans h5, (rA.2.2.2 _ _ hoc (by omega)).trans h6, (rB.2.2.2 _ _ (by omega) (by omega)).trans h7, (rB.2.2.2 _ _ (by omega) (by omega)).trans h8, (rB.2.2.2 _ _ (by omega) (by omega)).trans h9⟩
theorem clampI {v b : Nat} (hv : v ≤ 99) (hb : b ≤ 99) : (if nI 1 < (if nI v < nI b then nI v else nI b) then (if nI v < nI b then nI v else nI b) else nI 1) = nI (max 1 (min b v)) := by
  have e : (if nI v < nI b then nI v else nI b) = nI (min b v) := by
    by_cases q : v < b
    · rw [if_pos (by rw [n_lt (by omega) (by omega)]; exact q), Nat.min_eq_right (by omega)]
    · rw [if_neg (by rw [n_lt (by omega) (by omega)]; exact q), Nat.min_eq_left (by omega)]
  rw [e]
  by_cases q : 1 < min b v
  · rw [if_pos (by rw [n_lt (by omega) (by omega)]; exact q), Nat.max_eq_right (by omega)]
  · rw [if_neg (by rw [n_lt (by omega) (by omega)]; exact q), Nat.max_eq_left (by omega)]
def Out2 (L : Nat) (t : Nat → Nat) (act o c : Nat) (sA sB : zS) (p : Nat) (x : Option (zS × Int32)) (y : Option zS) : Prop :=
  ∃ sA' sB' r, x = some (sA', r) ∧ y = some sB' ∧ RA2 o c sA sA' ∧ RB2 act sB sB' ∧ ((∃ p' sz' f' w l ct, r = nI p' ∧ p < p' ∧ sz' ≤ p' ∧ Good sB' L t act p' 0 ∧ AC sA' o c sz' f' ∧ BC sB' act sz' f' ∧ CS sA' sB' o act w l ct ∧ depN f' sz' = some 0) ∨ (∃ n sz' f', r = ng n ∧ Bad sB' n ∧ AC sA' o c sz' f'))
theorem j_set {sA sB : zS} {L : Nat} {t : Nat → Nat} {act o c p sz : Nat} {f : Nat → Nat} {w l ct : Nat} (hA : TpA sA L t) (hC : AC sA o c sz f) (g : Good sB L t act p 0) (hB : BC sB act sz f) (hz : sz ≤ p) (hS : CS sA sB o act w l ct) (hd : depN f sz = some 0) {N : Nat} (hN : 3000 ≤ N) {a y b : Nat} (hy : (a = 0 ∧ y = 119 ∧ b = 228) ∨ (a = 1 ∧ y = 108 ∧ b = 233) ∨ (a = 2 ∧ y = 99 ∧ b = 238)) (hx : tx L t p = nI y) : Out2 L t act o c sA sB p (f_X6_setting N sA o 5 (nI p) a) (f_X12_tellsHere N sB 39 (nI b) (a + 6)) := by
  obtain ⟨b1, b2, b3⟩ := g.b
  have hs := g.1.1
  have ga := g.2.1
  have e1 := hA.get (i := p) (by omega)
  rw [hx] at e1
  have ho := hC.1
  have hoc : o ≠ c := hC.2.2.2.2.2.2.1
  have ho5 : 47 ≤ o := hC.2.2.2.2.1
  obtain ⟨r2, s1, u1, u2, u3, u4⟩ := words_spells hA (a := a) (by omega) hN (Or.inl ⟨rfl, g⟩)
  obtain ⟨r4, s2, v, p', d1, d2, d3, d4, d5, d6, d7⟩ := j_digits hA u4 hN
  have rm := u3.tr d3
  have hs1 := u3.sh hs
  have hs2 := rm.sh hs
  have rA : ∀ j x, RA2 o c sA (zPM sA o j x) := fun j x => ⟨rfl, rfl, rfl, fun k j' q1 q2 => by rw [zM_PM, if_neg (fun z => q2 z.1)]⟩
  have rB : ∀ q x, (q = 228 ∨ q = 233 ∨ q = 238) → RB2 act sB (zPM s2 40 (q + act) x) := fun q x hq => rm.rb.r2.tr ⟨rfl, rfl, rfl, fun k j' q1 q2 => by rw [zM_PM, if_neg (by omega)]⟩
  have hC' : ∀ j x, j ≤ 2 → AC (zPM sA o j x) o c sz f := fun j x hj => by
    obtain ⟨h1, h2, h3, h4, h5, h6, h7, h8, h9, h10⟩ := hC
    exact ⟨h1, h2, h3, h4, h5, h6, h7, by rw [zM_PM, if_neg (by omega)]; exact h8, h9, fun i hi => by rw [zM_PM, if_neg (by omega)]; exact h10 i hi⟩
  have hB' : ∀ q x, (q = 228 ∨ q = 233 ∨ q = 238) → BC (zPM s2 40 (q + act) x) act sz f := fun q x hq => by
    have h1 := hB.rm rm
    exact ⟨by rw [zM_PM, if_neg (by omega)]; exact h1.1, fun i hi => by rw [zM_PM, if_neg (by omega)]; exact h1.2 i hi⟩
  have m2 : ∀ j, zM s2 40 j = zM sB 40 j := fun j => rm.2.2.2 _ _ (by omega)
  have two : f_X12_tellsHere N sB 39 (nI b) (a + 6) = (if (zM s2 39 7) = 0 then (Option.bind (zR s2 39 1) (fun b9 => (if zTg s2 b9 ∈ [1] then (if zin (nI b + (zM s2 39 4)) (zLn s2 b9) then (some (zPM s2 b9 ((nI b + (zM s2 39 4))).toNatClampNeg (nI v))) else none) else none))) else (some s2)) := by
    unfold f_X12_tellsHere
    simp only [t39 hs, t39 hs1, t39 hs2, u2, ↓zb, Option.bind_some, d2, List.mem_singleton, if_true]
  rw [two]
  clear two
  rcases d6 with ⟨rfl, g2⟩ | ⟨n, rfl, bd⟩
  rotate_left
  · have hn := bd.2.1
    have hw := bd.2.2.2
    refine ⟨sA, s2, ng n, ?_, ?_, RA2.rf, rm.rb.r2, Or.inr ⟨n, sz, f, rfl, bd, hC⟩⟩
    · unfold f_X6_setting
      simp (disch := omega) only [↓bs u1, ↓bs d1, m_0le (ng_neg (n := n) (by omega)), ↓reduceIte, List.mem_singleton, Option.bind_some, if_true, if_false, zM_PM, zLn_PM, zTg_PM, zR_PM, ↓zb, ↓zo, ↓zl, n_lt0, n_le, n_lt, n_eq, n_eq0, n_gt0, n_le0, n_ge0, n_zin, n_nat, nI_add, and_self, true_or, false_or, or_false, if_pos, if_neg, f_in_nI, Nat.reduceAdd]
    · simp (disch := omega) only [hw, ↓reduceIte, List.mem_singleton, Option.bind_some, if_true, if_false, zM_PM, zLn_PM, zTg_PM, zR_PM, ↓zb, ↓zo, ↓zl, n_lt0, n_le, n_lt, n_eq, n_eq0, n_gt0, n_le0, n_ge0, n_zin, n_nat, nI_add, and_self, true_or, false_or, or_false, if_pos, if_neg, f_in_nI, Nat.reduceAdd]
  obtain ⟨gt, -, gp2, -, g24, g25, g27, g28⟩ := id g2
  have d8 := d7 (nI_pos' (by omega)) sA hA
  have gd : ∀ q x, (q = 228 ∨ q = 233 ∨ q = 238) → Good (zPM s2 40 (q + act) x) L t act p' 0 := fun q x hq => by
    refine ⟨⟨hs2.pm _ _ _, gt.2.1, gt.2.2.1, ?_, fun i hi => ?_⟩, ga, gp2, by omega, ?_, ?_, ?_, ?_⟩
    · rw [zM_PM, if_neg (by omega)]; exact gt.2.2.2.1
    · rw [zM_PM, if_neg (by omega)]; exact gt.2.2.2.2 i hi
    · rw [zM_PM, if_neg (by omega)]; exact g24
    · rw [zM_PM, if_neg (by omega)]; exact g25
    · rw [zM_PM, if_neg (by omega)]; exact g27
    · rw [zM_PM, if_neg (by omega)]; exact g28
  have pp : p < p' := by omega
  obtain ⟨c1, c2, c3, c4, c5, c6, c7, c8, c9⟩ := hS
  have x7 : ∀ q, q ≤ 238 → (if (zM s2 39 7) = 0 then (Option.bind (zR s2 39 1) (fun b9 => (if zTg s2 b9 ∈ [1] then (if zin (nI q + (zM s2 39 4)) (zLn s2 b9) then (some (zPM s2 b9 ((nI q + (zM s2 39 4))).toNatClampNeg (nI v))) else none) else none))) else (some s2)) = some (zPM s2 40 (q + act) (nI v)) := fun q hq => by
    simp (disch := omega) only [g27, g24, ↓bs (r39_1 hs2), t40 hs2, l40 hs2, ↓reduceIte, List.mem_singleton, Option.bind_some, if_true, if_false, zM_PM, zLn_PM, zTg_PM, zR_PM, ↓zb, ↓zo, ↓zl, n_lt0, n_le, n_lt, n_eq, n_eq0, n_gt0, n_le0, n_ge0, n_zin, n_nat, nI_add, and_self, true_or, false_or, or_false, if_pos, if_neg, f_in_nI, Nat.reduceAdd]
  rcases hy with ⟨rfl, rfl, rfl⟩ | ⟨rfl, rfl, rfl⟩ | ⟨rfl, rfl, rfl⟩
  · rw [x7 228 (by omega)]
    refine ⟨zPM sA o 0 (nI (max 1 (min 40 v))), zPM s2 40 (228 + act) (nI v), nI p', ?_, rfl, rA _ _, rB _ _ (by omega), Or.inl ⟨p', sz, f, v, l, ct, rfl, pp, by omega, gd _ _ (by omega), hC' _ _ (by omega), hB' _ _ (by omega), ⟨d4, c2, c3, ?_, ?_, ?_, ?_, ?_, ?_⟩, hd⟩⟩
    · rw [← clampI d4 (b := 40) (by omega)]
      unfold f_X6_setting
      simp (disch := omega) only [↓bs u1, ↓bs d1, ↓bs d8, hA.tg5, ↓bs e1, ho, ↓reduceIte, List.mem_singleton, n_ge0, n_eq, if_true, if_false, if_pos, if_neg]
    · rw [zM_PM, if_pos ⟨rfl, rfl⟩]
    · rw [zM_PM, if_neg (by omega)]; exact c5
    · rw [zM_PM, if_neg (by omega)]; exact c6
    · rw [zM_PM, if_pos ⟨rfl, rfl⟩]
    · rw [zM_PM, if_neg (by omega), m2]; exact c8
    · rw [zM_PM, if_neg (by omega), m2]; exact c9
  · rw [x7 233 (by omega)]
    refine ⟨zPM sA o 1 (nI (max 1 (min 5 v))), zPM s2 40 (233 + act) (nI v), nI p', ?_, rfl, rA _ _, rB _ _ (by omega), Or.inl ⟨p', sz, f, w, v, ct, rfl, pp, by omega, gd _ _ (by omega), hC' _ _ (by omega), hB' _ _ (by omega), ⟨c1, d4, c3, ?_, ?_, ?_, ?_, ?_, ?_⟩, hd⟩⟩
    · rw [← clampI d4 (b := 5) (by omega)]
      unfold f_X6_setting
      simp (disch := omega) only [↓bs u1, ↓bs d1, ↓bs d8, hA.tg5, ↓bs e1, ho, ↓reduceIte, List.mem_singleton, n_ge0, n_eq, if_true, if_false, if_pos, if_neg]
    · rw [zM_PM, if_neg (by omega)]; exact c4
    · rw [zM_PM, if_pos ⟨rfl, rfl⟩]
    · rw [zM_PM, if_neg (by omega)]; exact c6
    · rw [zM_PM, if_neg (by omega), m2]; exact c7
    · rw [zM_PM, if_pos ⟨rfl, rfl⟩]
    · rw [zM_PM, if_neg (by omega), m2]; exact c9
  · rw [x7 238 (by omega)]
    refine ⟨zPM sA o 2 (nI v), zPM s2 40 (238 + act) (nI v), nI p', ?_, rfl, rA _ _, rB _ _ (by omega), Or.inl ⟨p', sz, f, w, l, v, rfl, pp, by omega, gd _ _ (by omega), hC' _ _ (by omega), hB' _ _ (by omega), ⟨c1, c2, d4, ?_, ?_, ?_, ?_, ?_, ?_⟩, hd⟩⟩
    · unfold f_X6_setting
      simp (disch := omega) only [↓bs u1, ↓bs d1, ↓bs d8, hA.tg5, ↓bs e1, ho, ↓reduceIte, List.mem_singleton, n_ge0, n_eq, if_true, if_false, if_pos, if_neg]
    · rw [zM_PM, if_neg (by omega)]; exact c4
    · rw [zM_PM, if_neg (by omega)]; exact c5
    · rw [zM_PM, if_pos ⟨rfl, rfl⟩]
    · rw [zM_PM, if_neg (by omega), m2]; exact c7
    · rw [zM_PM, if_neg (by omega), m2]; exact c8
    · rw [zM_PM, if_pos ⟨rfl, rfl⟩]
