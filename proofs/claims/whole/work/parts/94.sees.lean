/-! sees, and every clause -/
theorem expect_n {s : zS} {n : Nat} (hn : n ≤ 100) (x : Int32) : f_X6_expect s 5 (ng n) x = some (ng n) := by
  unfold f_X6_expect f_X6_expect_19
  simp (disch := omega) only [ng_neg (n := n) (by omega), ↓bs (stuck_n (n := n) (by omega)), ↓reduceIte, List.mem_singleton, Option.bind_some, if_true, if_false, zM_PM, zLn_PM, zTg_PM, zR_PM, ↓zb, ↓zo, ↓zl, n_lt0, n_le, n_lt, n_eq, n_eq0, n_gt0, n_le0, n_ge0, n_zin, n_nat, nI_add, and_self, true_or, false_or, or_false, if_pos, if_neg, f_in_nI, Nat.reduceAdd]
def seesM (N : Nat) (st : zS) : Option zS := Option.bind (f_X12_spells N st 39 9) (fun st12 => (if zTg st12 39 ∈ [22] then (zb (f_X12_figures N st12 39) (fun st15 r16 => (if zTg st15 39 ∈ [22] then (Option.bind (f_X12_must st15 39 (nI 32)) (fun st19 => (if zTg st19 39 ∈ [22] then (Option.bind (g_X12_some N 25 st19 39) (fun st22 => (if zTg st22 39 ∈ [22] then (Option.bind (f_X12_emits st22 39 ((-10 : Int32) - r16)) (fun st25 => (some st25))) else none))) else none))) else none))) else none))
theorem j_sees {sA sB : zS} {L : Nat} {t : Nat → Nat} {act o c p sz : Nat} {f : Nat → Nat} {w l ct : Nat} (hA : TpA sA L t) (hC : AC sA o c sz f) (g : Good sB L t act p 0) (hB : BC sB act sz f) (hz : sz ≤ p) (hS : CS sA sB o act w l ct) (hd : depN f sz = some 0) {N : Nat} (hN : 3000 ≤ N) : Out2 L t act o c sA sB p (f_X6_sees N sA o 5 (nI p)) (seesM N sB) := by
  obtain ⟨b1, b2, b3⟩ := g.b
  have hs := g.1.1
  have ga := g.2.1
  have ho := hC.1
  have hoc : o ≠ c := hC.2.2.2.2.2.2.1
  have ho5 : 47 ≤ o := hC.2.2.2.2.1
  have hc5 : 47 ≤ c := hC.2.2.2.2.2.1
  obtain ⟨r2, s1, u1, u2, u3, u4⟩ := words_spells hA (a := 3) (by omega) hN (Or.inl ⟨rfl, g⟩)
  obtain ⟨r4, s2, v, p2, d1, d2, d3, d4, d5, d6, d7⟩ := j_digits hA u4 hN
  have rm := u3.tr d3
  have hs1 := u3.sh hs
  have hs2 := rm.sh hs
  have two : seesM N sB = Option.bind (f_X12_must s2 39 (nI 32)) (fun st19 => (if zTg st19 39 ∈ [22] then (Option.bind (g_X12_some N 25 st19 39) (fun st22 => (if zTg st22 39 ∈ [22] then (Option.bind (f_X12_emits st22 39 ((-10 : Int32) - nI v)) (fun st25 => (some st25))) else none))) else none)) := by
    unfold seesM
    simp only [show f_X12_spells N sB 39 9 = some s1 from u2, t39 hs1, t39 hs2, ↓zb, Option.bind_some, d2, List.mem_singleton, if_true]
  have one : f_X6_sees N sA o 5 (nI p) = Option.bind (f_X6_expect sA 5 r4 (nI 32)) (fun r6 => (if zTg sA o ∈ [16] then (zb (g_X6_either N 25 sA o 5 r6 (nI 0)) (fun st9 r10 => (if r10 < 0 then (some (st9, r10)) else (Option.bind (f_X6_valueOf N st9 5 r2 r4) (fun r12 => (if zTg st9 o ∈ [16] then (Option.bind (f_X6_put st9 o ((nI 3000) + r12)) (fun st15 => (some (st15, r10)))) else none)))))) else none)) := by
    unfold f_X6_sees
    rw [u1, Option.bind_some, d1, Option.bind_some]
  rw [one, two]
  clear one two
  have bad : ∀ n r6 s3, f_X6_expect sA 5 r4 (nI 32) = some r6 → f_X12_must s2 39 (nI 32) = some s3 → RM s2 s3 → r6 = ng n → Bad s3 n → Out2 L t act o c sA sB p (Option.bind (f_X6_expect sA 5 r4 (nI 32)) (fun r6 => (if zTg sA o ∈ [16] then (zb (g_X6_either N 25 sA o 5 r6 (nI 0)) (fun st9 r10 => (if r10 < 0 then (some (st9, r10)) else (Option.bind (f_X6_valueOf N st9 5 r2 r4) (fun r12 => (if zTg st9 o ∈ [16] then (Option.bind (f_X6_put st9 o ((nI 3000) + r12)) (fun st15 => (some (st15, r10)))) else none)))))) else none))) (Option.bind (f_X12_must s2 39 (nI 32)) (fun st19 => (if zTg st19 39 ∈ [22] then (Option.bind (g_X12_some N 25 st19 39) (fun st22 => (if zTg st22 39 ∈ [22] then (Option.bind (f_X12_emits st22 39 ((-10 : Int32) - nI v)) (fun st25 => (some st25))) else none))) else none))) := by
    rintro n r6 s3 y1 y2 y3 rfl y4
    have hn := y4.2.1
    obtain ⟨M, rfl⟩ : ∃ m, N = m + 1 := ⟨N - 1, by omega⟩
    have z1 : g_X6_either (M + 1) 25 sA o 5 (ng n) (nI 0) = some (sA, ng n) := x_neg0 hA.tg5 ho hn M 22 (nI 0)
    have z2 : g_X12_some (M + 1) 25 s3 39 = some s3 := m_bad0 y4 M 22
    refine ⟨sA, s3, ng n, ?_, ?_, RA2.rf, (rm.tr y3).rb.r2, Or.inr ⟨n, sz, f, rfl, y4, hC⟩⟩
    · simp (disch := omega) only [↓bs y1, ho, z1, ng_neg (n := n) (by omega), ↓reduceIte, List.mem_singleton, Option.bind_some, if_true, if_false, zM_PM, zLn_PM, zTg_PM, zR_PM, ↓zb, ↓zo, ↓zl, n_lt0, n_le, n_lt, n_eq, n_eq0, n_gt0, n_le0, n_ge0, n_zin, n_nat, nI_add, and_self, true_or, false_or, or_false, if_pos, if_neg, f_in_nI, Nat.reduceAdd]
    · simp (disch := omega) only [↓bs y2, t39 y4.1, ↓bs z2, ↓bs (m_emit_bad y4 _), ↓reduceIte, List.mem_singleton, Option.bind_some, if_true, if_false, zM_PM, zLn_PM, zTg_PM, zR_PM, ↓zb, ↓zo, ↓zl, n_lt0, n_le, n_lt, n_eq, n_eq0, n_gt0, n_le0, n_ge0, n_zin, n_nat, nI_add, and_self, true_or, false_or, or_false, if_pos, if_neg, f_in_nI, Nat.reduceAdd]
  rcases d6 with ⟨rfl, g2⟩ | ⟨n, rfl, bd⟩
  rotate_left
  · obtain ⟨s3, y1, y2, y3⟩ := must_bad bd (nI 32)
    exact bad n (ng n) s3 (expect_n bd.2.1 _) y1 y2 rfl y3
  obtain ⟨r6, s3, y1, y2, y3, y4⟩ := j_expect hA (Or.inl ⟨rfl, g2⟩) (x := 32) (by omega)
  rcases y4 with ⟨rfl, g3⟩ | ⟨n, rfl, bd⟩
  rotate_left
  · exact bad n (ng n) s3 y1 y2 y3 rfl bd
  clear bad
  have gp2 := g2.2.2.1
  have d8 := d7 (nI_pos' (by omega))
  have rm3 := rm.tr y3
  have hs3 := rm3.sh hs
  obtain ⟨sA', sB', r, j1, j2, j3, j4, j5⟩ := (j_all hN 25).1 0 (by omega) (by omega) sA s3 (p2 + 1) sz f hA hC g3 (hB.rm rm3) (by omega)
  have j1' : g_X6_either N 25 sA o 5 (nI (p2 + 1)) (nI 0) = some (sA', r) := j1
  have j2' : g_X12_some N 25 s3 39 = some sB' := j2
  have hA' := j3.tp ho5 hc5 hA
  have hs' := j4.sh hs3
  rcases j5 with ⟨p', sz', f', rfl, v1, v2, v3, v4⟩ | ⟨n, sz', f', rfl, v1, v2⟩
  · obtain ⟨c1, c2, c3⟩ := v1.b
    have d9 := d8 sA' hA'
    obtain ⟨v5, v6⟩ := And.intro v4.1 v4.2.1
    obtain ⟨sA2, sz2, f2, z1, z2, z3, z4⟩ := x_put v2 (3000 + v)
    obtain ⟨rfl, rfl⟩ := z4 (by omega)
    obtain ⟨s4, w1, w2, w3, w4⟩ := m_emit v1 v3 (by omega) (3000 + v)
    rw [← stp_sees] at w1
    have hS' := hS.r hoc ga (j3.tr z2) ((rm3.rb.tr j4).tr w2)
    refine ⟨sA2, s4, nI p', ?_, ?_, (j3.tr z2).r2, ((rm3.rb.tr j4).tr w2).r2, Or.inl ⟨p', sz' + 1, _, w, l, ct, rfl, by omega, by omega, w3, z3, w4, hS', ?_⟩⟩
    · simp (disch := omega) only [↓bs y1, ho, j1', ↓bs d9, v2.1, nI_add, ↓bs z1, ↓reduceIte, List.mem_singleton, Option.bind_some, if_true, if_false, zM_PM, zLn_PM, zTg_PM, zR_PM, ↓zb, ↓zo, ↓zl, n_lt0, n_le, n_lt, n_eq, n_eq0, n_gt0, n_le0, n_ge0, n_zin, n_nat, nI_add, and_self, true_or, false_or, or_false, if_pos, if_neg, f_in_nI, Nat.reduceAdd]
    · simp (disch := omega) only [↓bs y2, t39 hs3, ↓bs j2', t39 hs', ↓bs w1, ↓reduceIte, List.mem_singleton, Option.bind_some, if_true, if_false, zM_PM, zLn_PM, zTg_PM, zR_PM, ↓zb, ↓zo, ↓zl, n_lt0, n_le, n_lt, n_eq, n_eq0, n_gt0, n_le0, n_ge0, n_zin, n_nat, nI_add, and_self, true_or, false_or, or_false, if_pos, if_neg, f_in_nI, Nat.reduceAdd]
    · rw [depN_put _ (v4.2.2.2.2 0 (by omega) hd)]
      exact dep_sees d4
  · have hn := v1.2.1
    refine ⟨sA', sB', ng n, ?_, ?_, j3.r2, (rm3.rb.tr j4).r2, Or.inr ⟨n, sz', f', rfl, v1, v2⟩⟩
    · simp (disch := omega) only [↓bs y1, ho, j1', ng_neg (n := n) (by omega), ↓reduceIte, List.mem_singleton, Option.bind_some, if_true, if_false, zM_PM, zLn_PM, zTg_PM, zR_PM, ↓zb, ↓zo, ↓zl, n_lt0, n_le, n_lt, n_eq, n_eq0, n_gt0, n_le0, n_ge0, n_zin, n_nat, nI_add, and_self, true_or, false_or, or_false, if_pos, if_neg, f_in_nI, Nat.reduceAdd]
    · simp (disch := omega) only [↓bs y2, t39 hs3, ↓bs j2', t39 hs', ↓bs (m_emit_bad v1 _), ↓reduceIte, List.mem_singleton, Option.bind_some, if_true, if_false, zM_PM, zLn_PM, zTg_PM, zR_PM, ↓zb, ↓zo, ↓zl, n_lt0, n_le, n_lt, n_eq, n_eq0, n_gt0, n_le0, n_ge0, n_zin, n_nat, nI_add, and_self, true_or, false_or, or_false, if_pos, if_neg, f_in_nI, Nat.reduceAdd]
theorem ob_eta {α : Type} (x : Option α) : x.bind (fun r => some r) = x := by cases x <;> rfl
theorem j_clause {sA sB : zS} {L : Nat} {t : Nat → Nat} {act o c p sz : Nat} {f : Nat → Nat} {w l ct : Nat} (hA : TpA sA L t) (hC : AC sA o c sz f) (g : Good sB L t act p 0) (hB : BC sB act sz f) (hz : sz ≤ p) (hS : CS sA sB o act w l ct) (hd : depN f sz = some 0) {N : Nat} (hN : 3000 ≤ N) : Out2 L t act o c sA sB p (f_X6_clause N sA o 5 (nI p)) (f_X12_clauseHere N sB 39) := by
  obtain ⟨b1, b2, b3⟩ := g.b
  obtain ⟨gt, ga, gp, go, g4, g5, g7, g8⟩ := id g
  have hs := gt.1
  have e1 := hA.get (i := p) (by omega)
  have e2 := gt.here g5 gp
  have ho := hC.1
  have x1 : f_X6_clause N sA o 5 (nI p) = if tx L t p = nI 99 then f_X6_setting N sA o 5 (nI p) 2 else if tx L t p = nI 108 then f_X6_setting N sA o 5 (nI p) 1 else if tx L t p = nI 115 then f_X6_sees N sA o 5 (nI p) else if tx L t p = nI 119 then f_X6_setting N sA o 5 (nI p) 0 else some (sA, ng p) := by
    unfold f_X6_clause
    simp only [hA.tg5, ↓bs e1, ho, ↓bs (stuck_p (p := p) (by omega)), zb_eta, List.mem_singleton, if_true]
  have x2 : f_X12_clauseHere N sB 39 = if tx L t p = nI 99 then f_X12_tellsHere N sB 39 (nI 238) 8 else if tx L t p = nI 108 then f_X12_tellsHere N sB 39 (nI 233) 7 else if tx L t p = nI 115 then seesM N sB else if tx L t p = nI 119 then f_X12_tellsHere N sB 39 (nI 228) 6 else some (zPM sB 39 7 (nI 1)) := by
    unfold f_X12_clauseHere seesM
    simp only [t39 hs, ↓bs e2, ob_eta, List.mem_singleton, if_true]
  rw [x1, x2]
  clear x1 x2
  by_cases q1 : tx L t p = nI 99
  · rw [if_pos q1, if_pos q1]
    exact j_set hA hC g hB hz hS hd hN (a := 2) (y := 99) (b := 238) (by omega) q1
  rw [if_neg q1, if_neg q1]
  by_cases q2 : tx L t p = nI 108
  · rw [if_pos q2, if_pos q2]
    exact j_set hA hC g hB hz hS hd hN (a := 1) (y := 108) (b := 233) (by omega) q2
  rw [if_neg q2, if_neg q2]
  by_cases q3 : tx L t p = nI 115
  · rw [if_pos q3, if_pos q3]
    exact j_sees hA hC g hB hz hS hd hN
  rw [if_neg q3, if_neg q3]
  by_cases q4 : tx L t p = nI 119
  · rw [if_pos q4, if_pos q4]
    exact j_set hA hC g hB hz hS hd hN (a := 0) (y := 119) (b := 228) (by omega) q4
  rw [if_neg q4, if_neg q4]
  exact ⟨sA, zPM sB 39 7 (nI 1), ng p, rfl, rfl, RA2.rf, (RM.rf.pm (j := 7) (by omega) (nI 1)).rb.r2, Or.inr ⟨p, sz, f, rfl, ⟨hs.pm _ _ _, b3, by rw [zM_PM, if_neg (by omega)]; exact g5, by rw [zM_PM, if_pos ⟨rfl, rfl⟩]⟩, hC⟩⟩
