/-! sees, and every clause -/
theorem expect_n {s : zS} {n : Nat} (hn : n ≤ 100) (x : Int32) : f_X6_expect s 5 (ng n) x = some (ng n) := by
  unfold f_X6_expect f_X6_expect_19
  simp (disch := omega) only [ng_neg (n := n) (by omega), ↓bs (stuck_n (n := n) (by omega)), ↓reduceIte, List.mem_singleton, Option.bind_some, if_true, if_false, zM_PM, zLn_PM, zTg_PM, zR_PM, ↓zb, ↓zo, ↓zl, n_lt0, n_le, n_lt, n_eq, n_eq0, n_gt0, n_le0, n_ge0, n_zin, n_nat, nI_add, and_self, true_or, false_or, or_false, if_pos, if_neg, f_in_nI, Nat.reduceAdd]
def seesM (N : Nat) (st : zS) : Option zS := Option.bind (f_X12_spells N st 39 9) (fun st12 => (if zTg st12 39 ∈ [22] then (zb (f_X12_figures N st12 39) (fun st15 r16 => (if zTg st15 39 ∈ [22] then (Option.bind (f_X12_must st15 39 (nI 32)) (fun st19 => (if zTg st19 39 ∈ [22] then (Option.bind (g_X12_some N 25 st19 39) (fun st22 => (if zTg st22 39 ∈ [22] then (Option.bind (f_X12_emits st22 39 ((-10 : Int32) - r16)) (fun st25 => (some st25))) else none))) else none))) else none))) else none))
theorem x_sees1 {N o p : Nat} {sA sA' : zS} {r2 r4 r6 r : Int32} (ho : zTg sA o = 16) (u1 : f_X6_words N sA 5 (nI p) 3 = some r2) (d1 : f_X6_digits sA 5 r2 = some r4) (y1 : f_X6_expect sA 5 r4 (nI 32) = some r6) (j1 : g_X6_either N 25 sA o 5 r6 (nI 0) = some (sA', r)) (hr : r < 0) : f_X6_sees N sA o 5 (nI p) = some (sA', r) := by
  unfold f_X6_sees
  simp only [↓bs u1, ↓bs d1, ↓bs y1, ho, j1, ↓zb, Option.bind_some, List.mem_singleton, if_true, hr]
theorem x_sees2 {N o p v : Nat} {sA sA' sA2 : zS} {r2 r4 r6 r : Int32} (ho : zTg sA o = 16) (u1 : f_X6_words N sA 5 (nI p) 3 = some r2) (d1 : f_X6_digits sA 5 r2 = some r4) (y1 : f_X6_expect sA 5 r4 (nI 32) = some r6) (j1 : g_X6_either N 25 sA o 5 r6 (nI 0) = some (sA', r)) (hr : ¬ r < 0) (ho' : zTg sA' o = 16) (d8 : f_X6_valueOf N sA' 5 r2 r4 = some (nI v)) (z1 : f_X6_put sA' o (nI (3000 + v)) = some sA2) : f_X6_sees N sA o 5 (nI p) = some (sA2, r) := by
  unfold f_X6_sees
  simp only [↓bs u1, ↓bs d1, ↓bs y1, ho, j1, ↓bs d8, ho', nI_add, ↓bs z1, ↓zb, Option.bind_some, List.mem_singleton, if_true, if_false, hr]
theorem m_sees {N v : Nat} {sB s1 s2 s3 sB' s4 : zS} (hs : zTg sB 39 = 22) (h1 : zTg s1 39 = 22) (h2 : zTg s2 39 = 22) (h3 : zTg s3 39 = 22) (h4 : zTg sB' 39 = 22) (u2 : f_X12_spells N sB 39 9 = some s1) (d2 : f_X12_figures N s1 39 = some (s2, nI v)) (y2 : f_X12_must s2 39 (nI 32) = some s3) (j2 : g_X12_some N 25 s3 39 = some sB') (w1 : f_X12_emits sB' 39 (-10 - nI v) = some s4) : seesM N sB = some s4 := by
  unfold seesM
  simp only [↓bs u2, h1, h2, h3, h4, d2, ↓bs y2, ↓bs j2, ↓bs w1, ↓zb, Option.bind_some, List.mem_singleton, if_true]
theorem dep_s {f : Nat → Nat} {n v : Nat} (h : depN f n = some (0 + 1)) (hv : v ≤ 99) : depN (updN f n (3000 + v)) (n + 1) = some 0 := by
  rw [depN_put _ h]
  exact dep_sees hv
theorem s_bad {L : Nat} {t : Nat → Nat} {act o c p sz n v N : Nat} {sA sB s1 s2 s3 : zS} {f : Nat → Nat} {r2 r4 : Int32} (hN : 3000 ≤ N) (hA : TpA sA L t) (hC : AC sA o c sz f) (hs : Sh sB) (hs1 : Sh s1) (hs2 : Sh s2) (u1 : f_X6_words N sA 5 (nI p) 3 = some r2) (d1 : f_X6_digits sA 5 r2 = some r4) (y1 : f_X6_expect sA 5 r4 (nI 32) = some (ng n)) (u2 : f_X12_spells N sB 39 9 = some s1) (d2 : f_X12_figures N s1 39 = some (s2, nI v)) (y2 : f_X12_must s2 39 (nI 32) = some s3) (rm : RM sB s3) (y4 : Bad s3 n) : Out2 L t act o c sA sB p (f_X6_sees N sA o 5 (nI p)) (seesM N sB) := by
  have hn := y4.2.1
  obtain ⟨M, rfl⟩ : ∃ m, N = m + 1 := ⟨N - 1, by omega⟩
  have z1 : g_X6_either (M + 1) 25 sA o 5 (ng n) (nI 0) = some (sA, ng n) := x_neg0 hA.tg5 hC.1 hn M 22 (nI 0)
  have z2 : g_X12_some (M + 1) 25 s3 39 = some s3 := m_bad0 y4 M 22
  exact ⟨sA, s3, ng n, x_sees1 hC.1 u1 d1 y1 z1 (ng_neg (by omega)), m_sees (t39 hs) (t39 hs1) (t39 hs2) (t39 y4.1) (t39 y4.1) u2 d2 y2 z2 (m_emit_bad y4 _), RA2.rf, rm.rb.r2, Or.inr ⟨n, sz, f, rfl, y4, hC⟩⟩
theorem s_in {L : Nat} {t : Nat → Nat} {act o c p p2 sz v N w l ct : Nat} {sA sB s1 s2 s3 sA' sB' : zS} {f : Nat → Nat} {r r2 r4 : Int32} (hA : TpA sA L t) (hC : AC sA o c sz f) (hs : Sh sB) (hs1 : Sh s1) (hs2 : Sh s2) (hs3 : Sh s3) (u1 : f_X6_words N sA 5 (nI p) 3 = some r2) (d1 : f_X6_digits sA 5 r2 = some r4) (y1 : f_X6_expect sA 5 r4 (nI 32) = some (nI (p2 + 1))) (u2 : f_X12_spells N sB 39 9 = some s1) (d2 : f_X12_figures N s1 39 = some (s2, nI v)) (y2 : f_X12_must s2 39 (nI 32) = some s3) (rm : RM sB s3) (d4 : v ≤ 99) (hp : p < p2) (hz : sz ≤ p) (hS : CS sA sB o act w l ct) (hd : depN f sz = some 0) (ga : act < 5) (d8 : ∀ s, TpA s L t → f_X6_valueOf N s 5 r2 r4 = some (nI v)) (j1 : g_X6_either N 25 sA o 5 (nI (p2 + 1)) (nI 0) = some (sA', r)) (j2 : g_X12_some N 25 s3 39 = some sB') (j3 : RA o c sA sA') (j4 : RB act s3 sB') (j5 : (∃ p' sz' f', r = nI p' ∧ Good sB' L t act p' 0 ∧ AC sA' o c sz' f' ∧ BC sB' act sz' f' ∧ Ex (p2 + 1) sz f p' sz' f' 0 1) ∨ (∃ n sz' f', r = ng n ∧ Bad sB' n ∧ AC sA' o c sz' f')) : Out2 L t act o c sA sB p (f_X6_sees N sA o 5 (nI p)) (seesM N sB) := by
  have hoc : o ≠ c := hC.2.2.2.2.2.2.1
  have ho5 : 47 ≤ o := hC.2.2.2.2.1
  have hc5 : 47 ≤ c := hC.2.2.2.2.2.1
  have hA' := j3.tp ho5 hc5 hA
  have hs' := j4.sh hs3
  rcases j5 with ⟨p', sz', f', rfl, v1, v2, v3, v4⟩ | ⟨n, sz', f', rfl, v1, v2⟩
  · obtain ⟨c1, c2, c3⟩ := v1.b
    obtain ⟨v5, v6⟩ := And.intro v4.1 v4.2.1
    obtain ⟨sA2, sz2, f2, z1, z2, z3, z4⟩ := x_put v2 (3000 + v)
    obtain ⟨rfl, rfl⟩ := z4 (by omega)
    obtain ⟨s4, w1, w2, w3, w4⟩ := m_emit v1 v3 (by omega) (3000 + v)
    rw [← stp_sees] at w1
    have hS' := hS.r hoc ga (j3.tr z2) ((rm.rb.tr j4).tr w2)
    have hD := dep_s (v4.2.2.2.2 0 (by omega) hd) d4
    have e1 := x_sees2 hC.1 u1 d1 y1 j1 (by rw [n_lt0 (by omega)]; exact id) v2.1 (d8 _ hA') z1
    have e2 := m_sees (t39 hs) (t39 hs1) (t39 hs2) (t39 hs3) (t39 hs') u2 d2 y2 j2 w1
    exact ⟨sA2, s4, nI p', e1, e2, (j3.tr z2).r2, ((rm.rb.tr j4).tr w2).r2, Or.inl ⟨p', sz' + 1, _, w, l, ct, rfl, by omega, by omega, w3, z3, w4, hS', hD⟩⟩
  · have hn := v1.2.1
    have e1 := x_sees1 hC.1 u1 d1 y1 j1 (ng_neg (by omega))
    have e2 := m_sees (t39 hs) (t39 hs1) (t39 hs2) (t39 hs3) (t39 hs') u2 d2 y2 j2 (m_emit_bad v1 _)
    exact ⟨sA', sB', ng n, e1, e2, j3.r2, (rm.rb.tr j4).r2, Or.inr ⟨n, sz', f', rfl, v1, v2⟩⟩
theorem j_sees {sA sB : zS} {L : Nat} {t : Nat → Nat} {act o c p sz : Nat} {f : Nat → Nat} {w l ct : Nat} (hA : TpA sA L t) (hC : AC sA o c sz f) (g : Good sB L t act p 0) (hB : BC sB act sz f) (hz : sz ≤ p) (hS : CS sA sB o act w l ct) (hd : depN f sz = some 0) {N : Nat} (hN : 3000 ≤ N) : Out2 L t act o c sA sB p (f_X6_sees N sA o 5 (nI p)) (seesM N sB) := by
  have hs := g.1.1
  have ga := g.2.1
  obtain ⟨r2, s1, u1, u2, u3, u4⟩ := words_spells hA (a := 3) (by omega) hN (Or.inl ⟨rfl, g⟩)
  obtain ⟨r4, s2, v, p2, d1, d2, d3, d4, d5, d6, d7⟩ := j_digits hA u4 hN
  have rm := u3.tr d3
  have hs1 := u3.sh hs
  have hs2 := rm.sh hs
  have u2' : f_X12_spells N sB 39 9 = some s1 := u2
  rcases d6 with ⟨rfl, g2⟩ | ⟨n, rfl, bd⟩
  rotate_left
  · obtain ⟨s3, y1, y2, y3⟩ := must_bad bd (nI 32)
    exact s_bad hN hA hC hs hs1 hs2 u1 d1 (expect_n bd.2.1 _) u2' d2 y1 (rm.tr y2) y3
  obtain ⟨b1, b2, b3⟩ := g2.b
  have d8 := d7 (nI_pos' (by omega))
  obtain ⟨r6, s3, y1, y2, y3, y4⟩ := j_expect hA (Or.inl ⟨rfl, g2⟩) (x := 32) (by omega)
  rcases y4 with ⟨rfl, g3⟩ | ⟨n, rfl, bd⟩
  rotate_left
  · exact s_bad hN hA hC hs hs1 hs2 u1 d1 y1 u2' d2 y2 (rm.tr y3) bd
  have rm3 := rm.tr y3
  have hs3 := rm3.sh hs
  obtain ⟨sA', sB', r, j1, j2, j3, j4, j5⟩ := (j_all hN 25).1 0 (by omega) (by omega) sA s3 (p2 + 1) sz f hA hC g3 (hB.rm rm3) (by omega)
  exact s_in hA hC hs hs1 hs2 hs3 u1 d1 y1 u2' d2 y2 rm3 d4 (by omega) hz hS hd ga d8 j1 j2 j3 j4 j5
theorem ob_eta {α : Type} (x : Option α) : x.bind (fun r => some r) = x := by cases x <;> rfl
theorem j_clause {sA sB : zS} {L : Nat} {t : Nat → Nat} {act o c p sz : Nat} {f : Nat → Nat} {w l ct : Nat} (hA : TpA sA L t) (hC : AC sA o c sz f) (g : Good sB L t act p 0) (hB : BC sB act sz f) (hz : sz ≤ p) (hS : CS sA sB o act w l ct) (hd : depN f sz = some 0) {N : Nat} (hN : 3000 ≤ N) : Out2 L t act o c sA sB p (f_X6_clause N sA o 5 (nI p)) (f_X12_clauseHere N sB 39) := by
  obtain ⟨b1, b2, b3⟩ := g.b
  obtain ⟨gt, ga, gp, go, g4, g5, g7, g8⟩ := id g
  have hs := gt.1
  have e1 := hA.get (i := p) (by omega)
  have e2 := gt.here g5 gp
  have ho := hC.1
  have x1 : f_X6_clause N sA o 5 (nI p) = if tx L t p = nI 99 then f_X6_setting N sA o 5 (nI p) 2 else if tx L t p = nI 108 then f_X6_setting N sA o 5 (nI p) 1 else if tx L t p = nI 115 then f_X6_sees N sA o 5 (nI p) else if tx L t p = nI 119 then f_X6_setting N sA o 5 (nI p) 0 else some (sA, ng p) := by
    unfold f_X6_clause
    simp only [hA.tg5, ↓bs e1, ho, ↓bs (stuck_p (p := p) (by omega)), zb_eta, List.mem_singleton, if_true]
  have x2 : f_X12_clauseHere N sB 39 = if tx L t p = nI 99 then f_X12_tellsHere N sB 39 (nI 238) 8 else if tx L t p = nI 108 then f_X12_tellsHere N sB 39 (nI 233) 7 else if tx L t p = nI 115 then seesM N sB else if tx L t p = nI 119 then f_X12_tellsHere N sB 39 (nI 228) 6 else some (zPM sB 39 7 (nI 1)) := by
    unfold f_X12_clauseHere seesM
    simp only [t39 hs, ↓bs e2, ob_eta, List.mem_singleton, if_true]
  rw [x1, x2]
  clear x1 x2
  by_cases q1 : tx L t p = nI 99
  · rw [if_pos q1, if_pos q1]
    exact j_set hA hC g hB hz hS hd hN (a := 2) (y := 99) (b := 238) (by omega) q1
  rw [if_neg q1, if_neg q1]
  by_cases q2 : tx L t p = nI 108
  · rw [if_pos q2, if_pos q2]
    exact j_set hA hC g hB hz hS hd hN (a := 1) (y := 108) (b := 233) (by omega) q2
  rw [if_neg q2, if_neg q2]
  by_cases q3 : tx L t p = nI 115
  · rw [if_pos q3, if_pos q3]
    exact j_sees hA hC g hB hz hS hd hN
  rw [if_neg q3, if_neg q3]
  by_cases q4 : tx L t p = nI 119
  · rw [if_pos q4, if_pos q4]
    exact j_set hA hC g hB hz hS hd hN (a := 0) (y := 119) (b := 228) (by omega) q4
  rw [if_neg q4, if_neg q4]
  exact ⟨sA, zPM sB 39 7 (nI 1), ng p, rfl, rfl, RA2.rf, (RM.rf.pm (j := 7) (by omega) (nI 1)).rb.r2, Or.inr ⟨p, sz, f, rfl, ⟨hs.pm _ _ _, b3, by rw [zM_PM, if_neg (by omega)]; exact g5, by rw [zM_PM, if_pos ⟨rfl, rfl⟩]⟩, hC⟩⟩
