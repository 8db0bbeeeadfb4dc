/-! single, on both sides -/
theorem Ex.mono {p sz p' sz' B B' e : Nat} {f f' : Nat → Nat} (h : Ex p sz f p' sz' f' B e) (hB : B' ≤ B) : Ex p sz f p' sz' f' B' e := ⟨h.1, h.2.1, h.2.2.1, h.2.2.2.1, fun d hd hf => h.2.2.2.2 d (by omega) hf⟩
theorem zb_eta {α : Type} (x : Option (zS × α)) : zb x (fun a b => some (a, b)) = x := by
  cases x <;> rfl
theorem place_m1 (N : Nat) (a : Nat) : f_X6_placeIn N a (-1) = some (-1) := by
  unfold f_X6_placeIn
  rw [if_neg (by decide)]
theorem x_neg2 {s : zS} {o n : Nat} (h5 : zTg s 5 = 15) (ho : zTg s o = 16) (hn : n ≤ 100) (N D : Nat) (op : Int32) : fg_X6 N (D + 1) 2 s o 5 (ng n) op = some (s, ng n) := by
  have e : f_X5_get s 5 (ng n) = some (-1) := f_getN (ng_neg (by omega))
  show f_X6_single (fg_X6 N D) N s o 5 (ng n) op = _
  unfold f_X6_single f_X6_test
  simp (disch := omega) only [h5, ho, ↓bs e, ↓bs (place_m1 N 4), n_m1', ↓bs (stuck_n (n := n) (by omega)), show (0 ≤ (-1 : Int32)) = False by decide, ↓reduceIte, List.mem_singleton, Option.bind_some, if_true, if_false, zM_PM, zLn_PM, zTg_PM, zR_PM, ↓zb, ↓zo, ↓zl, n_lt0, n_le, n_lt, n_eq, n_eq0, n_gt0, n_le0, n_ge0, n_zin, n_nat, nI_add, and_self, true_or, false_or, or_false, if_pos, if_neg, f_in_nI, Nat.reduceAdd]
theorem x_neg1 {s : zS} {o n : Nat} (h5 : zTg s 5 = 15) (ho : zTg s o = 16) (hn : n ≤ 100) (N D : Nat) (op : Int32) : fg_X6 (N + 1) (D + 2) 1 s o 5 (ng n) op = some (s, ng n) := by
  have e : f_X5_get s 5 (ng n) = some (-1) := f_getN (ng_neg (by omega))
  have e2 := x_neg2 h5 ho hn (N + 1) D op
  have k1 : f_X6_both_12 (fg_X6 (N + 1) (D + 1)) (N + 1) o 5 (ng n) op (N + 1) s (ng n) (nI 0) = some (s, ng n) := by
    rw [f_X6_both_12]
    simp (disch := omega) only [h5, ↓bs e, n_m1', ↓reduceIte, List.mem_singleton, Option.bind_some, if_true, if_false, zM_PM, zLn_PM, zTg_PM, zR_PM, ↓zb, ↓zo, ↓zl, n_lt0, n_le, n_lt, n_eq, n_eq0, n_gt0, n_le0, n_ge0, n_zin, n_nat, nI_add, and_self, true_or, false_or, or_false, if_pos, if_neg, f_in_nI, Nat.reduceAdd]
  show f_X6_both (fg_X6 (N + 1) (D + 1)) (N + 1) s o 5 (ng n) op = _
  unfold f_X6_both
  simp (disch := omega) only [ho, e2, k1, ↓reduceIte, List.mem_singleton, Option.bind_some, if_true, if_false, zM_PM, zLn_PM, zTg_PM, zR_PM, ↓zb, ↓zo, ↓zl, n_lt0, n_le, n_lt, n_eq, n_eq0, n_gt0, n_le0, n_ge0, n_zin, n_nat, nI_add, and_self, true_or, false_or, or_false, if_pos, if_neg, f_in_nI, Nat.reduceAdd]
theorem x_neg0 {s : zS} {o n : Nat} (h5 : zTg s 5 = 15) (ho : zTg s o = 16) (hn : n ≤ 100) (N D : Nat) (op : Int32) : fg_X6 (N + 1) (D + 3) 0 s o 5 (ng n) op = some (s, ng n) := by
  have e : f_X5_get s 5 (ng n) = some (-1) := f_getN (ng_neg (by omega))
  have e2 := x_neg1 h5 ho hn N D op
  have k1 : f_X6_either_12 (fg_X6 (N + 1) (D + 2)) (N + 1) o 5 (ng n) op (N + 1) s (ng n) (nI 0) = some (s, ng n) := by
    rw [f_X6_either_12]
    simp (disch := omega) only [h5, ↓bs e, n_m1', ↓reduceIte, List.mem_singleton, Option.bind_some, if_true, if_false, zM_PM, zLn_PM, zTg_PM, zR_PM, ↓zb, ↓zo, ↓zl, n_lt0, n_le, n_lt, n_eq, n_eq0, n_gt0, n_le0, n_ge0, n_zin, n_nat, nI_add, and_self, true_or, false_or, or_false, if_pos, if_neg, f_in_nI, Nat.reduceAdd]
  show f_X6_either (fg_X6 (N + 1) (D + 2)) (N + 1) s o 5 (ng n) op = _
  unfold f_X6_either
  simp (disch := omega) only [ho, e2, k1, ↓reduceIte, List.mem_singleton, Option.bind_some, if_true, if_false, zM_PM, zLn_PM, zTg_PM, zR_PM, ↓zb, ↓zo, ↓zl, n_lt0, n_le, n_lt, n_eq, n_eq0, n_gt0, n_le0, n_ge0, n_zin, n_nat, nI_add, and_self, true_or, false_or, or_false, if_pos, if_neg, f_in_nI, Nat.reduceAdd]
theorem m_bad2 {s : zS} {n : Nat} (h : Bad s n) (N D : Nat) : fg_X12 N (D + 1) 2 s 39 = some s := by
  have h7 := h.2.2.2
  show f_X12_factor (fg_X12 N D) N s 39 = _
  unfold f_X12_factor
  simp (disch := omega) only [h7, t39 h.1, ↓reduceIte, List.mem_singleton, Option.bind_some, if_true, if_false, zM_PM, zLn_PM, zTg_PM, zR_PM, ↓zb, ↓zo, ↓zl, n_lt0, n_le, n_lt, n_eq, n_eq0, n_gt0, n_le0, n_ge0, n_zin, n_nat, nI_add, and_self, true_or, false_or, or_false, if_pos, if_neg, f_in_nI, Nat.reduceAdd]
theorem m_bad1 {s : zS} {n : Nat} (h : Bad s n) (N D : Nat) : fg_X12 (N + 1) (D + 2) 1 s 39 = some s := by
  have h7 := h.2.2.2
  have e := m_bad2 h (N + 1) D
  have k1 : f_X12_every_4 (fg_X12 (N + 1) (D + 1)) (N + 1) 39 (N + 1) s = some s := by
    rw [f_X12_every_4]
    simp (disch := omega) only [h7, t39 h.1, ↓reduceIte, List.mem_singleton, Option.bind_some, if_true, if_false, zM_PM, zLn_PM, zTg_PM, zR_PM, ↓zb, ↓zo, ↓zl, n_lt0, n_le, n_lt, n_eq, n_eq0, n_gt0, n_le0, n_ge0, n_zin, n_nat, nI_add, and_self, true_or, false_or, or_false, if_pos, if_neg, f_in_nI, Nat.reduceAdd]
  show f_X12_every (fg_X12 (N + 1) (D + 1)) (N + 1) s 39 = _
  unfold f_X12_every
  simp (disch := omega) only [↓bs e, k1, t39 h.1, ↓reduceIte, List.mem_singleton, Option.bind_some, if_true, if_false, zM_PM, zLn_PM, zTg_PM, zR_PM, ↓zb, ↓zo, ↓zl, n_lt0, n_le, n_lt, n_eq, n_eq0, n_gt0, n_le0, n_ge0, n_zin, n_nat, nI_add, and_self, true_or, false_or, or_false, if_pos, if_neg, f_in_nI, Nat.reduceAdd]
theorem m_bad0 {s : zS} {n : Nat} (h : Bad s n) (N D : Nat) : fg_X12 (N + 1) (D + 3) 0 s 39 = some s := by
  have h7 := h.2.2.2
  have e := m_bad1 h N D
  have k1 : f_X12_some_4 (fg_X12 (N + 1) (D + 2)) (N + 1) 39 (N + 1) s = some s := by
    rw [f_X12_some_4]
    simp (disch := omega) only [h7, t39 h.1, ↓reduceIte, List.mem_singleton, Option.bind_some, if_true, if_false, zM_PM, zLn_PM, zTg_PM, zR_PM, ↓zb, ↓zo, ↓zl, n_lt0, n_le, n_lt, n_eq, n_eq0, n_gt0, n_le0, n_ge0, n_zin, n_nat, nI_add, and_self, true_or, false_or, or_false, if_pos, if_neg, f_in_nI, Nat.reduceAdd]
  show f_X12_some (fg_X12 (N + 1) (D + 2)) (N + 1) s 39 = _
  unfold f_X12_some
  simp (disch := omega) only [↓bs e, k1, t39 h.1, ↓reduceIte, List.mem_singleton, Option.bind_some, if_true, if_false, zM_PM, zLn_PM, zTg_PM, zR_PM, ↓zb, ↓zo, ↓zl, n_lt0, n_le, n_lt, n_eq, n_eq0, n_gt0, n_le0, n_ge0, n_zin, n_nat, nI_add, and_self, true_or, false_or, or_false, if_pos, if_neg, f_in_nI, Nat.reduceAdd]
/-- a piece of kind k (0 either, 1 both, 2 single) is read alike on both sides -/
def JJ (L : Nat) (t : Nat → Nat) (act o c N D k : Nat) : Prop := ∀ op, op ≤ 5 → 3 * (7 - op) ≤ D + k → ∀ sA sB p sz f, TpA sA L t → AC sA o c sz f → Good sB L t act p op → BC sB act sz f → sz ≤ p → Out L t act o c sA sB p op sz f (2 * op + k) 1 (fg_X6 N D k sA o 5 (nI p) (nI op)) (fg_X12 N D k sB 39)
theorem j_s5 {L : Nat} {t : Nat → Nat} {act o c N D : Nat} (hN : 3000 ≤ N) (hD : 3 ≤ D) {sA sB : zS} {p sz : Nat} {f : Nat → Nat} (hA : TpA sA L t) (hC : AC sA o c sz f) (g : Good sB L t act p 5) {y : Nat} (hy : y = 33 ∨ y = 40) : Out L t act o c sA sB p 5 sz f (2 * 5 + 2) 1 (f_X6_single_28 (fg_X6 N D) N o 5 (nI p) (nI 5) sA (nI y)) (f_X12_factor_25 (fg_X12 N D) N 39 sB (nI y)) := by
  obtain ⟨b1, b2, b3⟩ := g.b
  obtain ⟨gt, ga, gp, go, g4, g5, g7, g8⟩ := id g
  have hs := gt.1
  have ho := hC.1
  clear g4
  have hb : Bad (zPM (zPM (zPM sB 39 7 (nI 1)) 39 8 (nI (5 + 1))) 39 5 (nI p)) p := ⟨((hs.pm _ _ _).pm _ _ _).pm _ _ _, b3, by rw [zM_PM, if_pos ⟨rfl, rfl⟩], by rw [zM_PM, if_neg (by omega), zM_PM, if_neg (by omega), zM_PM, if_pos ⟨rfl, rfl⟩]⟩
  have rb : RM sB (zPM (zPM (zPM sB 39 7 (nI 1)) 39 8 (nI (5 + 1))) 39 5 (nI p)) := ((RM.rf.pm (by omega) _).pm (by omega) _).pm (by omega) _
  obtain ⟨M, rfl⟩ : ∃ m, N = m + 1 := ⟨N - 1, by omega⟩
  obtain ⟨E, rfl⟩ : ∃ m, D = m + 3 := ⟨D - 3, by omega⟩
  have x3 : f_X12_factor_25 (fg_X12 (M + 1) (E + 3)) (M + 1) 39 sB (nI y) = f_X12_factor_69 (fg_X12 (M + 1) (E + 3)) (M + 1) 39 (zPM (zPM sB 39 7 (nI 1)) 39 8 (nI (5 + 1))) (nI y) (nI 0) (nI p) := by
    unfold f_X12_factor_25 f_X12_factor_39
    simp (disch := omega) only [g8, g5, show zB (nI 1) from by decide, t39 hs, ↓reduceIte, List.mem_singleton, Option.bind_some, if_true, if_false, zM_PM, zLn_PM, zTg_PM, zR_PM, ↓zb, ↓zo, ↓zl, n_lt0, n_le, n_lt, n_eq, n_eq0, n_gt0, n_le0, n_ge0, n_zin, n_nat, nI_add, and_self, true_or, false_or, or_false, if_pos, if_neg, f_in_nI, Nat.reduceAdd]
  have x4 : f_X6_single_28 (fg_X6 (M + 1) (E + 3)) (M + 1) o 5 (nI p) (nI 5) sA (nI y) = some (sA, ng p) := by
    unfold f_X6_single_28
    simp (disch := omega) only [↓bs (stuck_p (p := p) (by omega)), ↓reduceIte, List.mem_singleton, Option.bind_some, if_true, if_false, zM_PM, zLn_PM, zTg_PM, zR_PM, ↓zb, ↓zo, ↓zl, n_lt0, n_le, n_lt, n_eq, n_eq0, n_gt0, n_le0, n_ge0, n_zin, n_nat, nI_add, and_self, true_or, false_or, or_false, if_pos, if_neg, f_in_nI, Nat.reduceAdd]
  have b0 := m_bad0 hb M E
  have b2' := m_bad2 hb (M + 1) (E + 2)
  obtain ⟨s', w1, w2, w3⟩ := must_bad hb (nI 41)
  have h3 : Sh s' := w3.1
  rw [x3, x4]
  rcases hy with rfl | rfl
  · refine ⟨sA, zPM (zPM (zPM (zPM sB 39 7 (nI 1)) 39 8 (nI (5 + 1))) 39 5 (nI p)) 39 8 (nI 5), ng p, rfl, ?_, RA.rf, (rb.pm (by omega) _).rb, Or.inr ⟨p, sz, f, rfl, ⟨hb.1.pm _ _ _, b3, by rw [zM_PM, if_neg (by omega)]; exact hb.2.2.1, by rw [zM_PM, if_neg (by omega)]; exact hb.2.2.2⟩, hC⟩⟩
    unfold f_X12_factor_69
    simp (disch := omega) only [nI_add, Nat.add_zero, ↓bs b2', ↓bs (m_emit_bad hb _), t39 hs, pk_sub, ↓reduceIte, List.mem_singleton, Option.bind_some, if_true, if_false, zM_PM, zLn_PM, zTg_PM, zR_PM, ↓zb, ↓zo, ↓zl, n_lt0, n_le, n_lt, n_eq, n_eq0, n_gt0, n_le0, n_ge0, n_zin, n_nat, nI_add, and_self, true_or, false_or, or_false, if_pos, if_neg, f_in_nI, Nat.reduceAdd]
  · refine ⟨sA, zPM s' 39 8 (zM s' 39 8 - nI 1), ng p, rfl, ?_, RA.rf, ((rb.tr w2).pm (by omega) _).rb, Or.inr ⟨p, sz, f, rfl, ⟨h3.pm _ _ _, b3, by rw [zM_PM, if_neg (by omega)]; exact w3.2.2.1, by rw [zM_PM, if_neg (by omega)]; exact w3.2.2.2⟩, hC⟩⟩
    unfold f_X12_factor_69
    simp (disch := omega) only [nI_add, Nat.add_zero, ↓bs b0, ↓bs w1, t39 hs, t39 h3, ↓reduceIte, List.mem_singleton, Option.bind_some, if_true, if_false, zM_PM, zLn_PM, zTg_PM, zR_PM, ↓zb, ↓zo, ↓zl, n_lt0, n_le, n_lt, n_eq, n_eq0, n_gt0, n_le0, n_ge0, n_zin, n_nat, nI_add, and_self, true_or, false_or, or_false, if_pos, if_neg, f_in_nI, Nat.reduceAdd]
theorem j_s33 {L : Nat} {t : Nat → Nat} {act o c N D op : Nat} (J2 : JJ L t act o c N D 2) (hD : 3 * (7 - op) ≤ D + 1 + 2) {sA sB s1 : zS} {p sz : Nat} {f : Nat → Nat} (h5' : op < 5) (hp : p < L) (hA : TpA sA L t) (hC : AC sA o c sz f) (go : op ≤ 6) (hs : Sh s1) (r1 : RM sB (zPM s1 39 5 (nI (p + 1)))) (g1 : Good (zPM s1 39 5 (nI (p + 1))) L t act (p + 1) (op + 1)) (hB : BC sB act sz f) (hz : sz ≤ p) : Out L t act o c sA sB p op sz f (2 * op + 2) 1 (f_X6_single_28 (fg_X6 N D) N o 5 (nI p) (nI op) sA (nI 33)) (f_X12_factor_69 (fg_X12 N D) N 39 s1 (nI 33) (nI 1) (nI p)) := by
  have ho := hC.1
  have ho5 : 47 ≤ o := hC.2.2.2.2.1
  have hc5 : 47 ≤ c := hC.2.2.2.2.2.1
  have hB1 := hB.rm r1
  have b1 := g1.b.1
  obtain ⟨sA', sB', r, u1, u2, u3, u4, u5⟩ := J2 (op + 1) (by omega) (by omega) _ _ (p + 1) sz f hA hC g1 hB1 (by omega)
  have hA' := u3.tp ho5 hc5 hA
  have hs' := u4.sh g1.1.1
  rcases u5 with ⟨p', sz', f', rfl, v1, v2, v3, v4⟩ | ⟨n, sz', f', rfl, v1, v2⟩
  · obtain ⟨c1, c2, c3⟩ := v1.b
    obtain ⟨v5, v6⟩ := And.intro v4.1 v4.2.1
    obtain ⟨sA2, sz2, f2, y1, y2, y3, y4⟩ := x_put v2 2000
    obtain ⟨rfl, rfl⟩ := y4 (by omega)
    obtain ⟨s4, w1, w2, w3, w4⟩ := m_emit v1 v3 (by omega) 2000
    rw [stp_not.1] at w1
    have hs4 := w3.1.1
    have w8 := w3.2.2.2.2.2.2.2
    refine ⟨sA2, zPM s4 39 8 (nI op), nI p', ?_, ?_, u3.tr y2, ((r1.rb.tr u4).tr w2).tr (RM.rf.pm (by omega) _).rb, Or.inl ⟨p', sz' + 1, _, rfl, w3.rm (RM.rf.pm (by omega) _) (by rw [zM_PM, if_neg (by omega)]; exact w3.2.2.2.2.2.1) c2 (by rw [zM_PM, if_neg (by omega)]; exact w3.2.2.2.2.2.2.1) (by rw [zM_PM, if_pos ⟨rfl, rfl⟩]) go, y3, w4.rm (RM.rf.pm (by omega) _), ?_⟩⟩
    · unfold f_X6_single_28
      simp (disch := omega) only [ho, nI_add, u1, v2.1, ↓bs y1, ↓reduceIte, List.mem_singleton, Option.bind_some, if_true, if_false, zM_PM, zLn_PM, zTg_PM, zR_PM, ↓zb, ↓zo, ↓zl, n_lt0, n_le, n_lt, n_eq, n_eq0, n_gt0, n_le0, n_ge0, n_zin, n_nat, nI_add, and_self, true_or, false_or, or_false, if_pos, if_neg, f_in_nI, Nat.reduceAdd]
    · unfold f_X12_factor_69
      simp (disch := omega) only [nI_add, ↓bs u2, ↓bs w1, w8, pk_sub, Nat.add_sub_cancel, t39 hs, t39 hs', t39 hs4, ↓reduceIte, List.mem_singleton, Option.bind_some, if_true, if_false, zM_PM, zLn_PM, zTg_PM, zR_PM, ↓zb, ↓zo, ↓zl, n_lt0, n_le, n_lt, n_eq, n_eq0, n_gt0, n_le0, n_ge0, n_zin, n_nat, nI_add, and_self, true_or, false_or, or_false, if_pos, if_neg, f_in_nI, Nat.reduceAdd]
    · exact ((v4.wide (p0 := p) (by omega) (Nat.le_refl _)).mono (B' := 2 * op + 2) (by omega)).put (q := 2000) (by omega) (by omega) (fun d _ => dep_not)
  · obtain ⟨sA2, sz2, f2, y1, y2, y3, y4⟩ := x_put v2 2000
    refine ⟨sA2, zPM sB' 39 8 (zM sB' 39 8 - nI 1), ng n, ?_, ?_, u3.tr y2, (r1.rb.tr u4).tr (RM.rf.pm (by omega) _).rb, Or.inr ⟨n, sz2, f2, rfl, ⟨hs'.pm _ _ _, v1.2.1, by rw [zM_PM, if_neg (by omega)]; exact v1.2.2.1, by rw [zM_PM, if_neg (by omega)]; exact v1.2.2.2⟩, y3⟩⟩
    · unfold f_X6_single_28
      simp (disch := omega) only [ho, nI_add, u1, v2.1, ↓bs y1, ↓reduceIte, List.mem_singleton, Option.bind_some, if_true, if_false, zM_PM, zLn_PM, zTg_PM, zR_PM, ↓zb, ↓zo, ↓zl, n_lt0, n_le, n_lt, n_eq, n_eq0, n_gt0, n_le0, n_ge0, n_zin, n_nat, nI_add, and_self, true_or, false_or, or_false, if_pos, if_neg, f_in_nI, Nat.reduceAdd]
    · unfold f_X12_factor_69
      simp (disch := omega) only [nI_add, ↓bs u2, ↓bs (m_emit_bad v1 _), t39 hs, t39 hs', ↓reduceIte, List.mem_singleton, Option.bind_some, if_true, if_false, zM_PM, zLn_PM, zTg_PM, zR_PM, ↓zb, ↓zo, ↓zl, n_lt0, n_le, n_lt, n_eq, n_eq0, n_gt0, n_le0, n_ge0, n_zin, n_nat, nI_add, and_self, true_or, false_or, or_false, if_pos, if_neg, f_in_nI, Nat.reduceAdd]
theorem j_s40m {N D : Nat} {s1 sB' s4 : zS} {p : Nat} (hp : p < 100) (hs : Sh s1) (hs' : Sh sB') (hs4 : Sh s4) (u2 : fg_X12 N D 0 (zPM s1 39 5 (nI (p + 1))) 39 = some sB') (w2 : f_X12_must sB' 39 (nI 41) = some s4) : f_X12_factor_69 (fg_X12 N D) N 39 s1 (nI 40) (nI 1) (nI p) = some (zPM s4 39 8 (zM s4 39 8 - nI 1)) := by
  unfold f_X12_factor_69
  simp (disch := omega) only [nI_add, ↓bs u2, ↓bs w2, t39 hs, t39 hs', t39 hs4, ↓reduceIte, List.mem_singleton, Option.bind_some, if_true, if_false, zM_PM, zLn_PM, zTg_PM, zR_PM, ↓zb, ↓zo, ↓zl, n_lt0, n_le, n_lt, n_eq, n_eq0, n_gt0, n_le0, n_ge0, n_zin, n_nat, nI_add, and_self, true_or, false_or, or_false, if_pos, if_neg, f_in_nI, Nat.reduceAdd]
theorem j_s40x {o N D op : Nat} {sA sA' : zS} {p : Nat} {r r2 : Int32} (hp : p < 100) (h5' : op < 5) (ho : zTg sA o = 16) (u1 : fg_X6 N D 0 sA o 5 (nI (p + 1)) (nI (op + 1)) = some (sA', r)) (w1 : f_X6_expect sA' 5 r (nI 41) = some r2) : f_X6_single_28 (fg_X6 N D) N o 5 (nI p) (nI op) sA (nI 40) = some (sA', r2) := by
  unfold f_X6_single_28
  simp (disch := omega) only [ho, nI_add, u1, ↓bs w1, ↓reduceIte, List.mem_singleton, Option.bind_some, if_true, if_false, zM_PM, zLn_PM, zTg_PM, zR_PM, ↓zb, ↓zo, ↓zl, n_lt0, n_le, n_lt, n_eq, n_eq0, n_gt0, n_le0, n_ge0, n_zin, n_nat, nI_add, and_self, true_or, false_or, or_false, if_pos, if_neg, f_in_nI, Nat.reduceAdd]
theorem j_s40g {L : Nat} {t : Nat → Nat} {act o c N D op : Nat} {sA sB s1 : zS} {p sz : Nat} {f : Nat → Nat} (h5' : op < 5) (hp : p < L) (hC : AC sA o c sz f) (hs : Sh s1) (r1 : RM sB (zPM s1 39 5 (nI (p + 1)))) (go : op ≤ 6) {sA' sB' : zS} {p' sz' : Nat} {f' : Nat → Nat} (hA' : TpA sA' L t) (hs' : Sh sB') (u1 : fg_X6 N D 0 sA o 5 (nI (p + 1)) (nI (op + 1)) = some (sA', nI p')) (u2 : fg_X12 N D 0 (zPM s1 39 5 (nI (p + 1))) 39 = some sB') (u3 : RA o c sA sA') (u4 : RB act (zPM s1 39 5 (nI (p + 1))) sB') (v1 : Good sB' L t act p' (op + 1)) (v2 : AC sA' o c sz' f') (v3 : BC sB' act sz' f') (v4 : Ex (p + 1) sz f p' sz' f' (2 * op + 2) 1) : Out L t act o c sA sB p op sz f (2 * op + 2) 1 (f_X6_single_28 (fg_X6 N D) N o 5 (nI p) (nI op) sA (nI 40)) (f_X12_factor_69 (fg_X12 N D) N 39 s1 (nI 40) (nI 1) (nI p)) := by
  obtain ⟨b1, -, -⟩ := v1.b
  obtain ⟨r2, s4, w1, w2, w3, w4⟩ := j_expect hA' (Or.inl ⟨rfl, v1⟩) (x := 41) (by omega)
  have hs4 := w3.sh hs'
  have x5 := j_s40x (by omega) h5' hC.1 u1 w1
  have x6 := j_s40m (p := p) (N := N) (D := D) (by omega) hs hs' hs4 u2 w2
  rcases w4 with ⟨rfl, w5⟩ | ⟨n, rfl, w5⟩
  · have w8 := w5.2.2.2.2.2.2.2
    rw [w8, pk_sub (by omega), Nat.add_sub_cancel] at x6
    have gF : Good (zPM s4 39 8 (nI op)) L t act (p' + 1) op := w5.rm (RM.rf.pm (by omega) _) (by rw [zM_PM, if_neg (by omega)]; exact w5.2.2.2.2.2.1) w5.2.2.1 (by rw [zM_PM, if_neg (by omega)]; exact w5.2.2.2.2.2.2.1) (by rw [zM_PM, if_pos ⟨rfl, rfl⟩]) go
    have bF : BC (zPM s4 39 8 (nI op)) act sz' f' := (v3.rm w3).rm (RM.rf.pm (by omega) _)
    have eF : Ex p sz f (p' + 1) sz' f' (2 * op + 2) 1 := v4.wide (by omega) (by omega)
    have rF : RB act sB (zPM s4 39 8 (nI op)) := ((r1.rb.tr u4).tr w3.rb).tr (RM.rf.pm (by omega) _).rb
    exact ⟨sA', _, _, x5, x6, u3, rF, Or.inl ⟨p' + 1, sz', f', rfl, gF, v2, bF, eF⟩⟩
  · have gF : Bad (zPM s4 39 8 (zM s4 39 8 - nI 1)) n := ⟨hs4.pm _ _ _, w5.2.1, by rw [zM_PM, if_neg (by omega)]; exact w5.2.2.1, by rw [zM_PM, if_neg (by omega)]; exact w5.2.2.2⟩
    have rF : RB act sB (zPM s4 39 8 (zM s4 39 8 - nI 1)) := ((r1.rb.tr u4).tr w3.rb).tr (RM.rf.pm (by omega) _).rb
    exact ⟨sA', _, _, x5, x6, u3, rF, Or.inr ⟨n, sz', f', rfl, gF, v2⟩⟩
theorem j_s40b {L : Nat} {t : Nat → Nat} {act o c N D op : Nat} {sA sB s1 : zS} {p sz : Nat} {f : Nat → Nat} (h5' : op < 5) (hp : p < L) (hC : AC sA o c sz f) (hs : Sh s1) (r1 : RM sB (zPM s1 39 5 (nI (p + 1)))) {sA' sB' : zS} {n sz' : Nat} {f' : Nat → Nat} (hL : L ≤ 100) (hs' : Sh sB') (u1 : fg_X6 N D 0 sA o 5 (nI (p + 1)) (nI (op + 1)) = some (sA', ng n)) (u2 : fg_X12 N D 0 (zPM s1 39 5 (nI (p + 1))) 39 = some sB') (u3 : RA o c sA sA') (u4 : RB act (zPM s1 39 5 (nI (p + 1))) sB') (v1 : Bad sB' n) (v2 : AC sA' o c sz' f') : Out L t act o c sA sB p op sz f (2 * op + 2) 1 (f_X6_single_28 (fg_X6 N D) N o 5 (nI p) (nI op) sA (nI 40)) (f_X12_factor_69 (fg_X12 N D) N 39 s1 (nI 40) (nI 1) (nI p)) := by
  obtain ⟨s5, z1, z2, z3⟩ := must_bad v1 (nI 41)
  have hn := v1.2.1
  have hs5 := z3.1
  have x7 : f_X6_expect sA' 5 (ng n) (nI 41) = some (ng n) := by
    unfold f_X6_expect f_X6_expect_19
    simp (disch := omega) only [ng_neg (n := n) (by omega), ↓bs (stuck_n (n := n) (by omega)), ↓reduceIte, List.mem_singleton, Option.bind_some, if_true, if_false, zM_PM, zLn_PM, zTg_PM, zR_PM, ↓zb, ↓zo, ↓zl, n_lt0, n_le, n_lt, n_eq, n_eq0, n_gt0, n_le0, n_ge0, n_zin, n_nat, nI_add, and_self, true_or, false_or, or_false, if_pos, if_neg, f_in_nI, Nat.reduceAdd]
  have x5 := j_s40x (by omega) h5' hC.1 u1 x7
  have x6 := j_s40m (p := p) (N := N) (D := D) (by omega) hs hs' hs5 u2 z1
  have gF : Bad (zPM s5 39 8 (zM s5 39 8 - nI 1)) n := ⟨hs5.pm _ _ _, hn, by rw [zM_PM, if_neg (by omega)]; exact z3.2.2.1, by rw [zM_PM, if_neg (by omega)]; exact z3.2.2.2⟩
  have rF : RB act sB (zPM s5 39 8 (zM s5 39 8 - nI 1)) := ((r1.rb.tr u4).tr z2.rb).tr (RM.rf.pm (by omega) _).rb
  exact ⟨sA', _, _, x5, x6, u3, rF, Or.inr ⟨n, sz', f', rfl, gF, v2⟩⟩
theorem j_s40 {L : Nat} {t : Nat → Nat} {act o c N D op : Nat} (J0 : JJ L t act o c N D 0) (hD : 3 * (7 - op) ≤ D + 1 + 2) {sA sB s1 : zS} {p sz : Nat} {f : Nat → Nat} (h5' : op < 5) (hp : p < L) (hC : AC sA o c sz f) (hs : Sh s1) (r1 : RM sB (zPM s1 39 5 (nI (p + 1)))) (hA : TpA sA L t) (go : op ≤ 6) (g1 : Good (zPM s1 39 5 (nI (p + 1))) L t act (p + 1) (op + 1)) (hB : BC sB act sz f) (hz : sz ≤ p) : Out L t act o c sA sB p op sz f (2 * op + 2) 1 (f_X6_single_28 (fg_X6 N D) N o 5 (nI p) (nI op) sA (nI 40)) (f_X12_factor_69 (fg_X12 N D) N 39 s1 (nI 40) (nI 1) (nI p)) := by
  have ho5 : 47 ≤ o := hC.2.2.2.2.1
  have hc5 : 47 ≤ c := hC.2.2.2.2.2.1
  have hB1 := hB.rm r1
  have b1 := g1.b.1
  obtain ⟨sA', sB', r, u1, u2, u3, u4, u5⟩ := J0 (op + 1) (by omega) (by omega) _ _ (p + 1) sz f hA hC g1 hB1 (by omega)
  have hA' := u3.tp ho5 hc5 hA
  have hs' := u4.sh g1.1.1
  rcases u5 with ⟨p', sz', f', rfl, v1, v2, v3, v4⟩ | ⟨n, sz', f', rfl, v1, v2⟩
  · exact j_s40g h5' hp hC hs r1 go hA' hs' u1 u2 u3 u4 v1 v2 v3 (v4.mono (by omega))
  · exact j_s40b h5' hp hC hs r1 b1 hs' u1 u2 u3 u4 v1 v2
theorem j_single {L : Nat} {t : Nat → Nat} {act o c N D : Nat} (hN : 3000 ≤ N) (J0 : JJ L t act o c N D 0) (J2 : JJ L t act o c N D 2) : JJ L t act o c N (D + 1) 2 := by
  intro op hop hD sA sB p sz f hA hC g hB hz
  obtain ⟨b1, b2, b3⟩ := g.b
  obtain ⟨gt, ga, gp, go, g4, g5, g7, g8⟩ := id g
  have hs := gt.1
  have e1 := hA.get (i := p) (by omega)
  have e2 := gt.here g5 gp
  have ho := hC.1
  have ho5 : 47 ≤ o := hC.2.2.2.2.1
  have hc5 : 47 ≤ c := hC.2.2.2.2.2.1
  show Out L t act o c sA sB p op sz f (2 * op + 2) 1 (f_X6_single (fg_X6 N D) N sA o 5 (nI p) (nI op)) (f_X12_factor (fg_X12 N D) N sB 39)
  by_cases q : tx L t p = nI 33 ∨ tx L t p = nI 40
  rotate_left
  · have q1 : tx L t p ≠ nI 33 := fun z => q (Or.inl z)
    have q2 : tx L t p ≠ nI 40 := fun z => q (Or.inr z)
    have x1 : f_X6_single (fg_X6 N D) N sA o 5 (nI p) (nI op) = f_X6_test N sA o 5 (nI p) := by
      unfold f_X6_single
      rw [if_pos (by rw [hA.tg5]; decide), e1, Option.bind_some, if_neg q1, if_neg q2, if_pos (by rw [ho]; decide), zb_eta]
    have x2 : f_X12_factor (fg_X12 N D) N sB 39 = zb (f_X12_among N sB 39 10) (fun st21 r22 => if r22 = (-1 : Int32) then f_X12_factor_130 (fg_X12 N D) N 39 st21 r22 (nI 1) else f_X12_factor_130 (fg_X12 N D) N 39 st21 r22 (nI 0)) := by
      unfold f_X12_factor
      rw [if_pos (by rw [t39 hs]; decide), if_pos (by rw [g7]; exact nI_0), e2, Option.bind_some, if_neg q1, if_neg q2]
    rw [x1, x2]
    exact j_test hA hC g hB hz hN _ (by omega)
  have hx : ∃ y, (y = 33 ∨ y = 40) ∧ tx L t p = nI y := by
    rcases q with q | q
    · exact ⟨33, Or.inl rfl, q⟩
    · exact ⟨40, Or.inr rfl, q⟩
  clear q
  obtain ⟨y, hy, hx⟩ := hx
  obtain ⟨hp, -⟩ := tx_eq hx (by omega) gt.2.2.1
  rw [hx] at e1 e2
  have x1 : f_X6_single (fg_X6 N D) N sA o 5 (nI p) (nI op) = f_X6_single_28 (fg_X6 N D) N o 5 (nI p) (nI op) sA (nI y) := by
    unfold f_X6_single
    rcases hy with rfl | rfl <;> simp (disch := omega) only [hA.tg5, ↓bs e1, ↓reduceIte, List.mem_singleton, Option.bind_some, if_true, if_false, zM_PM, zLn_PM, zTg_PM, zR_PM, ↓zb, ↓zo, ↓zl, n_lt0, n_le, n_lt, n_eq, n_eq0, n_gt0, n_le0, n_ge0, n_zin, n_nat, nI_add, and_self, true_or, false_or, or_false, if_pos, if_neg, f_in_nI, Nat.reduceAdd]
  have x2 : f_X12_factor (fg_X12 N D) N sB 39 = f_X12_factor_25 (fg_X12 N D) N 39 sB (nI y) := by
    unfold f_X12_factor
    rcases hy with rfl | rfl <;> simp (disch := omega) only [t39 hs, g7, ↓bs e2, ↓reduceIte, List.mem_singleton, Option.bind_some, if_true, if_false, zM_PM, zLn_PM, zTg_PM, zR_PM, ↓zb, ↓zo, ↓zl, n_lt0, n_le, n_lt, n_eq, n_eq0, n_gt0, n_le0, n_ge0, n_zin, n_nat, nI_add, and_self, true_or, false_or, or_false, if_pos, if_neg, f_in_nI, Nat.reduceAdd]
  rw [x1, x2]
  clear x1 x2
  by_cases h5 : op = 5
  · subst h5
    exact j_s5 hN (by omega) hA hC g hy
  have h5' : op < 5 := by omega
  have g1 : Good (zPM (zPM (zPM sB 39 7 (nI 0)) 39 8 (nI (op + 1))) 39 5 (nI (p + 1))) L t act (p + 1) (op + 1) := g.rm (((RM.rf.pm (by omega) _).pm (by omega) _).pm (by omega) _) (by rw [zM_PM, if_pos ⟨rfl, rfl⟩]) (by omega) (by rw [zM_PM, if_neg (by omega), zM_PM, if_neg (by omega), zM_PM, if_pos ⟨rfl, rfl⟩]) (by rw [zM_PM, if_neg (by omega), zM_PM, if_pos ⟨rfl, rfl⟩]) (by omega)
  have r1 : RM sB (zPM (zPM (zPM sB 39 7 (nI 0)) 39 8 (nI (op + 1))) 39 5 (nI (p + 1))) := ((RM.rf.pm (by omega) _).pm (by omega) _).pm (by omega) _
  have x3 : f_X12_factor_25 (fg_X12 N D) N 39 sB (nI y) = f_X12_factor_69 (fg_X12 N D) N 39 (zPM (zPM sB 39 7 (nI 0)) 39 8 (nI (op + 1))) (nI y) (nI 1) (nI p) := by
    unfold f_X12_factor_25 f_X12_factor_39
    simp (disch := omega) only [g8, g5, show zB (nI 0) from by decide, t39 hs, ↓reduceIte, List.mem_singleton, Option.bind_some, if_true, if_false, zM_PM, zLn_PM, zTg_PM, zR_PM, ↓zb, ↓zo, ↓zl, n_lt0, n_le, n_lt, n_eq, n_eq0, n_gt0, n_le0, n_ge0, n_zin, n_nat, nI_add, and_self, true_or, false_or, or_false, if_pos, if_neg, f_in_nI, Nat.reduceAdd]
  rw [x3]
  clear x3
  have hs1 : Sh (zPM (zPM sB 39 7 (nI 0)) 39 8 (nI (op + 1))) := (hs.pm _ _ _).pm _ _ _
  generalize zPM (zPM sB 39 7 (nI 0)) 39 8 (nI (op + 1)) = s1 at *
  rcases hy with rfl | rfl
  · exact j_s33 J2 hD h5' hp hA hC go hs1 r1 g1 hB hz
  · exact j_s40 J0 hD h5' hp hC hs1 r1 hA go g1 hB hz
