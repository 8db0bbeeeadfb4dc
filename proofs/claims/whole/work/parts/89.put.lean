/-! codes, put on both sides -/
def RA (o c : Nat) (s s' : zS) : Prop := s'.1 = s.1 ∧ s'.2.1 = s.2.1 ∧ s'.2.2.2 = s.2.2.2 ∧ ∀ k j, k ≠ c → ¬ (k = o ∧ j = 4) → zM s' k j = zM s k j
theorem RA.rf {o c : Nat} {s : zS} : RA o c s s := ⟨rfl, rfl, rfl, fun _ _ _ _ => rfl⟩
theorem RA.tr {o c : Nat} {a b d : zS} (h : RA o c a b) (g : RA o c b d) : RA o c a d := ⟨g.1.trans h.1, g.2.1.trans h.2.1, g.2.2.1.trans h.2.2.1, fun k j q1 q2 => (g.2.2.2 k j q1 q2).trans (h.2.2.2 k j q1 q2)⟩
theorem RA.tp {o c : Nat} {a b : zS} (h : RA o c a b) (ho : 47 ≤ o) (hc : 47 ≤ c) {L : Nat} {t : Nat → Nat} (g : TpA a L t) : TpA b L t := ⟨g.1.cc ⟨h.1, h.2.1, h.2.2.1⟩, g.2.1, g.2.2.1, (h.2.2.2 _ _ (by omega) (by omega)).trans g.2.2.2.1, fun i hi => (h.2.2.2 _ _ (by omega) (by omega)).trans (g.2.2.2.2 i hi)⟩
def RB (act : Nat) (s s' : zS) : Prop := s'.1 = s.1 ∧ s'.2.1 = s.2.1 ∧ s'.2.2.2 = s.2.2.2 ∧ ∀ k j, ¬ (k = 39 ∧ (j = 5 ∨ j = 7 ∨ j = 8)) → ¬ (k = 40 ∧ (j = 243 + act ∨ (248 + 140 * act ≤ j ∧ j < 388 + 140 * act))) → zM s' k j = zM s k j
theorem RB.rf {act : Nat} {s : zS} : RB act s s := ⟨rfl, rfl, rfl, fun _ _ _ _ => rfl⟩
theorem RB.tr {act : Nat} {a b d : zS} (h : RB act a b) (g : RB act b d) : RB act a d := ⟨g.1.trans h.1, g.2.1.trans h.2.1, g.2.2.1.trans h.2.2.1, fun k j q1 q2 => (g.2.2.2 k j q1 q2).trans (h.2.2.2 k j q1 q2)⟩
theorem RM.rb {act : Nat} {a b : zS} (h : RM a b) : RB act a b := ⟨h.1, h.2.1, h.2.2.1, fun k j q _ => h.2.2.2 k j q⟩
theorem RB.sh {act : Nat} {a b : zS} (h : RB act a b) (hs : Sh a) : Sh b := hs.cc ⟨h.1, h.2.1, h.2.2.1⟩
theorem RB.good {a b : zS} {L : Nat} {t : Nat → Nat} {act p op p' op' : Nat} (h : RB act a b) (g : Good a L t act p op) (h5 : zM b 39 5 = nI p') (hp : p' ≤ L) (h7 : zM b 39 7 = nI 0) (h8 : zM b 39 8 = nI op') (ho : op' ≤ 6) : Good b L t act p' op' := by
  have hL := g.b.1
  exact ⟨⟨h.sh g.1.1, g.1.2.1, g.1.2.2.1, (h.2.2.2 _ _ (by omega) (by omega)).trans g.1.2.2.2.1, fun i hi => (h.2.2.2 _ _ (by omega) (by omega)).trans (g.1.2.2.2.2 i hi)⟩, g.2.1, hp, ho, (h.2.2.2 _ _ (by omega) (by omega)).trans g.2.2.2.2.1, h5, h7, h8⟩
def updN (f : Nat → Nat) (n q : Nat) : Nat → Nat := fun i => if i = n then q else f i
def AC (s : zS) (o c sz : Nat) (f : Nat → Nat) : Prop := zTg s o = 16 ∧ zR s o 3 = some c ∧ zTg s c = 1 ∧ zLn s c = 100 ∧ 47 ≤ o ∧ 47 ≤ c ∧ o ≠ c ∧ zM s o 4 = nI sz ∧ sz ≤ 100 ∧ ∀ i, i < sz → zM s c i = nI (f i)
def BC (s : zS) (act sz : Nat) (f : Nat → Nat) : Prop := zM s 40 (243 + act) = nI sz ∧ ∀ i, i < sz → zM s 40 (248 + 140 * act + i) = stp (f i)
theorem BC.rm {a b : zS} (h : RM a b) {act sz : Nat} {f : Nat → Nat} (g : BC a act sz f) : BC b act sz f := ⟨(h.2.2.2 _ _ (by omega)).trans g.1, fun i hi => (h.2.2.2 _ _ (by omega)).trans (g.2 i hi)⟩
theorem x_put {s : zS} {o c sz : Nat} {f : Nat → Nat} (h : AC s o c sz f) (q : Nat) : ∃ s' sz' f', f_X6_put s o (nI q) = some s' ∧ RA o c s s' ∧ AC s' o c sz' f' ∧ (sz < 100 → sz' = sz + 1 ∧ f' = updN f sz q) := by
  obtain ⟨h1, h2, h3, h4, h5, h6, h7, h8, h9, h10⟩ := id h
  by_cases hz : sz < 100
  · refine ⟨zPM (zPM s c sz (nI q)) o 4 (nI (sz + 1)), sz + 1, updN f sz q, ?_, ⟨rfl, rfl, rfl, fun k j q1 q2 => ?_⟩, ⟨h1, h2, h3, h4, h5, h6, h7, ?_, hz, fun i hi => ?_⟩, fun _ => ⟨rfl, rfl⟩⟩
    · unfold f_X6_put
      simp (disch := omega) only [h1, ↓bs h2, h3, h4, h8, ↓reduceIte, List.mem_singleton, Option.bind_some, if_true, if_false, zM_PM, zLn_PM, zTg_PM, zR_PM, ↓zb, ↓zo, ↓zl, n_lt0, n_le, n_lt, n_eq, n_eq0, n_gt0, n_le0, n_ge0, n_zin, n_nat, nI_add, and_self, true_or, false_or, or_false, if_pos, if_neg, f_in_nI, Nat.reduceAdd]
    · rw [zM_PM, if_neg q2, zM_PM, if_neg (fun z => q1 z.1)]
    · rw [zM_PM, if_pos ⟨rfl, rfl⟩]
    · rw [zM_PM, if_neg (by omega), zM_PM]
      unfold updN
      by_cases z : i = sz
      · rw [if_pos ⟨rfl, z⟩, if_pos z]
      · rw [if_neg (fun y => z y.2), if_neg z]; exact h10 i (by omega)
  · refine ⟨s, sz, f, ?_, RA.rf, h, fun z => absurd z hz⟩
    unfold f_X6_put
    simp (disch := omega) only [h1, ↓bs h2, h3, h4, h8, ↓reduceIte, List.mem_singleton, Option.bind_some, if_true, if_false, zM_PM, zLn_PM, zTg_PM, zR_PM, ↓zb, ↓zo, ↓zl, n_lt0, n_le, n_lt, n_eq, n_eq0, n_gt0, n_le0, n_ge0, n_zin, n_nat, nI_add, and_self, true_or, false_or, or_false, if_pos, if_neg, f_in_nI, Nat.reduceAdd]
theorem m_emit {s : zS} {L : Nat} {t : Nat → Nat} {act p op sz : Nat} {f : Nat → Nat} (g : Good s L t act p op) (h : BC s act sz f) (hz : sz < 140) (q : Nat) : ∃ s', f_X12_emits s 39 (stp q) = some s' ∧ RB act s s' ∧ Good s' L t act p op ∧ BC s' act (sz + 1) (updN f sz q) := by
  obtain ⟨gt, ga, gp, go, g4, g5, g7, g8⟩ := id g
  have hs := gt.1
  have rb : RB act s (zPM (zPM s 40 (248 + 140 * act + sz) (stp q)) 40 (243 + act) (nI (sz + 1))) := ⟨rfl, rfl, rfl, fun k j q1 q2 => by rw [zM_PM, if_neg (by omega), zM_PM, if_neg (by omega)]⟩
  refine ⟨zPM (zPM s 40 (248 + 140 * act + sz) (stp q)) 40 (243 + act) (nI (sz + 1)), ?_, rb, rb.good g ?_ gp ?_ ?_ go, ?_, fun i hi => ?_⟩
  · have h1 := h.1
    unfold f_X12_emits
    simp (disch := omega) only [g7, g4, h1, n_mul, t39 hs, ↓bs (r39_1 hs), t40 hs, l40 hs, ↓reduceIte, List.mem_singleton, Option.bind_some, if_true, if_false, zM_PM, zLn_PM, zTg_PM, zR_PM, ↓zb, ↓zo, ↓zl, n_lt0, n_le, n_lt, n_eq, n_eq0, n_gt0, n_le0, n_ge0, n_zin, n_nat, nI_add, and_self, true_or, false_or, or_false, if_pos, if_neg, f_in_nI, Nat.reduceAdd]
  · rw [zM_PM, if_neg (by omega), zM_PM, if_neg (by omega)]; exact g5
  · rw [zM_PM, if_neg (by omega), zM_PM, if_neg (by omega)]; exact g7
  · rw [zM_PM, if_neg (by omega), zM_PM, if_neg (by omega)]; exact g8
  · rw [zM_PM, if_pos ⟨rfl, rfl⟩]
  · rw [zM_PM, if_neg (by omega), zM_PM]
    unfold updN
    by_cases z : i = sz
    · rw [if_pos ⟨rfl, by omega⟩, if_pos z]
    · rw [if_neg (by omega), if_neg z]; exact h.2 i (by omega)
theorem m_emit_bad {s : zS} {n : Nat} (h : Bad s n) (x : Int32) : f_X12_emits s 39 x = some s := by
  obtain ⟨hs, h1, h5, h7⟩ := h
  unfold f_X12_emits
  simp (disch := omega) only [h7, t39 hs, ↓reduceIte, List.mem_singleton, Option.bind_some, if_true, if_false, zM_PM, zLn_PM, zTg_PM, zR_PM, ↓zb, ↓zo, ↓zl, n_lt0, n_le, n_lt, n_eq, n_eq0, n_gt0, n_le0, n_ge0, n_zin, n_nat, nI_add, and_self, true_or, false_or, or_false, if_pos, if_neg, f_in_nI, Nat.reduceAdd]
/-- what a piece that was read adds: e operands, at most B open ahead of it -/
def Ex (p sz : Nat) (f : Nat → Nat) (p' sz' : Nat) (f' : Nat → Nat) (B e : Nat) : Prop := p < p' ∧ sz' + p ≤ sz + p' ∧ sz ≤ sz' ∧ (∀ i, i < sz → f' i = f i) ∧ ∀ d, d ≤ B → depN f sz = some d → depN f' sz' = some (d + e)
theorem depN_cg {f g : Nat → Nat} : ∀ n, (∀ i, i < n → f i = g i) → depN f n = depN g n
  | 0, _ => rfl
  | n + 1, h => by unfold depN; rw [depN_cg n (fun i hi => h i (by omega)), h n (by omega)]
theorem updN_lt (f : Nat → Nat) (n q i : Nat) (h : i < n) : updN f n q i = f i := by unfold updN; rw [if_neg (by omega)]
theorem depN_put {f : Nat → Nat} {n d : Nat} (q : Nat) (h : depN f n = some d) : depN (updN f n q) (n + 1) = depC d q := by
  show (depN (updN f n q) n).bind (fun d => depC d (updN f n q n)) = _
  rw [depN_cg (g := f) n (fun i hi => updN_lt f n q i hi), h]
  show depC d (updN f n q n) = _
  unfold updN; rw [if_pos rfl]
theorem Ex.put {p sz p' sz' B e q e2 p'' : Nat} {f f' : Nat → Nat} (h : Ex p sz f p' sz' f' B e) (hp : p < p'') (hz : sz' + 1 + p ≤ sz + p'') (hq : ∀ d, d ≤ B → depC (d + e) q = some (d + e2)) : Ex p sz f p'' (sz' + 1) (updN f' sz' q) B e2 := by
  obtain ⟨h1, h2, h3, h4, h5⟩ := h
  refine ⟨hp, hz, by omega, fun i hi => by rw [updN_lt _ _ _ _ (by omega)]; exact h4 i hi, fun d hd hf => ?_⟩
  rw [depN_put q (h5 d hd hf)]; exact hq d hd
theorem Ex.tr {p sz p1 sz1 p2 sz2 B e B2 e2 : Nat} {f f1 f2 : Nat → Nat} (h : Ex p sz f p1 sz1 f1 B e) (g : Ex p1 sz1 f1 p2 sz2 f2 B2 e2) (hB : B + e ≤ B2) : Ex p sz f p2 sz2 f2 B (e + e2) := by
  obtain ⟨h1, h2, h3, h4, h5⟩ := h
  obtain ⟨g1, g2, g3, g4, g5⟩ := g
  refine ⟨by omega, by omega, by omega, fun i hi => (g4 i (by omega)).trans (h4 i hi), fun d hd hf => ?_⟩
  rw [g5 (d + e) (by omega) (h5 d hd hf), Nat.add_assoc]
/-- place p' further on than p', the same codes -/
theorem Ex.wide {p sz p' sz' B e p0 p'' : Nat} {f f' : Nat → Nat} (h : Ex p sz f p' sz' f' B e) (h1 : p0 ≤ p) (h2 : p' ≤ p'') : Ex p0 sz f p'' sz' f' B e := by
  obtain ⟨q1, q2, q3, q4, q5⟩ := h
  exact ⟨by omega, by omega, q3, q4, q5⟩
theorem dep_push {d q : Nat} (hd : d ≤ 18) (hq : q < 1800) : depC d q = some (d + 1) := by
  unfold depC
  rw [if_neg (by omega), if_neg (by omega), if_neg (by omega), if_pos ⟨hq, by omega⟩]
theorem dep_not {d : Nat} : depC (d + 1) 2000 = some (d + 1) := by
  unfold depC
  rw [if_neg (by omega), if_pos rfl, if_pos (by omega)]
theorem dep_two {d q : Nat} (hq : q = 2001 ∨ q = 2002) : depC (d + 2) q = some (d + 1) := by
  unfold depC
  rw [if_neg (by omega), if_neg (by omega), if_pos hq, if_pos (by omega)]
  congr 1
theorem dep_sees {n : Nat} (hn : n ≤ 99) : depC 1 (3000 + n) = some 0 := by
  unfold depC
  rw [if_pos (by omega), if_pos ⟨rfl, by omega⟩]
theorem stp_not : stp 2000 = -1 ∧ stp 2001 = -2 ∧ stp 2002 = -3 := by decide +kernel
theorem stp_test {a b v : Nat} (ha : a ≤ 5) (hb : b ≤ 2) (hv : v ≤ 99) : (nI a + nI 8 * nI b) + nI 32 * nI v = stp (a * 300 + b * 100 + v) := by
  unfold stp
  rw [if_neg (by omega), if_neg (by omega), if_neg (by omega), if_neg (by omega), n_mul, n_mul, nI_add, nI_add]
  congr 1; omega
theorem stp_sees {n : Nat} : (-10 : Int32) - nI n = stp (3000 + n) := by
  unfold stp
  rw [if_pos (by omega), show 3000 + n - 2990 = n + 10 by omega, ← nI_add, show nI 10 = (10 : Int32) from rfl]
  grind
