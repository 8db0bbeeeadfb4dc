/-! school -/
theorem HoldR.cg2 {st st' : zS} {x B B' : Nat} (h : Kept st st') (hK : K st B 1 ≤ K st' B' 1) (hc : K st B 1 ≤ 5) (hB7 : zM st' B' 7 = zM st B 7) (hB : ∀ a j, a < K st B 1 → (j = 228 + a ∨ j = 233 + a ∨ j = 238 + a ∨ j = 243 + a ∨ (248 + 140 * a ≤ j ∧ j < 388 + 140 * a)) → zM st' B' j = zM st B j) (g : HoldR st x B) : HoldR st' x B' := by
  obtain ⟨want, look, cnt, c, sz, f, p1, p2, p3, p4, p5, p6, p7, p8, p9, p10, p11, p12, p13, p14, p15, p16, p17, p18, p19⟩ := g
  have dx : Dyn st x := by rcases p5 with q | q | q <;> unfold Dyn <;> omega
  have dc : Dyn st c := by rcases p6 with q | q | q <;> unfold Dyn <;> omega
  have hN := h.1
  refine ⟨want, look, cnt, c, sz, f, by rw [h.tg dx]; exact p1, by rw [(h.2 x dx).2.1]; exact p2, by rw [h.tg dc]; exact p3, by rw [h.ln dc]; exact p4, by clear p19; omega, by clear p19; omega, by rw [(h.2 x dx).2.2]; exact p7, by rw [(h.2 x dx).2.2]; exact p8, by rw [(h.2 x dx).2.2]; exact p9, by rw [(h.2 x dx).2.2]; exact p10, p11, p12, p13, p14, p15, p16, p17, fun i hi => by rw [(h.2 c dc).2.2]; exact p18 i hi, ?_⟩
  rcases p19 with ⟨q1, q2⟩ | ⟨act, w, l, q0, q1, q2, q3, q4, q5, q6, q7, q8, q9, q10⟩
  · exact Or.inl ⟨by rw [hB7]; exact q1, q2⟩
  · refine Or.inr ⟨act, w, l, by omega, by rw [hB7]; exact q1, by rw [hB act _ q0 (by omega)]; exact q2, q3, q4, by rw [hB act _ q0 (by omega)]; exact q5, q6, q7, by rw [hB act _ q0 (by omega)]; exact q8, by rw [hB act _ q0 (by omega)]; exact q9, fun i hi => ?_⟩
    rw [hB act _ q0 (by omega)]; exact q10 i hi
/-- which cells of the reference a school writes -/
def SB (act j : Nat) : Prop := j = 1 ∨ j = 6 ∨ j = 7 ∨ j = 228 + act ∨ j = 233 + act ∨ j = 238 + act ∨ j = 243 + act ∨ (248 + 140 * act ≤ j ∧ j < 388 + 140 * act)
theorem inv_school {st s2 : zS} (h : Inv st) (kp : Kept st s2) (hsh : Sh s2) (hm : ∀ k j, k < 47 → k ≠ 40 → ¬ (k = 1 ∧ j = 3) → ¬ (k = 5 ∧ j = 1) → ¬ (k = 39 ∧ 4 ≤ j ∧ j ≤ 8) → zM s2 k j = zM st k j) (hB : ∀ j, ¬ SB (K st 40 1) j → zM s2 40 j = zM st 40 j) (z5 : zM s2 5 1 = nI 0) (z6 : zM s2 40 6 = nI 0) {K' : Nat} (h0 : zM s2 40 1 = nI K') (hK5 : K' ≤ 5) (h13 : zM s2 1 3 = nI K') (r1 : ∀ j, zR s2 2 j = zR st 2 j) (r2 : zR s2 19 2 = zR st 19 2) (r3 : ∀ j, zR s2 20 j = zR st 20 j) (hh : ∃ a, zR s2 1 2 = some a ∧ HoldR s2 a 40) : Inv s2 := by
  obtain ⟨hs, ⟨⟨⟨a1, a2⟩, a3⟩, ⟨⟨b1, b2⟩, b3⟩, c1, c2, n1, n2, n3, n4, n5, n6, n7, e1, e2, -, -, -⟩, g3, g4, g5, n, g6, g7, g8⟩ := h
  have k1 : K s2 40 1 = K' := K_of h0 (by omega)
  have hC : ∀ j, j ≠ 1 → j ≠ 6 → j ≠ 7 → j < 228 → zM s2 40 j = zM st 40 j := fun j q1 q2 q3 q4 => hB j (by unfold SB; omega)
  have kk : ∀ c, c ≠ 1 → c ≠ 6 → c ≠ 7 → c < 228 → K s2 40 c = K st 40 c := fun c q1 q2 q3 q4 => by unfold K; rw [hC c q1 q2 q3 q4]
  have hW : ∀ x, WayE st 40 x → WayE s2 40 x := fun x hx => by unfold WayE; rw [kk 0 (by omega) (by omega) (by omega) (by omega)]; exact hx
  have hU : ∀ x, Upto (K st 40 8) x → Upto (K s2 40 8) x := fun x hx => by rw [kk 8 (by omega) (by omega) (by omega) (by omega)]; exact hx
  have hD : ∀ k j, k < 39 → ¬ (k = 1 ∧ j = 3) → ¬ (k = 5 ∧ j = 1) → zM s2 k j = zM st k j := fun k j q1 q2 q3 => hm k j (by omega) (by omega) q2 q3 (by omega)
  refine ⟨hsh, ⟨⟨⟨by rw [kk 0 (by omega) (by omega) (by omega) (by omega), hC 0 (by omega) (by omega) (by omega) (by omega)]; exact a1, by rw [kk 0 (by omega) (by omega) (by omega) (by omega)]; exact a2⟩, by rw [hD 1 1 (by omega) (by omega) (by omega), hC 0 (by omega) (by omega) (by omega) (by omega)]; exact a3⟩, ⟨⟨by rw [k1]; exact h0, by rw [k1]; exact hK5⟩, by rw [h0]; exact h13⟩, by rw [hD 1 6 (by omega) (by omega) (by omega), hC 9 (by omega) (by omega) (by omega) (by omega)]; exact c1, by rw [hD 1 7 (by omega) (by omega) (by omega), hC 10 (by omega) (by omega) (by omega) (by omega)]; exact c2, NumR.zero z5 z6, n2.cg (hD _ _ (by omega) (by omega) (by omega)) (fun i _ => hD _ _ (by omega) (by omega) (by omega)) (hC _ (by omega) (by omega) (by omega) (by omega)) (fun i _ => hC _ (by omega) (by omega) (by omega) (by omega)) hW, n3.cg (hD _ _ (by omega) (by omega) (by omega)) (fun i _ => hD _ _ (by omega) (by omega) (by omega)) (hC _ (by omega) (by omega) (by omega) (by omega)) (fun i _ => hC _ (by omega) (by omega) (by omega) (by omega)) (fun _ q => q), n4.cg (hD _ _ (by omega) (by omega) (by omega)) (fun i _ => hD _ _ (by omega) (by omega) (by omega)) (hC _ (by omega) (by omega) (by omega) (by omega)) (fun i _ => hC _ (by omega) (by omega) (by omega) (by omega)) hU, n5.cg (hD _ _ (by omega) (by omega) (by omega)) (fun i _ => hD _ _ (by omega) (by omega) (by omega)) (hC _ (by omega) (by omega) (by omega) (by omega)) (fun i _ => hC _ (by omega) (by omega) (by omega) (by omega)) (fun _ q => q), n6.cg (hD _ _ (by omega) (by omega) (by omega)) (fun i _ => hD _ _ (by omega) (by omega) (by omega)) (hC _ (by omega) (by omega) (by omega) (by omega)) (fun i _ => hC _ (by omega) (by omega) (by omega) (by omega)) (fun _ q => q), n7.cg (hD _ _ (by omega) (by omega) (by omega)) (fun i _ => hD _ _ (by omega) (by omega) (by omega)) (hC _ (by omega) (by omega) (by omega) (by omega)) (fun i _ => hC _ (by omega) (by omega) (by omega) (by omega)) hW, fun i j hi hj he => ?_, fun w hw => ?_, hh⟩, by rw [hD 0 2 (by omega) (by omega) (by omega), hm 39 3 (by omega) (by omega) (by omega) (by omega) (by omega)]; exact g3, ?_, by rw [hD 37 1 (by omega) (by omega) (by omega), hm 39 20 (by omega) (by omega) (by omega) (by omega) (by omega)]; exact g5, n, g6, by rw [hm 39 20 (by omega) (by omega) (by omega) (by omega) (by omega)]; exact g7, fun i q1 q2 => by rw [hD 38 i (by omega) (by omega) (by omega), hm 46 i (by omega) (by omega) (by omega) (by omega) (by omega)]; exact g8 i q1 q2⟩
  · have l3 := n3.1.2
    rw [kk 2 (by omega) (by omega) (by omega) (by omega)] at hi hj
    rw [hC _ (by omega) (by omega) (by omega) (by omega), hC _ (by omega) (by omega) (by omega) (by omega)] at he
    exact e1 i j hi hj he
  · rw [kk 0 (by omega) (by omega) (by omega) (by omega)] at hw
    obtain ⟨a, q1, q2⟩ := e2 w hw
    exact ⟨a, by rw [r1]; exact q1, q2.cg kp (fun j hj => hC j (by omega) (by omega) (by omega) (by omega))⟩
  · rcases g4 with q | ⟨q1, q2⟩
    · exact Or.inl (by rw [hm 39 3 (by omega) (by omega) (by omega) (by omega) (by omega)]; exact q)
    · exact Or.inr ⟨by rw [hm 39 3 (by omega) (by omega) (by omega) (by omega) (by omega)]; exact q1, q2.cg kp r3 r2 (fun k j u1 u2 => hD k j (by omega) (by omega) (by omega)) (fun j => hm 41 j (by omega) (by omega) (by omega) (by omega) (by omega))⟩
def mk0 (s : zS) : zS := zPR (zNw (zPM (zPM (zNw s 16 0) s.1 0 (nI 20)) s.1 1 (nI 3)) 1 100) s.1 3 (some (s.1 + 1))
theorem x_mk0 (s : zS) : f_X6_init (zNw s 16 0) s.1 = some (mk0 s) := by
  have e1 : zTg (zNw s 16 0) s.1 = 16 := by rw [zTg_Nw, if_pos (by rfl)]
  have e2 : zTg (zNw (zPM (zPM (zNw s 16 0) s.1 0 (nI 20)) s.1 1 (nI 3)) 1 100) s.1 = 16 := by
    rw [zTg_Nw, if_neg (by show ¬ s.1 = s.1 + 1; omega)]; exact e1
  unfold f_X6_init
  rw [if_pos (by rw [e1]; decide), if_pos (by rw [e2]; decide)]
  rfl
theorem mk0_p (s : zS) (h0 : 47 ≤ s.1) : Grow s (mk0 s) ∧ (mk0 s).1 = s.1 + 2 ∧ AC (mk0 s) s.1 (s.1 + 1) 0 (fun _ => 0) ∧ zM (mk0 s) s.1 0 = nI 20 ∧ zM (mk0 s) s.1 1 = nI 3 ∧ zM (mk0 s) s.1 2 = nI 0 := by
  have g1 : Grow s (zPM (zPM (zNw s 16 0) s.1 0 (nI 20)) s.1 1 (nI 3)) := ((Grow.nw s 16 0).pm (Nat.le_refl _) _ _).pm (Nat.le_refl _) _ _
  have g2 : Grow s (mk0 s) := by
    unfold mk0
    exact (g1.tr (Grow.nw _ 1 100)).pr (Nat.le_refl _) _ _
  have V : ∀ j, zM (mk0 s) s.1 j = if j = 1 then nI 3 else if j = 0 then nI 20 else 0 := fun j => by
    have e : zM (zNw s 16 0) s.1 j = 0 := by rw [zM_Nw, if_pos rfl]
    unfold mk0
    rw [zM_PR, zM_Nw, if_neg (by show ¬ s.1 = s.1 + 1; omega), zM_PM, zM_PM, e]
    by_cases q : j = 1
    · rw [if_pos ⟨rfl, q⟩, if_pos q]
    · rw [if_neg (fun z => q z.2), if_neg q]
      by_cases q2 : j = 0
      · rw [if_pos ⟨rfl, q2⟩, if_pos q2]
      · rw [if_neg (fun z => q2 z.2), if_neg q2]
  refine ⟨g2, rfl, ⟨?_, ?_, ?_, ?_, h0, by omega, by omega, ?_, by omega, fun i hi => absurd hi (by omega)⟩, ?_, ?_, ?_⟩
  · unfold mk0; rw [zTg_PR, zTg_Nw, if_neg (by show ¬ s.1 = s.1 + 1; omega), zTg_PM, zTg_PM, zTg_Nw, if_pos (by rfl)]
  · unfold mk0; rw [zR_PR, if_pos ⟨rfl, rfl⟩]
  · unfold mk0; rw [zTg_PR, zTg_Nw, if_pos (by rfl)]
  · unfold mk0; rw [zLn_PR, zLn_Nw, if_pos (by rfl)]
  · rw [V, if_neg (by omega), if_neg (by omega)]; rfl
  · rw [V, if_neg (by omega), if_pos rfl]
  · rw [V, if_pos rfl]
  · rw [V, if_neg (by omega), if_neg (by omega)]; rfl
def pre (s : zS) (act L : Nat) : zS := zPM (zPM (zPM (zPM (zPM (zPM (zPM (zPM (zPM (zPM s 39 4 (nI act)) 39 6 (nI L)) 40 6 (nI 0)) 40 (228 + act) (nI 20)) 40 (233 + act) (nI 3)) 40 (238 + act) (nI 0)) 40 (243 + act) (nI 0)) 39 5 (nI 0)) 39 7 (nI 0)) 39 8 (nI 0)
theorem m_pre {s : zS} (hs : Sh s) {act L : Nat} (ha : act < 5) (h1 : zM s 40 1 = nI act) (h6 : zM s 40 6 = nI L) (N : Nat) : f_X12_school N s 39 = Option.bind (f_X12_clauseHere N (pre s act L) 39) (fun st => f_X12_school_120 N 39 N st (nI 1)) := by
  have ne : act ≠ 5 := by omega
  unfold f_X12_school pre
  simp (disch := omega) only [t39 hs, ↓bs (r39_1 hs), t40 hs, l40 hs, h1, h6, ne, ↓reduceIte, List.mem_singleton, Option.bind_some, if_true, if_false, zM_PM, zLn_PM, zTg_PM, zR_PM, ↓zb, ↓zo, ↓zl, n_lt0, n_le, n_lt, n_eq, n_eq0, n_gt0, n_le0, n_ge0, n_zin, n_nat, nI_add, and_self, true_or, false_or, or_false, if_pos, if_neg, f_in_nI, Nat.reduceAdd]
theorem pre_m (s : zS) (act L k j : Nat) (h1 : ¬ (k = 39 ∧ 4 ≤ j ∧ j ≤ 8)) (h2 : ¬ (k = 40 ∧ SB act j)) : zM (pre s act L) k j = zM s k j := by
  unfold SB at h2
  unfold pre
  rw [zM_PM, if_neg (by omega), zM_PM, if_neg (by omega), zM_PM, if_neg (by omega), zM_PM, if_neg (by omega), zM_PM, if_neg (by omega), zM_PM, if_neg (by omega), zM_PM, if_neg (by omega), zM_PM, if_neg (by omega), zM_PM, if_neg (by omega), zM_PM, if_neg (by omega)]
theorem pre_v (s : zS) (act L : Nat) (ha : act < 5) : zM (pre s act L) 39 4 = nI act ∧ zM (pre s act L) 39 6 = nI L ∧ zM (pre s act L) 39 5 = nI 0 ∧ zM (pre s act L) 39 7 = nI 0 ∧ zM (pre s act L) 39 8 = nI 0 ∧ zM (pre s act L) 40 6 = nI 0 ∧ zM (pre s act L) 40 (228 + act) = nI 20 ∧ zM (pre s act L) 40 (233 + act) = nI 3 ∧ zM (pre s act L) 40 (238 + act) = nI 0 ∧ zM (pre s act L) 40 (243 + act) = nI 0 := by
  unfold pre
  refine ⟨?_, ?_, ?_, ?_, ?_, ?_, ?_, ?_, ?_, ?_⟩ <;> simp (disch := omega) only [zM_PM, if_pos, if_neg, and_self, if_true]
theorem pre_good {s : zS} (hs : Sh s) {act L : Nat} (ha : act < 5) {t : Nat → Nat} (hL : L ≤ 100) (ht : ∀ i, i < L → t i < 128) (h2 : ∀ i, i < L → zM s 40 (128 + i) = nI (t i)) : Good (pre s act L) L t act 0 0 ∧ BC (pre s act L) act 0 (fun _ => 0) := by
  obtain ⟨p1, p2, p3, p4, p5, p6, p7, p8, p9, p10⟩ := pre_v s act L ha
  have hp : Sh (pre s act L) := hs.cc ⟨rfl, rfl, rfl⟩
  refine ⟨⟨⟨hp, hL, ht, p2, fun i hi => ?_⟩, ha, by omega, by omega, p1, p3, p4, p5⟩, p10, fun i hi => absurd hi (by omega)⟩
  rw [pre_m _ _ _ _ _ (by omega) (by unfold SB; omega)]
  exact h2 i hi
theorem sch_frame {s0 sA' st1 sB' sF : zS} {o c act L : Nat} (ho : 47 ≤ o) (hc : 47 ≤ c) (ha : act < 5) (r1 : RA2 o c s0 sA') (q1 : st1.1 = sA'.1) (q2 : st1.2.1 = sA'.2.1) (q3 : ∀ k j, ¬ (k = 1 ∧ j = 3) → ¬ (k = 5 ∧ j = 1) → zM st1 k j = zM sA' k j) (q4 : ∀ k j, ¬ (k = 1 ∧ j = 2) → zR st1 k j = zR sA' k j) (r2 : RB2 act (pre st1 act L) sB') (q5 : sF.1 = sB'.1) (q6 : sF.2.1 = sB'.2.1) (q7 : sF.2.2.2 = sB'.2.2.2) (q8 : ∀ k j, ¬ (k = 40 ∧ (j = 1 ∨ j = 7)) → zM sF k j = zM sB' k j) : sF.1 = s0.1 ∧ sF.2.1 = s0.2.1 ∧ (∀ k j, ¬ (k = 1 ∧ j = 2) → zR sF k j = zR s0 k j) ∧ zR sF 1 2 = zR st1 1 2 ∧ (∀ k j, k ≠ o → k ≠ c → ¬ (k = 40 ∧ SB act j) → ¬ (k = 1 ∧ j = 3) → ¬ (k = 5 ∧ j = 1) → ¬ (k = 39 ∧ 4 ≤ j ∧ j ≤ 8) → zM sF k j = zM s0 k j) ∧ (∀ j, zM sF o j = zM sA' o j) ∧ (∀ j, zM sF c j = zM sA' c j) ∧ zM sF 1 3 = zM st1 1 3 ∧ zM sF 5 1 = zM st1 5 1 ∧ zM sF 40 6 = nI 0 := by
  have A : ∀ k j, ¬ (k = 40 ∧ SB act j) → ¬ (k = 39 ∧ 4 ≤ j ∧ j ≤ 8) → zM sF k j = zM st1 k j := fun k j u1 u2 => by
    have u3 := u1
    unfold SB at u3
    exact (q8 k j (by omega)).trans ((r2.2.2.2 k j (by omega) (by omega)).trans (pre_m _ _ _ _ _ u2 u1))
  have B : ∀ k j, zR sF k j = zR st1 k j := fun k j => by unfold zR; rw [q7, r2.2.2.1]; rfl
  have C : ∀ k j, ¬ (k = 1 ∧ j = 2) → zR sF k j = zR s0 k j := fun k j u => by
    rw [B, q4 k j u]; unfold zR; rw [r1.2.2.1]
  refine ⟨?_, ?_, C, B 1 2, fun k j u1 u2 u3 u4 u5 u6 => ?_, fun j => ?_, fun j => ?_, A 1 3 (by omega) (by omega), A 5 1 (by omega) (by omega), ?_⟩
  · rw [q5, r2.1]; exact q1.trans r1.1
  · rw [q6, r2.2.1]; exact q2.trans r1.2.1
  · rw [A k j u3 u6, q3 k j u4 u5]; exact r1.2.2.2 k j u2 u1
  · rw [A o j (by omega) (by omega)]; exact q3 o j (by omega) (by omega)
  · rw [A c j (by omega) (by omega)]; exact q3 c j (by omega) (by omega)
  · rw [q8 40 6 (by omega), r2.2.2.2 40 6 (by omega) (by omega)]
    exact (pre_v st1 act L ha).2.2.2.2.2.1
theorem s162_yes {s : zS} {L : Nat} {t : Nat → Nat} {act : Nat} (g : Good s L t act L 0) (h1 : zM s 40 1 = nI act) (N : Nat) : f_X12_school_162 N 39 s = some (zPM (zPM s 40 1 (nI (act + 1))) 40 7 (nI act), nI act) := by
  obtain ⟨gt, ga, gp, go, g4, g5, g7, g8⟩ := g
  have hs := gt.1
  have h6 := gt.2.2.2.1
  unfold f_X12_school_162
  simp (disch := omega) only [g7, g5, h6, g4, h1, t39 hs, ↓bs (r39_1 hs), t40 hs, l40 hs, ↓reduceIte, List.mem_singleton, Option.bind_some, if_true, if_false, zM_PM, zLn_PM, zTg_PM, zR_PM, ↓zb, ↓zo, ↓zl, n_lt0, n_le, n_lt, n_eq, n_eq0, n_gt0, n_le0, n_ge0, n_zin, n_nat, nI_add, and_self, true_or, false_or, or_false, if_pos, if_neg, f_in_nI, Nat.reduceAdd]
def stY (s : zS) (o act : Nat) : zS := zPM (zPR (zPM s 5 1 (nI 0)) 1 2 (some o)) 1 3 (nI (act + 1))
theorem x_sch_yes {st s0 sA' : zS} {act N : Nat} (hs : Sh st) (hs0 : Sh s0) (hsA : Sh sA') (ha : act < 5) (b3 : zM st 1 3 = nI act) (ei : f_X6_init (zNw st 16 0) st.1 = some s0) (tgo : zTg s0 st.1 = 16) (x1 : f_X6_read N s0 st.1 5 = some (sA', -1)) (a13 : zM sA' 1 3 = nI act) : f_X11_school N st 0 = some (stY sA' st.1 act, nI act) := by
  have zc : f_X5_clear sA' 5 = some (zPM sA' 5 1 (nI 0)) := f_clear (ns5 hsA)
  have neg1 : (-1 : Int32) < 0 := by decide
  have hs2 : Sh (zPM sA' 5 1 (nI 0)) := hsA.pm _ _ _
  have hs3 : Sh (zPR (zPM sA' 5 1 (nI 0)) 1 2 (some st.1)) := hs2.pr (by decide) (fun z => absurd z (by decide))
  unfold f_X11_school stY
  simp (disch := omega) only [t0 hs, ↓bs (r0_0 hs), t1 hs, b3, ↓bs ei, t0 hs0, ↓bs (r0_0 hs0), t1 hs0, ↓bs (r1_4 hs0), tgo, x1, t0 hsA, ↓bs (r0_0 hsA), t1 hsA, ↓bs (r1_4 hsA), t5 hsA, ↓bs zc, neg1, ↓bs (r0_0 hs2), ↓bs (r0_0 hs3), zTg_PR, zM_PR, a13, pk_sub, Nat.add_sub_cancel, ↓reduceIte, List.mem_singleton, Option.bind_some, if_true, if_false, zM_PM, zLn_PM, zTg_PM, zR_PM, ↓zb, ↓zo, ↓zl, n_lt0, n_le, n_lt, n_eq, n_eq0, n_gt0, n_le0, n_ge0, n_zin, n_nat, nI_add, and_self, true_or, false_or, or_false, if_pos, if_neg, f_in_nI, Nat.reduceAdd]
theorem x_sch_no {st s0 sA' : zS} {act n N : Nat} (hs : Sh st) (hs0 : Sh s0) (hsA : Sh sA') (ha : act < 5) (hn : n ≤ 100) (b3 : zM st 1 3 = nI act) (ei : f_X6_init (zNw st 16 0) st.1 = some s0) (tgo : zTg s0 st.1 = 16) (x1 : f_X6_read N s0 st.1 5 = some (sA', nI n)) : f_X11_school N st 0 = some (zPM sA' 5 1 (nI 0), -10 - nI n) := by
  have zc : f_X5_clear sA' 5 = some (zPM sA' 5 1 (nI 0)) := f_clear (ns5 hsA)
  unfold f_X11_school
  simp (disch := omega) only [t0 hs, ↓bs (r0_0 hs), t1 hs, b3, ↓bs ei, t0 hs0, ↓bs (r0_0 hs0), t1 hs0, ↓bs (r1_4 hs0), tgo, x1, t0 hsA, ↓bs (r0_0 hsA), t1 hsA, ↓bs (r1_4 hsA), t5 hsA, ↓bs zc, ↓reduceIte, List.mem_singleton, Option.bind_some, if_true, if_false, zM_PM, zLn_PM, zTg_PM, zR_PM, ↓zb, ↓zo, ↓zl, n_lt0, n_le, n_lt, n_eq, n_eq0, n_gt0, n_le0, n_ge0, n_zin, n_nat, nI_add, and_self, true_or, false_or, or_false, if_pos, if_neg, f_in_nI, Nat.reduceAdd]
/-- what the class's end leaves of the state behind the reading -/
def Aft (sA' st1 : zS) : Prop := Sh st1 ∧ st1.1 = sA'.1 ∧ st1.2.1 = sA'.2.1 ∧ (∀ k j, ¬ (k = 1 ∧ j = 3) → ¬ (k = 5 ∧ j = 1) → zM st1 k j = zM sA' k j) ∧ (∀ k j, ¬ (k = 1 ∧ j = 2) → zR st1 k j = zR sA' k j) ∧ zM st1 5 1 = nI 0
theorem stY_p {s : zS} (hs : Sh s) (o act : Nat) : Aft s (stY s o act) ∧ zR (stY s o act) 1 2 = some o ∧ zM (stY s o act) 1 3 = nI (act + 1) := by
  have hs2 : Sh (zPM s 5 1 (nI 0)) := hs.pm _ _ _
  have hs3 : Sh (zPR (zPM s 5 1 (nI 0)) 1 2 (some o)) := hs2.pr (by decide) (fun z => absurd z (by decide))
  unfold stY
  refine ⟨⟨hs3.pm _ _ _, rfl, rfl, fun k j u1 u2 => ?_, fun k j u1 => ?_, ?_⟩, ?_, ?_⟩
  · rw [zM_PM, if_neg u1, zM_PR, zM_PM, if_neg u2]
  · rw [zR_PM, zR_PR, if_neg u1, zR_PM]
  · rw [zM_PM, if_neg (by omega), zM_PR, zM_PM, if_pos ⟨rfl, rfl⟩]
  · rw [zR_PM, zR_PR, if_pos ⟨rfl, rfl⟩]
  · rw [zM_PM, if_pos ⟨rfl, rfl⟩]
theorem stN_p {s : zS} (hs : Sh s) : Aft s (zPM s 5 1 (nI 0)) ∧ zR (zPM s 5 1 (nI 0)) 1 2 = zR s 1 2 ∧ zM (zPM s 5 1 (nI 0)) 1 3 = zM s 1 3 := by
  refine ⟨⟨hs.pm _ _ _, rfl, rfl, fun k j u1 u2 => ?_, fun k j u1 => ?_, ?_⟩, ?_, ?_⟩
  · rw [zM_PM, if_neg u2]
  · rw [zR_PM]
  · rw [zM_PM, if_pos ⟨rfl, rfl⟩]
  · rw [zR_PM]
  · rw [zM_PM, if_neg (by omega)]
theorem fin_inv {st s0 sA' st1 sB' sF : zS} {act L K' : Nat} (h : Inv st) (hact : K st 40 1 = act) (ha : act < 5) (G : Grow st s0) (m1 : s0.1 = st.1 + 2) (ra : RA2 st.1 (st.1 + 1) s0 sA') (af : Aft sA' st1) (rb : RB2 act (pre st1 act L) sB') (q5 : sF.1 = sB'.1) (q6 : sF.2.1 = sB'.2.1) (q7 : sF.2.2.2 = sB'.2.2.2) (q8 : ∀ k j, ¬ (k = 40 ∧ (j = 1 ∨ j = 7)) → zM sF k j = zM sB' k j) (hsF : Sh sF) (hK5 : K' ≤ 5) (z1 : zM sF 40 1 = nI K') (z13 : zM st1 1 3 = nI K') (hh : Kept st sF → (∀ j, ¬ SB act j → zM sF 40 j = zM st 40 j) → ∃ a, zR st1 1 2 = some a ∧ HoldR sF a 40) : Inv sF := by
  have hst := h.1.1
  obtain ⟨-, o1, o2, q3, q4, q51⟩ := af
  obtain ⟨f1, f2, f3, f4, f5, f6, f7, f8, f9, f10⟩ := sch_frame (o := st.1) (c := st.1 + 1) (by omega) (by omega) ha ra o1 o2 q3 q4 rb q5 q6 q7 q8
  have old : ∀ q j, q < 47 → zM s0 q j = zM st q j := fun q j hq => (G.2 q (by omega)).2.2 j
  have oldr : ∀ q j, q < 47 → zR s0 q j = zR st q j := fun q j hq => (G.2 q (by omega)).2.1 j
  have kp : Kept st sF := ⟨by rw [f1, m1]; omega, fun q hq => by
    have hq2 : q < st.1 ∧ q ≠ 40 ∧ q ≠ 1 ∧ q ≠ 5 ∧ q ≠ 39 := by unfold Dyn at hq; omega
    obtain ⟨u1, u2, u3⟩ := G.2 q hq2.1
    exact ⟨by rw [f2]; exact u1, fun j => by rw [f3 q j (by omega)]; exact u2 j, fun j => by rw [f5 q j (by omega) (by omega) (by omega) (by omega) (by omega) (by omega)]; exact u3 j⟩⟩
  have e40 : ∀ j, ¬ SB act j → zM sF 40 j = zM st 40 j := fun j u => by
    rw [f5 40 j (by omega) (by omega) (fun z => u z.2) (by omega) (by omega) (by omega)]; exact old 40 j (by omega)
  obtain ⟨a, hh1, hh2⟩ := hh kp e40
  refine inv_school h kp hsF (fun k j u1 u2 u3 u4 u5 => ?_) (fun j u => ?_) (f9.trans q51) f10 z1 hK5 (f8.trans z13) (fun j => ?_) ?_ (fun j => ?_) ⟨a, f4.trans hh1, hh2⟩
  · rw [f5 k j (by omega) (by omega) (fun z => u2 z.1) u3 u4 u5]; exact old k j u1
  · rw [hact] at u
    exact e40 j u
  · rw [f3 2 j (by omega)]; exact oldr 2 j (by omega)
  · rw [f3 19 2 (by omega)]; exact oldr 19 2 (by omega)
  · rw [f3 20 j (by omega)]; exact oldr 20 j (by omega)
theorem hold_new {st s0 sA' st1 sB' sF : zS} {act L sz w l ct : Nat} {f : Nat → Nat} (ha : act < 5) (hst : 47 ≤ st.1) (m1 : s0.1 = st.1 + 2) (ra : RA2 st.1 (st.1 + 1) s0 sA') (af : Aft sA' st1) (rb : RB2 act (pre st1 act L) sB') (q5 : sF.1 = sB'.1) (q6 : sF.2.1 = sB'.2.1) (q7 : sF.2.2.2 = sB'.2.2.2) (q8 : ∀ k j, ¬ (k = 40 ∧ (j = 1 ∨ j = 7)) → zM sF k j = zM sB' k j) (z1 : zM sF 40 1 = nI (act + 1)) (z7 : zM sF 40 7 = nI act) (gA : AC sA' st.1 (st.1 + 1) sz f) (gB : BC sB' act sz f) (gS : CS sA' sB' st.1 act w l ct) (gd : depN f sz = some 0) : HoldR sF st.1 40 := by
  obtain ⟨-, o1, o2, q3, q4, q51⟩ := af
  obtain ⟨f1, f2, f3, f4, f5, f6, f7, f8, f9, f10⟩ := sch_frame (o := st.1) (c := st.1 + 1) (by omega) (by omega) ha ra o1 o2 q3 q4 rb q5 q6 q7 q8
  obtain ⟨c1, c2, c3, c4, c5, c6, c7, c8, c9, c10⟩ := gA
  obtain ⟨d1, d2⟩ := gB
  obtain ⟨s1, s2, s3, s4, s5, s6, s7, s8, s9⟩ := gS
  have k1 : K sF 40 1 = act + 1 := K_of z1 (by omega)
  have tag : ∀ q, zTg sF q = zTg sA' q := fun q => by unfold zTg; rw [f2, ← ra.2.1]
  have len : ∀ q, zLn sF q = zLn sA' q := fun q => by unfold zLn; rw [f2, ← ra.2.1]
  have rf3 : zR sF st.1 3 = some (st.1 + 1) := by
    rw [f3 st.1 3 (by omega)]
    have e : zR sA' st.1 3 = zR s0 st.1 3 := by unfold zR; rw [ra.2.2.1]
    rw [← e]; exact c2
  have w1 : 1 ≤ max 1 (min 40 w) ∧ max 1 (min 40 w) ≤ 40 := by omega
  have w2 : 1 ≤ max 1 (min 5 l) ∧ max 1 (min 5 l) ≤ 5 := by omega
  refine ⟨max 1 (min 40 w), max 1 (min 5 l), ct, st.1 + 1, sz, f, ?_, rf3, ?_, ?_, Or.inr (Or.inr ⟨hst, ?_⟩), Or.inr (Or.inr ⟨by omega, ?_⟩), (f6 0).trans s4, (f6 1).trans s5, (f6 2).trans s6, (f6 4).trans c8, w1.1, w1.2, w2.1, w2.2, s3, c9, gd, fun i hi => (f7 i).trans (c10 i hi), Or.inr ⟨act, w, l, ?_, z7, ?_, s1, rfl, ?_, s2, rfl, ?_, ?_, fun i hi => ?_⟩⟩
  · rw [tag]; exact c1
  · rw [tag]; exact c3
  · rw [len]; exact c4
  · rw [f1, m1]; omega
  · rw [f1, m1]; omega
  · rw [k1]; omega
  · rw [q8 _ _ (by omega)]; exact s7
  · rw [q8 _ _ (by omega)]; exact s8
  · rw [q8 _ _ (by omega)]; exact s9
  · rw [q8 _ _ (by omega)]; exact d1
  · rw [q8 _ _ (by omega)]; exact d2 i hi
theorem sch_read {st s0 s : zS} {act L N : Nat} {t : Nat → Nat} (hN : 3000 ≤ N) (hst : 47 ≤ st.1) (ha : act < 5) (n2 : L ≤ 100) (ht : ∀ i, i < L → t i < 128) (hA : TpA s0 L t) (mA : AC s0 st.1 (st.1 + 1) 0 (fun _ => 0)) (v0 : zM s0 st.1 0 = nI 20) (v1 : zM s0 st.1 1 = nI 3) (v2 : zM s0 st.1 2 = nI 0) (hs2 : Sh s) (h2 : ∀ i, i < L → zM s 40 (128 + i) = nI (t i)) : Out3 L t act st.1 (st.1 + 1) N s0 (pre s act L) (f_X6_read N s0 st.1 5) (Option.bind (f_X12_clauseHere N (pre s act L) 39) (fun st => f_X12_school_120 N 39 N st (nI 1))) := by
  obtain ⟨p1, p2⟩ := pre_good hs2 (act := act) ha n2 ht h2
  obtain ⟨w1, w2, w3, w4, w5, w6, w7, w8, w9, w10⟩ := pre_v s act L ha
  have e20 : max 1 (min 40 20) = 20 := by omega
  have e3 : max 1 (min 5 3) = 3 := by omega
  have cs : CS s0 (pre s act L) st.1 act 20 3 0 := ⟨by omega, by omega, by omega, by rw [e20]; exact v0, by rw [e3]; exact v1, v2, w7, w8, w9⟩
  unfold f_X6_read
  exact j_read hN hst (by omega) 9 N N 1 s0 (pre s act L) 0 0 (fun _ => 0) 20 3 0 (by omega) (by omega) (by omega) (by omega) hA mA p1 p2 (by omega) cs rfl
theorem sch_yes {st s0 sA' : zS} {act L N : Nat} {t : Nat → Nat} (h : Inv st) (hact : K st 40 1 = act) (hL : K st 40 6 = L) (hN : 3000 ≤ N) (ha : act < 5) (n2 : L ≤ 100) (ht : ∀ i, i < L → t i < 128) (h2 : ∀ i, i < L → zM st 40 (128 + i) = nI (t i)) (G : Grow st s0) (m1 : s0.1 = st.1 + 2) (hA : TpA s0 L t) (mA : AC s0 st.1 (st.1 + 1) 0 (fun _ => 0)) (v0 : zM s0 st.1 0 = nI 20) (v1 : zM s0 st.1 1 = nI 3) (v2 : zM s0 st.1 2 = nI 0) (ra : RA2 st.1 (st.1 + 1) s0 sA') (hsA : Sh sA') (x1 : f_X6_read N s0 st.1 5 = some (sA', -1)) (b1 : zM st 40 1 = nI act) (b6 : zM st 40 6 = nI L) : ∃ sF, f_X12_school N (stY sA' st.1 act) 39 = some (sF, nI act) ∧ Inv sF := by
  have hst := h.1.1
  obtain ⟨af, y12, y13⟩ := stY_p hsA st.1 act
  obtain ⟨st1, e1⟩ : ∃ s, s = stY sA' st.1 act := ⟨_, rfl⟩
  rw [← e1] at af y12 y13 ⊢
  clear e1
  have hs1 := af.1
  have e40 : ∀ j, zM st1 40 j = zM st 40 j := fun j => (af.2.2.2.1 40 j (by omega) (by omega)).trans ((ra.2.2.2 40 j (by omega) (by omega)).trans ((G.2 40 (by omega)).2.2 j))
  have mp := m_pre hs1 ha ((e40 1).trans b1) ((e40 6).trans b6) N
  obtain ⟨sA2, sB', ra2, rb, y3⟩ := sch_read hN hst ha n2 ht hA mA v0 v1 v2 hs1 (fun i hi => (e40 _).trans (h2 i hi))
  rw [mp]
  rcases y3 with ⟨sz, f, w, l, ct, x2, y2, g, gA, gB, gS, gd⟩ | ⟨n, hn, x2, -⟩
  rotate_left
  · rw [x1] at x2
    exact absurd (Prod.mk.inj (Option.some.inj x2)).2 (by rw [n_m1' (by omega)]; exact id)
  rw [x1] at x2
  have eA := (Prod.mk.inj (Option.some.inj x2)).1
  rw [← eA] at gA gS
  have p401 : zM (pre st1 act L) 40 1 = zM st1 40 1 := by
    unfold pre
    simp (disch := omega) only [zM_PM, if_neg]
  have b401 : zM sB' 40 1 = nI act := (rb.2.2.2 40 1 (by omega) (by omega)).trans (p401.trans ((e40 1).trans b1))
  have z1 : zM (zPM (zPM sB' 40 1 (nI (act + 1))) 40 7 (nI act)) 40 1 = nI (act + 1) := by rw [zM_PM, if_neg (by omega), zM_PM, if_pos ⟨rfl, rfl⟩]
  have z7 : zM (zPM (zPM sB' 40 1 (nI (act + 1))) 40 7 (nI act)) 40 7 = nI act := by rw [zM_PM, if_pos ⟨rfl, rfl⟩]
  have VF : ∀ k j, ¬ (k = 40 ∧ (j = 1 ∨ j = 7)) → zM (zPM (zPM sB' 40 1 (nI (act + 1))) 40 7 (nI act)) k j = zM sB' k j := fun k j u => by rw [zM_PM, if_neg (by omega), zM_PM, if_neg (by omega)]
  have hsF : Sh (zPM (zPM sB' 40 1 (nI (act + 1))) 40 7 (nI act)) := (g.1.1.pm _ _ _).pm _ _ _
  refine ⟨_, y2.trans (s162_yes g b401 N), fin_inv h hact ha G m1 ra af rb rfl rfl rfl VF hsF (by omega) z1 y13 (fun _ _ => ⟨st.1, y12, hold_new ha hst m1 ra af rb rfl rfl rfl VF z1 z7 gA gB gS gd⟩)⟩
theorem sch_no {st s0 sA' : zS} {act L N n : Nat} {t : Nat → Nat} (h : Inv st) (hact : K st 40 1 = act) (hL : K st 40 6 = L) (hN : 3000 ≤ N) (ha : act < 5) (n2 : L ≤ 100) (ht : ∀ i, i < L → t i < 128) (h2 : ∀ i, i < L → zM st 40 (128 + i) = nI (t i)) (G : Grow st s0) (m1 : s0.1 = st.1 + 2) (hA : TpA s0 L t) (mA : AC s0 st.1 (st.1 + 1) 0 (fun _ => 0)) (v0 : zM s0 st.1 0 = nI 20) (v1 : zM s0 st.1 1 = nI 3) (v2 : zM s0 st.1 2 = nI 0) (ra : RA2 st.1 (st.1 + 1) s0 sA') (hsA : Sh sA') (hn : n ≤ 100) (x1 : f_X6_read N s0 st.1 5 = some (sA', nI n)) (b1 : zM st 40 1 = nI act) (b6 : zM st 40 6 = nI L) (b3 : zM st 1 3 = nI act) : ∃ sF, f_X12_school N (zPM sA' 5 1 (nI 0)) 39 = some (sF, -10 - nI n) ∧ Inv sF := by
  have hst := h.1.1
  obtain ⟨hh, e3, e4⟩ := h.2.1.2.2.2.2.2.2.2.2.2.2.2.2.2
  obtain ⟨af, y12, y13⟩ := stN_p hsA
  obtain ⟨st1, e1⟩ : ∃ s, s = zPM sA' 5 1 (nI 0) := ⟨_, rfl⟩
  rw [← e1] at af y12 y13 ⊢
  clear e1
  have hs1 := af.1
  have oldA : ∀ q j, q < 47 → zM sA' q j = zM st q j := fun q j hq => (ra.2.2.2 q j (by omega) (by omega)).trans ((G.2 q (by omega)).2.2 j)
  have e40 : ∀ j, zM st1 40 j = zM st 40 j := fun j => (af.2.2.2.1 40 j (by omega) (by omega)).trans (oldA 40 j (by omega))
  have mp := m_pre hs1 ha ((e40 1).trans b1) ((e40 6).trans b6) N
  obtain ⟨sA2, sF, ra2, rb, y3⟩ := sch_read hN hst ha n2 ht hA mA v0 v1 v2 hs1 (fun i hi => (e40 _).trans (h2 i hi))
  rw [mp]
  rcases y3 with ⟨sz, f, w, l, ct, x2, -⟩ | ⟨n', hn', x2, y2⟩
  · rw [x1] at x2
    exact absurd (Prod.mk.inj (Option.some.inj x2)).2 (by rw [n_m1 (by omega)]; exact id)
  rw [x1] at x2
  have eN := (Prod.mk.inj (Option.some.inj x2)).2
  rw [← eN] at y2
  have hp : Sh (pre st1 act L) := hs1.cc ⟨rfl, rfl, rfl⟩
  have hsF : Sh sF := hp.cc ⟨rb.1, rb.2.1, rb.2.2.1⟩
  have p401 : zM (pre st1 act L) 40 1 = zM st1 40 1 := by
    unfold pre
    simp (disch := omega) only [zM_PM, if_neg]
  have p407 : zM (pre st1 act L) 40 7 = zM st1 40 7 := by
    unfold pre
    simp (disch := omega) only [zM_PM, if_neg]
  have z1 : zM sF 40 1 = nI act := (rb.2.2.2 40 1 (by omega) (by omega)).trans (p401.trans ((e40 1).trans b1))
  have z7 : zM sF 40 7 = zM st 40 7 := (rb.2.2.2 40 7 (by omega) (by omega)).trans (p407.trans (e40 7))
  have k1 : K sF 40 1 = act := K_of z1 (by omega)
  have r12 : zR st1 1 2 = some hh := by
    rw [y12]
    have e : zR sA' 1 2 = zR s0 1 2 := by unfold zR; rw [ra.2.2.1]
    rw [e]; exact ((G.2 1 (by omega)).2.1 2).trans e3
  refine ⟨sF, y2, fin_inv h hact ha G m1 ra af rb rfl rfl rfl (fun _ _ _ => rfl) hsF (by omega) z1 (y13.trans ((oldA 1 3 (by omega)).trans b3)) (fun kp e => ⟨hh, r12, e4.cg2 kp (by omega) (by omega) z7 (fun a j u1 u2 => e j (by unfold SB; omega))⟩)⟩
theorem s_school {st : zS} (h : Inv st) {N : Nat} (hN : 3000 ≤ N) : ∃ (r : Int32) (st1 st2 : zS), (f_X11_school N st 0 = some (st1, r)) ∧ (f_X12_school N st1 39 = some (st2, r)) ∧ Sh st1 ∧ Inv st2 := by
  obtain ⟨hs, ⟨-, ⟨⟨b1, b2⟩, b3⟩, -, -, ⟨⟨n1, n2⟩, n3, n4⟩, -⟩, -⟩ := id h
  obtain ⟨act, hact⟩ : ∃ a, K st 40 1 = a := ⟨_, rfl⟩
  obtain ⟨L, hL⟩ : ∃ a, K st 40 6 = a := ⟨_, rfl⟩
  rw [hact] at b1 b2
  rw [hL] at n1 n2 n4
  rw [b1] at b3
  rw [n1] at n3
  by_cases h5 : act = 5
  · rw [h5] at b1 b3
    refine ⟨-4, st, st, ?_, ?_, hs, h⟩
    · unfold f_X11_school
      simp (disch := omega) only [t0 hs, ↓bs (r0_0 hs), t1 hs, b3, ↓reduceIte, List.mem_singleton, Option.bind_some, if_true, if_false, zM_PM, zLn_PM, zTg_PM, zR_PM, ↓zb, ↓zo, ↓zl, n_lt0, n_le, n_lt, n_eq, n_eq0, n_gt0, n_le0, n_ge0, n_zin, n_nat, nI_add, and_self, true_or, false_or, or_false, if_pos, if_neg, f_in_nI, Nat.reduceAdd]
    · unfold f_X12_school
      simp (disch := omega) only [t39 hs, ↓bs (r39_1 hs), t40 hs, l40 hs, b1, ↓reduceIte, List.mem_singleton, Option.bind_some, if_true, if_false, zM_PM, zLn_PM, zTg_PM, zR_PM, ↓zb, ↓zo, ↓zl, n_lt0, n_le, n_lt, n_eq, n_eq0, n_gt0, n_le0, n_ge0, n_zin, n_nat, nI_add, and_self, true_or, false_or, or_false, if_pos, if_neg, f_in_nI, Nat.reduceAdd]
  have ha : act < 5 := by omega
  obtain ⟨t, htt⟩ : ∃ t : Nat → Nat, ∀ i, t i = (zM st 40 (128 + i)).toNatClampNeg := ⟨_, fun _ => rfl⟩
  have ht : ∀ i, i < L → t i < 128 ∧ zM st 40 (128 + i) = nI (t i) := fun i hi => by
    obtain ⟨j, j1, j2⟩ := (n4 i hi).2
    rw [htt, j2, n_nat (by omega)]
    exact ⟨j1, rfl⟩
  have t2' : ∀ i, i < L → zM st 6 i = nI (t i) := fun i hi => (n4 i hi).1.trans (ht i hi).2
  have ei := x_mk0 st
  obtain ⟨G, m1, mA, v0, v1, v2⟩ := mk0_p st hs.1
  obtain ⟨s0, e0⟩ : ∃ s, s = mk0 st := ⟨_, rfl⟩
  rw [← e0] at ei G m1 mA v0 v1 v2
  clear e0
  have hst := hs.1
  have hs0 := G.sh hs
  have old : ∀ q j, q < 47 → zM s0 q j = zM st q j := fun q j hq => (G.2 q (by omega)).2.2 j
  have hA : TpA s0 L t := ⟨hs0, n2, fun i hi => (ht i hi).1, (old 5 1 (by omega)).trans n3, fun i hi => (old 6 i (by omega)).trans (t2' i hi)⟩
  obtain ⟨sA', sB0, ra, -, w3⟩ := sch_read hN hst ha n2 (fun i hi => (ht i hi).1) hA mA v0 v1 v2 hs0 (fun i hi => (old 40 _ (by omega)).trans (ht i hi).2)
  have hA' := ra.tp (by omega) (by omega) hA
  have hsA := hA'.1
  have a13 : zM sA' 1 3 = nI act := (ra.2.2.2 1 3 (by omega) (by omega)).trans ((old 1 3 (by omega)).trans b3)
  rcases w3 with ⟨sz, f, w, l, ct, x1, -⟩ | ⟨n, hn, x1, -⟩
  · have xe := x_sch_yes hs hs0 hsA ha b3 ei mA.1 x1 a13
    obtain ⟨sF, y1, y2⟩ := sch_yes h hact hL hN ha n2 (fun i hi => (ht i hi).1) (fun i hi => (ht i hi).2) G m1 hA mA v0 v1 v2 ra hsA x1 b1 n1
    exact ⟨_, _, sF, xe, y1, (stY_p hsA st.1 act).1.1, y2⟩
  · have xe := x_sch_no hs hs0 hsA ha hn b3 ei mA.1 x1
    obtain ⟨sF, y1, y2⟩ := sch_no h hact hL hN ha n2 (fun i hi => (ht i hi).1) (fun i hi => (ht i hi).2) G m1 hA mA v0 v1 v2 ra hsA hn x1 b1 n1 b3
    exact ⟨_, _, sF, xe, y1, (stN_p hsA).1.1, y2⟩
