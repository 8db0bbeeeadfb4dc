/-! image and undo: the steps -/
theorem NumR.cp {st st' : zS} {o o' B B' c b cap : Nat} {P P' : Int32 → Prop} (g : NumR st o B c b cap P) (h : NumC st st' o o' (K st B c)) (h2 : zM st' B' c = zM st B c) (h3 : ∀ i, i < cap → zM st' B' (b + i) = zM st B (b + i)) (hP : ∀ x, P x → P' x) : NumR st' o' B' c b cap P' := by
  obtain ⟨⟨g1, g2⟩, g3, g4⟩ := g
  have hk : K st' B' c = K st B c := by unfold K; rw [h2]
  refine ⟨⟨by rw [hk, h2]; exact g1, by rw [hk]; exact g2⟩, by rw [h.1, h2]; exact g3, fun i hi => ?_⟩
  rw [hk] at hi
  rw [h.2 i hi, h3 i (by omega)]
  exact ⟨(g4 i hi).1, hP _ (g4 i hi).2⟩
theorem DeskR.cp {st st' : zS} {D E BD BE : Nat} (g : DeskR st E BE) (h : Kept st st') (hr : ∀ j, j < 6 → zR st' (D + 1) j = zR st (E + 1) j) (hr2 : zR st' D 2 = zR st E 2) (hB : ∀ j, j < 948 → zM st' BD j = zM st BE j) (m1 : zM st' D 1 = zM st E 1) (m3 : zM st' D 3 = zM st E 3) (m6 : zM st' D 6 = zM st E 6) (m7 : zM st' D 7 = zM st E 7) (k1 : NumC st st' (E + 4) (D + 4) (K st BE 6)) (k2 : NumC st st' (E + 6) (D + 6) (K st BE 8)) (k3 : NumC st st' (E + 8) (D + 8) (K st BE 2)) (k4 : NumC st st' (E + 10) (D + 10) (K st BE 3)) (k5 : NumC st st' (E + 12) (D + 12) (K st BE 4)) (k6 : NumC st st' (E + 14) (D + 14) (K st BE 5)) (k7 : NumC st st' (E + 16) (D + 16) (K st BE 5)) : DeskR st' D BD := by
  obtain ⟨⟨⟨a1, a2⟩, a3⟩, ⟨⟨b1, b2⟩, b3⟩, c1, c2, n1, n2, n3, n4, n5, n6, n7, e1, e2, hh, e3, e4⟩ := g
  have hk : ∀ c, c < 948 → K st' BD c = K st BE c := fun c hc => by unfold K; rw [hB c hc]
  have hW : ∀ x, WayE st BE x → WayE st' BD x := fun x hx => by unfold WayE; rw [hk _ (by omega)]; exact hx
  have hU : ∀ x, Upto (K st BE 8) x → Upto (K st' BD 8) x := fun x hx => by rw [hk _ (by omega)]; exact hx
  have l3 := n3.1.2
  refine ⟨⟨⟨by rw [hk _ (by omega), hB _ (by omega)]; exact a1, by rw [hk _ (by omega)]; exact a2⟩, by rw [m1, hB _ (by omega)]; exact a3⟩, ⟨⟨by rw [hk _ (by omega), hB _ (by omega)]; exact b1, by rw [hk _ (by omega)]; exact b2⟩, by rw [m3, hB _ (by omega)]; exact b3⟩, by rw [m6, hB _ (by omega)]; exact c1, by rw [m7, hB _ (by omega)]; exact c2, n1.cp k1 (hB _ (by omega)) (fun i hi => hB _ (by omega)) (fun _ q => q), n2.cp k2 (hB _ (by omega)) (fun i hi => hB _ (by omega)) hW, n3.cp k3 (hB _ (by omega)) (fun i hi => hB _ (by omega)) (fun _ q => q), n4.cp k4 (hB _ (by omega)) (fun i hi => hB _ (by omega)) hU, n5.cp k5 (hB _ (by omega)) (fun i hi => hB _ (by omega)) (fun _ q => q), n6.cp k6 (hB _ (by omega)) (fun i hi => hB _ (by omega)) (fun _ q => q), n7.cp k7 (hB _ (by omega)) (fun i hi => hB _ (by omega)) hW, fun i j hi hj he => ?_, fun w hw => ?_, hh, by rw [hr2]; exact e3, e4.cg h (by rw [hk _ (by omega)]; exact Nat.le_refl _) b2 (fun j hj => hB j (by omega))⟩
  · rw [hk _ (by omega)] at hi hj; rw [hB _ (by omega), hB _ (by omega)] at he; exact e1 i j hi hj he
  · rw [hk _ (by omega)] at hw
    obtain ⟨a, q1, q2⟩ := e2 w hw
    exact ⟨a, by rw [hr w (by omega)]; exact q1, q2.cg h (fun j hj => hB j (by omega))⟩
def mpX (s : zS) (a b : Nat) : Nat → zS
  | 0 => s
  | i + 1 => zPM (mpX s a b i) a i (zM s b i)
theorem mpX_c (s : zS) (a b : Nat) : ∀ n, (mpX s a b n).1 = s.1 ∧ (mpX s a b n).2.1 = s.2.1 ∧ (mpX s a b n).2.2.2 = s.2.2.2
  | 0 => ⟨rfl, rfl, rfl⟩
  | n + 1 => mpX_c s a b n
theorem mpX_m (s : zS) (a b k j : Nat) : ∀ n, zM (mpX s a b n) k j = if k = a ∧ j < n then zM s b j else zM s k j
  | 0 => by rw [if_neg (by omega)]; rfl
  | n + 1 => by
    show zM (zPM (mpX s a b n) a n (zM s b n)) k j = _
    rw [zM_PM]
    by_cases c : k = a ∧ j = n
    · rw [if_pos c, if_pos (by omega), c.2]
    · rw [if_neg c, mpX_m s a b k j n]
      by_cases d : k = a ∧ j < n
      · rw [if_pos d, if_pos (by omega)]
      · rw [if_neg d, if_neg (by omega)]
theorem m_img {s : zS} (hs : Sh s) {L : Nat} (hL : L = 948) (N : Nat) : ∀ k fuel i, i + k = L → k < fuel → f_X12_image_2 N 39 fuel (mpX s 41 40 i) (nI i) = some (zPM (mpX s 41 40 L) 39 3 (nI 1), zM s 40 0) := by
  intro k
  induction k with
  | zero =>
    intro fuel i g1 g2
    obtain ⟨fuel, rfl⟩ : ∃ m, fuel = m + 1 := ⟨fuel - 1, by omega⟩
    have hi : L = i := by omega
    subst hi
    have h := hs.cc (mpX_c s 41 40 L)
    have e : zM (mpX s 41 40 L) 40 0 = zM s 40 0 := by rw [mpX_m, if_neg (by omega)]
    rw [f_X12_image_2]
    generalize mpX s 41 40 L = w at *
    simp (disch := omega) only [e, ↓reduceIte, List.mem_singleton, Option.bind_some, if_true, if_false, zM_PM, zLn_PM, zTg_PM, zR_PM, ↓zb, ↓zo, ↓zl, n_lt0, n_le, n_lt, n_eq, n_eq0, n_gt0, n_le0, n_ge0, n_zin, n_nat, nI_add, and_self, true_or, false_or, or_false, if_pos, if_neg, f_in_nI, Nat.reduceAdd, t39 h, ↓bs (r39_1 h), t40 h, l40 h]
  | succ k ih =>
    intro fuel i g1 g2
    obtain ⟨fuel, rfl⟩ : ∃ m, fuel = m + 1 := ⟨fuel - 1, by omega⟩
    have e2 := ih fuel (i + 1) (by omega) (by omega)
    have h := hs.cc (mpX_c s 41 40 i)
    have e : zM (mpX s 41 40 i) 40 i = zM s 40 i := by rw [mpX_m, if_neg (by omega)]
    clear ih
    rw [← e2, f_X12_image_2]
    show _ = f_X12_image_2 N 39 fuel (zPM (mpX s 41 40 i) 41 i (zM s 40 i)) (nI (i + 1))
    generalize mpX s 41 40 i = w at *
    simp (disch := omega) only [e, ↓reduceIte, List.mem_singleton, Option.bind_some, if_true, if_false, zM_PM, zLn_PM, zTg_PM, zR_PM, ↓zb, ↓zo, ↓zl, n_lt0, n_le, n_lt, n_eq, n_eq0, n_gt0, n_le0, n_ge0, n_zin, n_nat, nI_add, and_self, true_or, false_or, or_false, if_pos, if_neg, f_in_nI, Nat.reduceAdd, t39 h, ↓bs (r39_1 h), ↓bs (r39_2 h), t40 h, l40 h, t41 h, l41 h]
theorem m_und {s : zS} (hs : Sh s) {L : Nat} (hL : L = 948) (N : Nat) : ∀ k fuel i, i + k = L → k < fuel → f_X12_undo_12 N 39 fuel (mpX s 40 41 i) (nI i) = some (mpX s 40 41 L, zM s 41 0) := by
  intro k
  induction k with
  | zero =>
    intro fuel i g1 g2
    obtain ⟨fuel, rfl⟩ : ∃ m, fuel = m + 1 := ⟨fuel - 1, by omega⟩
    have hi : L = i := by omega
    subst hi
    have h := hs.cc (mpX_c s 40 41 L)
    have e : zM (mpX s 40 41 L) 40 0 = zM s 41 0 := by rw [mpX_m, if_pos (by omega)]
    rw [f_X12_undo_12]
    generalize mpX s 40 41 L = w at *
    simp (disch := omega) only [e, ↓reduceIte, List.mem_singleton, Option.bind_some, if_true, if_false, zM_PM, zLn_PM, zTg_PM, zR_PM, ↓zb, ↓zo, ↓zl, n_lt0, n_le, n_lt, n_eq, n_eq0, n_gt0, n_le0, n_ge0, n_zin, n_nat, nI_add, and_self, true_or, false_or, or_false, if_pos, if_neg, f_in_nI, Nat.reduceAdd, t39 h, ↓bs (r39_1 h), t40 h, l40 h]
  | succ k ih =>
    intro fuel i g1 g2
    obtain ⟨fuel, rfl⟩ : ∃ m, fuel = m + 1 := ⟨fuel - 1, by omega⟩
    have e2 := ih fuel (i + 1) (by omega) (by omega)
    have h := hs.cc (mpX_c s 40 41 i)
    have e : zM (mpX s 40 41 i) 41 i = zM s 41 i := by rw [mpX_m, if_neg (by omega)]
    clear ih
    rw [← e2, f_X12_undo_12]
    show _ = f_X12_undo_12 N 39 fuel (zPM (mpX s 40 41 i) 40 i (zM s 41 i)) (nI (i + 1))
    generalize mpX s 40 41 i = w at *
    simp (disch := omega) only [e, ↓reduceIte, List.mem_singleton, Option.bind_some, if_true, if_false, zM_PM, zLn_PM, zTg_PM, zR_PM, ↓zb, ↓zo, ↓zl, n_lt0, n_le, n_lt, n_eq, n_eq0, n_gt0, n_le0, n_ge0, n_zin, n_nat, nI_add, and_self, true_or, false_or, or_false, if_pos, if_neg, f_in_nI, Nat.reduceAdd, t39 h, ↓bs (r39_1 h), ↓bs (r39_2 h), t40 h, l40 h, t41 h, l41 h]
theorem s_image {st : zS} (h : Inv st) {N : Nat} (hN : 3000 ≤ N)  : ∃ (r : Int32) (st1 st2 : zS), (f_X11_image N st 0 = some (st1, r)) ∧ (f_X12_image N st1 39 = some (st2, r)) ∧ Sh st1 ∧ Inv st2 := by
  obtain ⟨L, hL⟩ : ∃ n, n = 948 := ⟨948, rfl⟩
  obtain ⟨hs, g2, g3, g4, g5, n, g6, g7, g8⟩ := id h
  obtain ⟨⟨⟨a1, a2⟩, a3⟩, ⟨⟨b1, b2⟩, b3⟩, c1, c2, n1, n2, n3, n4, n5, n6, n7, e1, e2, hh, e3, e4⟩ := id g2
  obtain ⟨s', q1, q2, q3, q4, q5, q6, q7, q8, q9, q10, k1, k2, k3, k4, k5, k6, k7⟩ := copy_all hs (D := 19) (E := 1) (Or.inr ⟨rfl, rfl⟩) hN e3 (n1.2.1.trans n1.1.1) (n2.2.1.trans n2.1.1) (n3.2.1.trans n3.1.1) (n4.2.1.trans n4.1.1) (n5.2.1.trans n5.1.1) (n6.2.1.trans n6.1.1) (n7.2.1.trans n7.1.1) n1.1.2 n2.1.2 n3.1.2 n4.1.2 n5.1.2 n6.1.2 n7.1.2
  have hs1 : Sh (zPM s' 0 2 (nI 1)) := q2.pm _ _ _
  have w1 : zM s' 1 1 = zM st 40 0 := (q6 1 1 (by omega)).trans a3
  have m40 : ∀ j, zM (zPM s' 0 2 (nI 1)) 40 j = zM st 40 j := fun j => by rw [zM_PM, if_neg (by omega)]; exact q6 40 j (by omega)
  have mi := m_img hs1 hL N L N 0 (by omega) (by omega)
  have mi' : f_X12_image N (zPM s' 0 2 (nI 1)) 39 = _ := mi
  refine ⟨zM st 40 0, zPM s' 0 2 (nI 1), zPM (mpX (zPM s' 0 2 (nI 1)) 41 40 L) 39 3 (nI 1), ?_, ?_, hs1, ?_⟩
  · unfold f_X11_image f_X2_wayCount
    clear e2 n1 n2 n3 n4 n5 n6 n7 q5 q6 k1 k2 k3 k4 k5 k6 k7 g8 mi mi' m40
    simp only [t0 hs, ↓bs (r0_0 hs), ↓bs (r0_1 hs), t19 hs, ↓bs q1, t0 q2, zTg_PM, zR_PM, ↓bs (r0_0 q2), t1 q2, zM_PM, Nat.one_ne_zero, false_and, w1, Option.bind_some, List.mem_singleton, ↓reduceIte]
  · rw [mi', m40]
  · have C := mpX_c (zPM s' 0 2 (nI 1)) 41 40 L
    have V : ∀ k j, zM (zPM (mpX (zPM s' 0 2 (nI 1)) 41 40 L) 39 3 (nI 1)) k j = if k = 39 ∧ j = 3 then nI 1 else if k = 41 ∧ j < L then zM st 40 j else if k = 0 ∧ j = 2 then nI 1 else zM s' k j := fun k j => by
      rw [zM_PM, mpX_m, m40, zM_PM]
    have R : ∀ k j, zR (zPM (mpX (zPM s' 0 2 (nI 1)) 41 40 L) 39 3 (nI 1)) k j = zR s' k j := fun k j => by
      rw [zR_PM]; unfold zR; rw [C.2.2]; rfl
    have sh : Sh (zPM (mpX (zPM s' 0 2 (nI 1)) 41 40 L) 39 3 (nI 1)) := (hs1.cc C).pm _ _ _
    have o1 : (zPM (mpX (zPM s' 0 2 (nI 1)) 41 40 L) 39 3 (nI 1)).1 = st.1 := C.1.trans q3
    have o2 : (zPM (mpX (zPM s' 0 2 (nI 1)) 41 40 L) 39 3 (nI 1)).2.1 = st.2.1 := C.2.1.trans q4
    clear mi mi' C
    generalize zPM (mpX (zPM s' 0 2 (nI 1)) 41 40 L) 39 3 (nI 1) = sF at *
    have VV : ∀ k j, k ≠ 0 → k ≠ 39 → k ≠ 41 → zM sF k j = zM s' k j := fun k j u1 u2 u3 => by rw [V, if_neg (by omega), if_neg (by omega), if_neg (by omega)]
    have kp : Kept st sF := ⟨by rw [o1]; exact Nat.le_refl _, fun k hk => ⟨by rw [o2], fun j => by rw [R, q5, if_neg (by unfold Dyn at hk; omega), if_neg (by unfold Dyn at hk; omega)], fun j => by
      have h1 := hs.1
      rw [VV k j (by unfold Dyn at hk; omega) (by unfold Dyn at hk; omega) (by unfold Dyn at hk; omega)]
      exact q6 k j (by unfold Dyn at hk; omega)⟩⟩
    have cv : ∀ o o' n, 19 ≤ o' → o' + 1 ≤ 36 → NumC st s' o o' n → NumC st sF o o' n := fun o o' n u1 u2 q => ⟨by rw [VV _ _ (by omega) (by omega) (by omega)]; exact q.1, fun i hi => by rw [VV _ _ (by omega) (by omega) (by omega)]; exact q.2 i hi⟩
    have d1 : DeskR sF 1 40 := g2.cg kp (fun j => by rw [R, q5, if_neg (by omega), if_neg (by omega)]) (by rw [R, q5, if_neg (by omega), if_neg (by omega)]) (fun k j u1 u2 => by rw [VV k j (by omega) (by omega) (by omega)]; exact q6 k j (by omega)) (fun j => by rw [VV 40 j (by omega) (by omega) (by omega)]; exact q6 40 j (by omega))
    have d2 : DeskR sF 19 41 := g2.cp kp (fun j hj => by rw [R, q5, if_neg (by omega), if_pos ⟨rfl, hj⟩]) (by rw [R, q5, if_pos ⟨rfl, rfl⟩, e3]) (fun j hj => by rw [V, if_neg (by omega), if_pos ⟨rfl, by omega⟩]) (by rw [VV 19 1 (by omega) (by omega) (by omega)]; exact q7) (by rw [VV 19 3 (by omega) (by omega) (by omega)]; exact q8) (by rw [VV 19 6 (by omega) (by omega) (by omega)]; exact q9) (by rw [VV 19 7 (by omega) (by omega) (by omega)]; exact q10) (cv _ _ _ (by omega) (by omega) k1) (cv _ _ _ (by omega) (by omega) k2) (cv _ _ _ (by omega) (by omega) k3) (cv _ _ _ (by omega) (by omega) k4) (cv _ _ _ (by omega) (by omega) k5) (cv _ _ _ (by omega) (by omega) k6) (cv _ _ _ (by omega) (by omega) k7)
    have v393 : zM sF 39 3 = nI 1 := by rw [V, if_pos ⟨rfl, rfl⟩]
    have v3920 : zM sF 39 20 = zM st 39 20 := by rw [V, if_neg (by omega), if_neg (by omega), if_neg (by omega)]; exact q6 39 20 (by omega)
    refine ⟨sh, d1, by rw [v393, V, if_neg (by omega), if_neg (by omega), if_pos ⟨rfl, rfl⟩], Or.inr ⟨v393, d2⟩, ?_, n, g6, v3920.trans g7, fun i u1 u2 => ?_⟩
    · rw [v3920, VV 37 1 (by omega) (by omega) (by omega), q6 37 1 (by omega)]; exact g5
    · rw [VV 38 i (by omega) (by omega) (by omega), VV 46 i (by omega) (by omega) (by omega), q6 38 i (by omega), q6 46 i (by omega)]
      exact g8 i u1 u2
theorem s_undo {st : zS} (h : Inv st) {N : Nat} (hN : 3000 ≤ N)  : ∃ (r : Int32) (st1 st2 : zS), (f_X11_undo N st 0 = some (st1, r)) ∧ (f_X12_undo N st1 39 = some (st2, r)) ∧ Sh st1 ∧ Inv st2 := by
  obtain ⟨L, hL⟩ : ∃ n, n = 948 := ⟨948, rfl⟩
  obtain ⟨hs, g2', g3, g4, g5, n, g6, g7, g8⟩ := id h
  rcases g4 with z | ⟨z, g2⟩
  · refine ⟨-3, st, st, ?_, ?_, hs, h⟩
    · unfold f_X11_undo
      simp only [t0 hs, g3, z, show (nI 0 = 0) = True by decide, List.mem_singleton, ↓reduceIte]
    · unfold f_X12_undo
      simp only [t39 hs, z, show (nI 0 = 0) = True by decide, List.mem_singleton, ↓reduceIte]
  · obtain ⟨⟨⟨a1, a2⟩, a3⟩, ⟨⟨b1, b2⟩, b3⟩, c1, c2, n1, n2, n3, n4, n5, n6, n7, e1, e2, hh, e3, e4⟩ := id g2
    obtain ⟨s', q1, q2, q3, q4, q5, q6, q7, q8, q9, q10, k1, k2, k3, k4, k5, k6, k7⟩ := copy_all hs (D := 1) (E := 19) (Or.inl ⟨rfl, rfl⟩) hN e3 (n1.2.1.trans n1.1.1) (n2.2.1.trans n2.1.1) (n3.2.1.trans n3.1.1) (n4.2.1.trans n4.1.1) (n5.2.1.trans n5.1.1) (n6.2.1.trans n6.1.1) (n7.2.1.trans n7.1.1) n1.1.2 n2.1.2 n3.1.2 n4.1.2 n5.1.2 n6.1.2 n7.1.2
    have w1 : zM s' 1 1 = zM st 41 0 := q7.trans a3
    have m41 : ∀ j, zM s' 41 j = zM st 41 j := fun j => q6 41 j (by omega)
    have mi := m_und q2 hL N L N 0 (by omega) (by omega)
    have z1 : (nI 1 = 0) = False := by decide
    have mi' : f_X12_undo N s' 39 = some (mpX s' 40 41 L, zM s' 41 0) := by
      unfold f_X12_undo
      simp only [t39 q2, q6 39 3 (by omega), z, z1, List.mem_singleton, ↓reduceIte]
      exact mi
    refine ⟨zM st 41 0, s', mpX s' 40 41 L, ?_, ?_, q2, ?_⟩
    · unfold f_X11_undo f_X2_wayCount
      clear e2 n1 n2 n3 n4 n5 n6 n7 q5 q6 k1 k2 k3 k4 k5 k6 k7 g8 mi mi' m41
      simp only [t0 hs, g3, z, z1, ↓bs (r0_0 hs), ↓bs (r0_1 hs), t1 hs, ↓bs q1, t0 q2, ↓bs (r0_0 q2), t1 q2, w1, Option.bind_some, List.mem_singleton, ↓reduceIte]
    · rw [mi', m41]
    · have C := mpX_c s' 40 41 L
      have V : ∀ k j, zM (mpX s' 40 41 L) k j = if k = 40 ∧ j < L then zM st 41 j else zM s' k j := fun k j => by
        rw [mpX_m, m41]
      have R : ∀ k j, zR (mpX s' 40 41 L) k j = zR s' k j := fun k j => by
        unfold zR; rw [C.2.2]
      have sh : Sh (mpX s' 40 41 L) := q2.cc C
      have o1 : (mpX s' 40 41 L).1 = st.1 := C.1.trans q3
      have o2 : (mpX s' 40 41 L).2.1 = st.2.1 := C.2.1.trans q4
      clear mi mi' C
      generalize mpX s' 40 41 L = sF at *
      have VV : ∀ k j, k ≠ 40 → zM sF k j = zM s' k j := fun k j u1 => by rw [V, if_neg (by omega)]
      have kp : Kept st sF := ⟨by rw [o1]; exact Nat.le_refl _, fun k hk => ⟨by rw [o2], fun j => by rw [R, q5, if_neg (by unfold Dyn at hk; omega), if_neg (by unfold Dyn at hk; omega)], fun j => by
        rw [VV k j (by unfold Dyn at hk; omega)]
        exact q6 k j (by unfold Dyn at hk; omega)⟩⟩
      have cv : ∀ o o' n, o' + 1 ≤ 36 → NumC st s' o o' n → NumC st sF o o' n := fun o o' n u2 q => ⟨by rw [VV _ _ (by omega)]; exact q.1, fun i hi => by rw [VV _ _ (by omega)]; exact q.2 i hi⟩
      have d2 : DeskR sF 19 41 := g2.cg kp (fun j => by rw [R, q5, if_neg (by omega), if_neg (by omega)]) (by rw [R, q5, if_neg (by omega), if_neg (by omega)]) (fun k j u1 u2 => by rw [VV k j (by omega)]; exact q6 k j (by omega)) (fun j => by rw [VV 41 j (by omega)]; exact q6 41 j (by omega))
      have d1 : DeskR sF 1 40 := g2.cp kp (fun j hj => by rw [R, q5, if_neg (by omega), if_pos ⟨rfl, hj⟩]) (by rw [R, q5, if_pos ⟨rfl, rfl⟩, e3]) (fun j hj => by rw [V, if_pos ⟨rfl, by omega⟩]) (by rw [VV 1 1 (by omega)]; exact q7) (by rw [VV 1 3 (by omega)]; exact q8) (by rw [VV 1 6 (by omega)]; exact q9) (by rw [VV 1 7 (by omega)]; exact q10) (cv _ _ _ (by omega) k1) (cv _ _ _ (by omega) k2) (cv _ _ _ (by omega) k3) (cv _ _ _ (by omega) k4) (cv _ _ _ (by omega) k5) (cv _ _ _ (by omega) k6) (cv _ _ _ (by omega) k7)
      have v393 : zM sF 39 3 = zM st 39 3 := (VV 39 3 (by omega)).trans (q6 39 3 (by omega))
      have v3920 : zM sF 39 20 = zM st 39 20 := (VV 39 20 (by omega)).trans (q6 39 20 (by omega))
      refine ⟨sh, d1, by rw [v393, VV 0 2 (by omega), q6 0 2 (by omega)]; exact g3, Or.inr ⟨v393.trans z, d2⟩, ?_, n, g6, v3920.trans g7, fun i u1 u2 => ?_⟩
      · rw [v3920, VV 37 1 (by omega), q6 37 1 (by omega)]; exact g5
      · rw [VV 38 i (by omega), VV 46 i (by omega), q6 38 i (by omega), q6 46 i (by omega)]
        exact g8 i u1 u2
