/-! write -/
def wrX (st : zS) (m : Nat) (a : Int32) : Nat → zS
  | 0 => st
  | i + 1 => zPM (zPM (wrX st m a i) 8 (m + i) a) 7 1 (nI (m + i + 1))
def wrM (st : zS) (m : Nat) (a : Int32) : Nat → zS
  | 0 => st
  | i + 1 => zPM (wrM st m a i) 40 (53 + m + i) a
theorem wrX_c (st : zS) (m : Nat) (a : Int32) : ∀ n, (wrX st m a n).1 = st.1 ∧ (wrX st m a n).2.1 = st.2.1 ∧ (wrX st m a n).2.2.2 = st.2.2.2
  | 0 => ⟨rfl, rfl, rfl⟩
  | n + 1 => wrX_c st m a n
theorem wrM_c (st : zS) (m : Nat) (a : Int32) : ∀ n, (wrM st m a n).1 = st.1 ∧ (wrM st m a n).2.1 = st.2.1 ∧ (wrM st m a n).2.2.2 = st.2.2.2
  | 0 => ⟨rfl, rfl, rfl⟩
  | n + 1 => wrM_c st m a n
theorem Sh.cc {st st' : zS} (h : Sh st) (c : st'.1 = st.1 ∧ st'.2.1 = st.2.1 ∧ st'.2.2.2 = st.2.2.2) : Sh st' :=
  ⟨by rw [c.1]; exact h.1, fun k hk => by rw [c.2.1]; exact h.2.1 k hk, fun q hq => by unfold zR; rw [c.2.2]; exact h.2.2.1 q hq, fun k hk j hj a q => by
    unfold zR at q; rw [c.2.2] at q
    have e : zTg st' a = zTg st a := by unfold zTg; rw [c.2.1]
    rw [c.1, e]; exact h.2.2.2 k hk j hj a q⟩
theorem wrX_m (st : zS) (m : Nat) (a : Int32) (k j : Nat) : ∀ n, zM (wrX st m a n) k j = if k = 8 ∧ m ≤ j ∧ j < m + n then a else if k = 7 ∧ j = 1 ∧ 0 < n then nI (m + n) else zM st k j
  | 0 => by rw [if_neg (by omega), if_neg (by omega)]; rfl
  | n + 1 => by
    show zM (zPM (zPM (wrX st m a n) 8 (m + n) a) 7 1 (nI (m + n + 1))) k j = _
    rw [zM_PM, zM_PM, wrX_m st m a k j n]
    by_cases h7 : k = 7 ∧ j = 1
    · rw [if_pos h7, if_neg (by omega), if_pos (by omega)]; rfl
    · rw [if_neg h7]
      by_cases h8 : k = 8 ∧ j = m + n
      · rw [if_pos h8, if_pos (by omega)]
      · rw [if_neg h8]
        by_cases h9 : k = 8 ∧ m ≤ j ∧ j < m + n
        · rw [if_pos h9, if_pos (by omega)]
        · rw [if_neg h9, if_neg (by omega), if_neg (by omega), if_neg (by omega)]
theorem wrM_m (st : zS) (m : Nat) (a : Int32) (k j : Nat) : ∀ n, zM (wrM st m a n) k j = if k = 40 ∧ 53 + m ≤ j ∧ j < 53 + m + n then a else zM st k j
  | 0 => by rw [if_neg (by omega)]; rfl
  | n + 1 => by
    show zM (zPM (wrM st m a n) 40 (53 + m + n) a) k j = _
    rw [zM_PM, wrM_m st m a k j n]
    by_cases h8 : k = 40 ∧ j = 53 + m + n
    · rw [if_pos h8, if_pos (by omega)]
    · rw [if_neg h8]
      by_cases h9 : k = 40 ∧ 53 + m ≤ j ∧ j < 53 + m + n
      · rw [if_pos h9, if_pos (by omega)]
      · rw [if_neg h9, if_neg (by omega)]
theorem inv_write {st : zS} (h : Inv st) {m n : Nat} (hm : K st 40 8 = m) (hn : 1 ≤ n) (hf : m + n ≤ 40) (a : Int32) (hw : WayE st 40 a) (x6 x7 : Int32) {stB : zS} (hc : stB.1 = st.1 ∧ stB.2.1 = st.2.1 ∧ stB.2.2.2 = st.2.2.2) (c : ∀ k j, zM stB k j = if k = 8 ∧ m ≤ j ∧ j < m + n then a else if k = 7 ∧ j = 1 then nI (m + n) else if k = 1 ∧ j = 6 then x6 else if k = 1 ∧ j = 7 then x7 else if k = 40 ∧ 53 + m ≤ j ∧ j < 53 + m + n then a else if k = 40 ∧ j = 8 then nI (m + n) else if k = 40 ∧ j = 9 then x6 else if k = 40 ∧ j = 10 then x7 else zM st k j) : Inv stB := by
  obtain ⟨hs, ⟨⟨⟨a1, a2⟩, a3⟩, ⟨⟨b1, b2⟩, b3⟩, c1, c2, n1, n2, n3, n4, n5, n6, n7, e1, e2, hh, e3, e4⟩, g3, g4, g5, gn⟩ := id h
  have k8 : K stB 40 8 = m + n := K_of (by simp (disch := omega) only [c, if_neg, if_pos, and_self, if_true]) (by omega)
  refine Inv.num h hc.1 hc.2.1 hc.2.2 (fun k j q1 q2 q3 => by simp (disch := omega) only [c, if_neg]) (fun j q1 => by simp (disch := omega) only [c, if_neg]) (by simp (disch := omega) only [c, if_neg, if_pos, and_self, if_true]) (by simp (disch := omega) only [c, if_neg, if_pos, and_self, if_true]) ?_ ?_ ?_ ?_ ?_ ?_ ?_ ?_
  · exact n1.cg (by simp (disch := omega) only [c, if_neg]) (fun i hi => by simp (disch := omega) only [c, if_neg]) (by simp (disch := omega) only [c, if_neg]) (fun i hi => by simp (disch := omega) only [c, if_neg]) (fun _ q => q)
  · obtain ⟨⟨q1, q2⟩, q3, q4⟩ := n2
    refine ⟨⟨by rw [k8]; simp (disch := omega) only [c, if_neg, if_pos, and_self, if_true], by rw [k8]; omega⟩, by simp (disch := omega) only [c, if_neg, if_pos, and_self, if_true], fun i hi => ?_⟩
    rw [k8] at hi
    by_cases hi2 : i < m
    · have q5 := q4 i (by rw [hm]; exact hi2)
      have r1 : zM stB (7 + 1) i = zM st 8 i := by simp (disch := omega) only [c, if_neg]
      have r2 : zM stB 40 (53 + i) = zM st 40 (53 + i) := by simp (disch := omega) only [c, if_neg]
      rw [r1, r2]
      exact q5
    · have r1 : zM stB (7 + 1) i = a := by rw [c, if_pos (by omega)]
      have r2 : zM stB 40 (53 + i) = a := by rw [c, if_neg (by omega), if_neg (by omega), if_neg (by omega), if_neg (by omega), if_pos (by omega)]
      rw [r1, r2]
      exact ⟨rfl, hw⟩
  · exact n3.cg (by simp (disch := omega) only [c, if_neg]) (fun i hi => by simp (disch := omega) only [c, if_neg]) (by simp (disch := omega) only [c, if_neg]) (fun i hi => by simp (disch := omega) only [c, if_neg]) (fun _ q => q)
  · exact n4.cg (by simp (disch := omega) only [c, if_neg]) (fun i hi => by simp (disch := omega) only [c, if_neg]) (by simp (disch := omega) only [c, if_neg]) (fun i hi => by simp (disch := omega) only [c, if_neg]) (fun x q => by
      obtain ⟨j, q1, q2⟩ := q
      exact ⟨j, by rw [k8]; omega, q2⟩)
  · exact n5.cg (by simp (disch := omega) only [c, if_neg]) (fun i hi => by simp (disch := omega) only [c, if_neg]) (by simp (disch := omega) only [c, if_neg]) (fun i hi => by simp (disch := omega) only [c, if_neg]) (fun _ q => q)
  · exact n6.cg (by simp (disch := omega) only [c, if_neg]) (fun i hi => by simp (disch := omega) only [c, if_neg]) (by simp (disch := omega) only [c, if_neg]) (fun i hi => by simp (disch := omega) only [c, if_neg]) (fun _ q => q)
  · exact n7.cg (by simp (disch := omega) only [c, if_neg]) (fun i hi => by simp (disch := omega) only [c, if_neg]) (by simp (disch := omega) only [c, if_neg]) (fun i hi => by simp (disch := omega) only [c, if_neg]) (fun _ q => q)
  · rw [K_eq (st := st) (by simp (disch := omega) only [c, if_neg])]
    intro i j hi hj he
    have hb := n3.1.2
    simp (disch := omega) only [c, if_neg] at he
    exact e1 i j hi hj he
theorem x_wr {st : zS} (hs : Sh st) {m n : Nat} (hm : zM st 7 1 = nI m) (hf : m + n ≤ 40) (a : Int32) (N : Nat) : ∀ k fuel i, i + k = n → k < fuel → f_X11_write_53 N 0 a (nI n) fuel (wrX st m a i) (nI i) = f_X11_write_53 N 0 a (nI n) 1 (wrX st m a n) (nI n) := by
  intro k
  induction k with
  | zero =>
    intro fuel i h1 h2
    obtain ⟨fuel, rfl⟩ : ∃ q, fuel = q + 1 := ⟨fuel - 1, by omega⟩
    have hi : i = n := by omega
    subst hi
    have c : nI i ≤ nI i := by rw [n_le (by omega) (by omega)]; omega
    rw [f_X11_write_53, f_X11_write_53, if_pos c, if_pos c]
  | succ k ih =>
    intro fuel i h1 h2
    obtain ⟨fuel, rfl⟩ : ∃ q, fuel = q + 1 := ⟨fuel - 1, by omega⟩
    have e2 := ih fuel (i + 1) (by omega) (by omega)
    clear ih
    rw [← e2, f_X11_write_53]
    have hs2 : Sh (wrX st m a i) := hs.cc (wrX_c st m a i)
    have e3 : zM (wrX st m a i) 7 1 = nI (m + i) := by
      rw [wrX_m]
      by_cases hi : i = 0
      · subst hi; rw [if_neg (by omega), if_neg (by omega)]; exact hm
      · rw [if_neg (by omega), if_pos (by omega)]
    have e1 := f_add (ns7 hs2) e3 (by omega) (by omega) a
    rw [if_pos (by omega)] at e1
    simp (disch := omega) only [↓bs e1, ↓reduceIte, List.mem_singleton, Option.bind_some, if_true, if_false, zM_PM, zLn_PM, zTg_PM, zR_PM, ↓zb, ↓zo, ↓zl, n_lt0, n_le, n_lt, n_eq, n_eq0, n_gt0, n_le0, n_ge0, n_zin, n_nat, nI_add, and_self, true_or, false_or, or_false, if_pos, if_neg, f_in_nI, Nat.reduceAdd, t0 hs2, ↓bs (r0_0 hs2), t1 hs2, ↓bs (r1_5 hs2), t7 hs2]
    rfl
theorem m_wr {st : zS} (hs : Sh st) {m n : Nat} (hm : zM st 40 8 = nI m) (hf : m + n ≤ 40) (a : Int32) (N : Nat) : ∀ k fuel i, i + k = n → k < fuel → f_X12_write_47 N 39 a (nI n) fuel (wrM st m a i) (nI i) = f_X12_write_47 N 39 a (nI n) 1 (wrM st m a n) (nI n) := by
  intro k
  induction k with
  | zero =>
    intro fuel i h1 h2
    obtain ⟨fuel, rfl⟩ : ∃ q, fuel = q + 1 := ⟨fuel - 1, by omega⟩
    have hi : i = n := by omega
    subst hi
    have c : nI i ≤ nI i := by rw [n_le (by omega) (by omega)]; omega
    rw [f_X12_write_47, f_X12_write_47, if_pos c, if_pos c]
  | succ k ih =>
    intro fuel i h1 h2
    obtain ⟨fuel, rfl⟩ : ∃ q, fuel = q + 1 := ⟨fuel - 1, by omega⟩
    have e2 := ih fuel (i + 1) (by omega) (by omega)
    clear ih
    rw [← e2, f_X12_write_47]
    have hs2 : Sh (wrM st m a i) := hs.cc (wrM_c st m a i)
    have e3 : zM (wrM st m a i) 40 8 = nI m := by
      rw [wrM_m, if_neg (by omega)]; exact hm
    simp (disch := omega) only [e3, ↓reduceIte, List.mem_singleton, Option.bind_some, if_true, if_false, zM_PM, zLn_PM, zTg_PM, zR_PM, ↓zb, ↓zo, ↓zl, n_lt0, n_le, n_lt, n_eq, n_eq0, n_gt0, n_le0, n_ge0, n_zin, n_nat, nI_add, and_self, true_or, false_or, or_false, if_pos, if_neg, f_in_nI, Nat.reduceAdd, t39 hs2, ↓bs (r39_1 hs2), t40 hs2, l40 hs2]
    rfl
theorem x_none {sa : zS} (hsa : Sh sa) {m : Nat} (h1 : zM sa 1 1 = nI m) (hm : m ≤ 6) (a : Int32) : f_X2_secondsOf sa 1 (-1) a = some (nI 0) ∧ f_X2_penceOf sa 1 (-1) a = some (nI 0) := by
  have e : f_X2_wayOf sa 1 (-1) = some none := by rw [f_wayOf hsa h1 hm, if_pos (Or.inl (by decide))]
  constructor
  · unfold f_X2_secondsOf
    simp (disch := omega) only [↓bs e, ↓reduceIte, List.mem_singleton, Option.bind_some, if_true, if_false, zM_PM, zLn_PM, zTg_PM, zR_PM, ↓zb, ↓zo, ↓zl, n_lt0, n_le, n_lt, n_eq, n_eq0, n_gt0, n_le0, n_ge0, n_zin, n_nat, nI_add, and_self, true_or, false_or, or_false, if_pos, if_neg, f_in_nI, Nat.reduceAdd, t1 hsa]
  · unfold f_X2_penceOf
    simp (disch := omega) only [↓bs e, ↓reduceIte, List.mem_singleton, Option.bind_some, if_true, if_false, zM_PM, zLn_PM, zTg_PM, zR_PM, ↓zb, ↓zo, ↓zl, n_lt0, n_le, n_lt, n_eq, n_eq0, n_gt0, n_le0, n_ge0, n_zin, n_nat, nI_add, and_self, true_or, false_or, or_false, if_pos, if_neg, f_in_nI, Nat.reduceAdd, t1 hsa]
theorem costs_two {st : zS} (h : Inv st) {N : Nat} (hN : 3000 ≤ N) {n : Nat} (hn1 : 1 ≤ n) (hn : n ≤ 40) (a : Int32) (hw : a = -1 ∨ ∃ w x, w < K st 40 0 ∧ a = nI w ∧ zR st 2 w = some x ∧ LineR st x w 40) : ∃ s p : Nat, s ≤ 3000 ∧ p ≤ 3000 ∧ (a = -1 → s = 0 ∧ p = 0) ∧ ∀ sa, Sh sa → sa.1 = st.1 ∧ sa.2.1 = st.2.1 ∧ sa.2.2.2 = st.2.2.2 → (∀ j, j < 6 → zM sa 1 j = zM st 1 j) → (∀ k j, 47 ≤ k → zM sa k j = zM st k j) → (∀ j, 11 ≤ j → j < 53 → zM sa 40 j = zM st 40 j) → f_X2_secondsOf sa 1 a (nI n) = some (nI s) ∧ f_X2_penceOf sa 1 a (nI n) = some (nI p) ∧ (a ≠ -1 → f_X12_secondsOf N sa 39 a (nI n) = some (nI s) ∧ f_X12_penceOf sa 39 a (nI n) = some (nI p)) := by
  rcases hw with rfl | ⟨w, x, hw, rfl, hx, hL⟩
  · refine ⟨0, 0, by omega, by omega, fun _ => ⟨rfl, rfl⟩, fun sa hs hc c1 c2 c3 => ?_⟩
    obtain ⟨q1, q2⟩ := x_none hs (m := K st 40 0) ((c1 1 (by omega)).trans (h.2.1.1.2.trans h.2.1.1.1.1)) h.2.1.1.1.2 (nI n)
    exact ⟨q1, q2, fun q => absurd rfl q⟩
  · have h6 := h.2.1.1.1.2
    obtain ⟨s, s1, s2, s3⟩ := sec_eq h hN hw hx hL hn1 hn
    obtain ⟨p, p1, p2, p3⟩ := pen_eq h hw hx hL hn1 hn
    refine ⟨s, p, s1, p1, fun q => absurd q (by rw [n_m1 (by omega)]; simp), fun sa hs hc c1 c2 c3 => ?_⟩
    have hW : f_X2_wayOf sa 1 (nI w) = some (some x) := by
      have := x_wayS h hw hx
      rw [f_wayOf h.1 (h.2.1.1.2.trans h.2.1.1.1.1) h.2.1.1.1.2] at this
      rw [f_wayOf hs ((c1 1 (by omega)).trans (h.2.1.1.2.trans h.2.1.1.1.1)) h.2.1.1.1.2]
      have e : ∀ j, zR sa 2 j = zR st 2 j := fun j => by unfold zR; rw [hc.2.2]
      rw [e]; exact this
    have hk : ∀ k, 47 ≤ k → (∀ j, zM sa k j = zM st k j) := fun k q j => c2 k j q
    have hLa : LineR sa x w 40 := by
      obtain ⟨k, v, sl, u1, u2, u3, u4, u5, u6, u7, u8, u9, u10, u11, u12, u13, u14, u15, u16⟩ := hL
      refine ⟨k, v, sl, u1, u2, u3, u4, by unfold zTg; rw [hc.2.1]; exact u5, u6, by rw [hc.1]; exact u7, by rw [c2 _ _ u6]; exact u8, by rw [c2 _ _ u6]; exact u9, by rw [c2 _ _ u6]; exact u10, by rw [c2 _ _ u6]; exact u11, by rw [c3 _ (by clear u16; omega) (by clear u16; omega)]; exact u12, by rw [c3 _ (by clear u16; omega) (by clear u16; omega)]; exact u13, by rw [c3 _ (by clear u16; omega) (by clear u16; omega)]; exact u14, fun j hj => by rw [c3 _ (by clear u16; omega) (by clear u16; omega)]; exact u15 j hj, fun q => ?_⟩
      obtain ⟨r, r1, r2, r3, r4, r5, r6⟩ := u16 q
      exact ⟨r, by unfold zR; rw [hc.2.2]; exact r1, r2, by rw [hc.1]; exact r3, by unfold zTg; rw [hc.2.1]; exact r4, by unfold zLn; rw [hc.2.1]; exact r5, fun j hj => by rw [c2 _ _ r2, c3 _ (by clear r6; omega) (by clear r6; omega)]; exact r6 j hj⟩
    have x1 := sec_two hs h.1 hN (by omega) hW hLa (fun j q1 q2 => (c3 j q1 q2).symm) hn1 hn
    have x2 := sec_two hs hs hN (by omega) hW hLa (fun j q1 q2 => rfl) hn1 hn
    have y1 := pen_two hs h.1 (by omega) hW hLa (fun j q1 q2 => (c3 j q1 q2).symm) hn1 hn
    have y2 := pen_two hs hs (by omega) hW hLa (fun j q1 q2 => rfl) hn1 hn
    obtain ⟨t1, -, t2, t3⟩ := x1
    obtain ⟨t4, -, t5, t6⟩ := x2
    obtain ⟨v1, -, v2, v3⟩ := y1
    obtain ⟨v4, -, v5, v6⟩ := y2
    have z1 : some (nI s) = some (nI t1) := s3.symm.trans t3
    have z2 : some (nI t1) = some (nI t4) := t2.symm.trans t5
    have z3 : some (nI p) = some (nI v1) := p3.symm.trans v3
    have z4 : some (nI v1) = some (nI v4) := v2.symm.trans v5
    exact ⟨by rw [z1]; exact t2, by rw [z3]; exact v2, fun _ => ⟨by rw [z1, z2]; exact t6, by rw [z3, z4]; exact v6⟩⟩
theorem write_key {st : zS} (h : Inv st) {N : Nat} (hN : 3000 ≤ N) {n : Nat} (hn1 : 1 ≤ n) (hf : K st 40 8 + n ≤ 40) (a : Int32) (hw : a = -1 ∨ ∃ w x, w < K st 40 0 ∧ a = nI w ∧ zR st 2 w = some x ∧ LineR st x w 40) : ∃ (r : Int32) (st1 st2 : zS), f_X11_write_53 N 0 a (nI n) N st (nI 0) = some (st1, r) ∧ f_X12_write_47 N 39 a (nI n) N st1 (nI 0) = some (st2, r) ∧ Sh st1 ∧ Inv st2 ∧ zM st1 40 8 = zM st 40 8 ∧ zM st1 40 0 = zM st 40 0 := by
  have hs := h.1
  obtain ⟨⟨p1, p2⟩, p3, p4⟩ := h.2.1.2.2.2.2.2.1
  have c1 := h.2.1.2.2.1
  have c2 := h.2.1.2.2.2.1
  obtain ⟨s, p, s1, s2, s3, s4⟩ := costs_two h hN hn1 (by omega) a hw
  have hW : WayE st 40 a := by
    rcases hw with q | ⟨w, x, q1, q2, -⟩
    · exact Or.inl q
    · exact Or.inr ⟨w, q1, q2⟩
  clear hw
  generalize hm : K st 40 8 = m at *
  have hT : Sh (wrX st m a n) := hs.cc (wrX_c st m a n)
  have e6 : zM (wrX st m a n) 1 6 = zM st 1 6 := by rw [wrX_m, if_neg (by omega), if_neg (by omega)]
  have e7 : zM (wrX st m a n) 1 7 = zM st 1 7 := by rw [wrX_m, if_neg (by omega), if_neg (by omega)]
  have e71 : zM (wrX st m a n) 7 1 = nI (m + n) := by rw [wrX_m, if_neg (by omega), if_pos (by omega)]
  have q1 := s4 (wrX st m a n) hT (wrX_c st m a n) (fun j hj => by rw [wrX_m, if_neg (by omega), if_neg (by omega)]) (fun k j hj => by rw [wrX_m, if_neg (by omega), if_neg (by omega)]) (fun j hj _ => by rw [wrX_m, if_neg (by omega), if_neg (by omega)])
  have hT2 : Sh (zPM (wrX st m a n) 1 6 (zM st 1 6 + nI s)) := hT.pm _ _ _
  have q2 := s4 (zPM (wrX st m a n) 1 6 (zM st 1 6 + nI s)) hT2 (wrX_c st m a n) (fun j hj => by rw [zM_PM, if_neg (by omega), wrX_m, if_neg (by omega), if_neg (by omega)]) (fun k j hj => by rw [zM_PM, if_neg (by omega), wrX_m, if_neg (by omega), if_neg (by omega)]) (fun j hj _ => by rw [zM_PM, if_neg (by omega), wrX_m, if_neg (by omega), if_neg (by omega)])
  have hA : Sh (zPM (zPM (wrX st m a n) 1 6 (zM st 1 6 + nI s)) 1 7 (zM st 1 7 + nI p)) := hT2.pm _ _ _
  have xe := x_wr hs (n := n) (p3.trans p1) (by omega) a N n N 0 (by omega) (by omega)
  have xe' : f_X11_write_53 N 0 a (nI n) N st (nI 0) = f_X11_write_53 N 0 a (nI n) 1 (wrX st m a n) (nI n) := xe
  have hx : f_X11_write_53 N 0 a (nI n) N st (nI 0) = some (zPM (zPM (wrX st m a n) 1 6 (zM st 1 6 + nI s)) 1 7 (zM st 1 7 + nI p), nI (m + n)) := by
    rw [xe', f_X11_write_53]
    simp (disch := omega) only [↓bs q1.1, ↓bs q2.2.1, e6, e7, e71, ↓bs (f_size (ns7 hA)), ↓reduceIte, List.mem_singleton, Option.bind_some, if_true, if_false, zM_PM, zLn_PM, zTg_PM, zR_PM, ↓zb, ↓zo, ↓zl, n_lt0, n_le, n_lt, n_eq, n_eq0, n_gt0, n_le0, n_ge0, n_zin, n_nat, nI_add, and_self, true_or, false_or, or_false, if_pos, if_neg, f_in_nI, Nat.reduceAdd, t0 hT, ↓bs (r0_0 hT), t1 hT, ↓bs (r1_5 hT), t7 hT]
  have aM : ∀ k j, k = 40 → zM (zPM (zPM (wrX st m a n) 1 6 (zM st 1 6 + nI s)) 1 7 (zM st 1 7 + nI p)) k j = zM st k j := fun k j hk => by
    rw [zM_PM, if_neg (by omega), zM_PM, if_neg (by omega), wrX_m, if_neg (by omega), if_neg (by omega)]
  have aM2 : ∀ k j, 47 ≤ k → zM (zPM (zPM (wrX st m a n) 1 6 (zM st 1 6 + nI s)) 1 7 (zM st 1 7 + nI p)) k j = zM st k j := fun k j hk => by
    rw [zM_PM, if_neg (by omega), zM_PM, if_neg (by omega), wrX_m, if_neg (by omega), if_neg (by omega)]
  have aM3 : ∀ j, j < 6 → zM (zPM (zPM (wrX st m a n) 1 6 (zM st 1 6 + nI s)) 1 7 (zM st 1 7 + nI p)) 1 j = zM st 1 j := fun j hk => by
    rw [zM_PM, if_neg (by omega), zM_PM, if_neg (by omega), wrX_m, if_neg (by omega), if_neg (by omega)]
  have aC : (zPM (zPM (wrX st m a n) 1 6 (zM st 1 6 + nI s)) 1 7 (zM st 1 7 + nI p)).1 = st.1 ∧ (zPM (zPM (wrX st m a n) 1 6 (zM st 1 6 + nI s)) 1 7 (zM st 1 7 + nI p)).2.1 = st.2.1 ∧ (zPM (zPM (wrX st m a n) 1 6 (zM st 1 6 + nI s)) 1 7 (zM st 1 7 + nI p)).2.2.2 = st.2.2.2 := wrX_c st m a n
  have aF : ∀ k j, zM (zPM (zPM (wrX st m a n) 1 6 (zM st 1 6 + nI s)) 1 7 (zM st 1 7 + nI p)) k j = if k = 1 ∧ j = 7 then zM st 1 7 + nI p else if k = 1 ∧ j = 6 then zM st 1 6 + nI s else if k = 8 ∧ m ≤ j ∧ j < m + n then a else if k = 7 ∧ j = 1 ∧ 0 < n then nI (m + n) else zM st k j := fun k j => by
    rw [zM_PM, zM_PM, wrX_m]
  generalize hsA : zPM (zPM (wrX st m a n) 1 6 (zM st 1 6 + nI s)) 1 7 (zM st 1 7 + nI p) = sA at *
  have hB : Sh (wrM sA m a n) := hA.cc (wrM_c sA m a n)
  have e8 : zM (wrM sA m a n) 40 8 = nI m := by rw [wrM_m, if_neg (by omega), aM _ _ rfl]; exact p1
  have e9 : zM (wrM sA m a n) 40 9 = zM st 1 6 := by rw [wrM_m, if_neg (by omega), aM _ _ rfl, c1]
  have e10 : zM (wrM sA m a n) 40 10 = zM st 1 7 := by rw [wrM_m, if_neg (by omega), aM _ _ rfl, c2]
  have cB : (wrM sA m a n).1 = st.1 ∧ (wrM sA m a n).2.1 = st.2.1 ∧ (wrM sA m a n).2.2.2 = st.2.2.2 := by
    obtain ⟨u1, u2, u3⟩ := wrM_c sA m a n
    exact ⟨u1.trans aC.1, u2.trans aC.2.1, u3.trans aC.2.2⟩
  have hB2 : Sh (zPM (wrM sA m a n) 40 8 (nI (m + n))) := hB.pm _ _ _
  have hB3 : Sh (zPM (zPM (wrM sA m a n) 40 8 (nI (m + n))) 40 9 (zM st 1 6 + nI s)) := hB2.pm _ _ _
  have q3 := s4 (zPM (wrM sA m a n) 40 8 (nI (m + n))) hB2 cB (fun j hj => by rw [zM_PM, if_neg (by omega), wrM_m, if_neg (by omega)]; exact aM3 j hj) (fun k j hj => by rw [zM_PM, if_neg (by omega), wrM_m, if_neg (by omega)]; exact aM2 k j hj) (fun j hj _ => by rw [zM_PM, if_neg (by omega), wrM_m, if_neg (by omega)]; exact aM _ _ rfl)
  have q4 := s4 (zPM (zPM (wrM sA m a n) 40 8 (nI (m + n))) 40 9 (zM st 1 6 + nI s)) hB3 cB (fun j hj => by rw [zM_PM, if_neg (by omega), zM_PM, if_neg (by omega), wrM_m, if_neg (by omega)]; exact aM3 j hj) (fun k j hj => by rw [zM_PM, if_neg (by omega), zM_PM, if_neg (by omega), wrM_m, if_neg (by omega)]; exact aM2 k j hj) (fun j hj _ => by rw [zM_PM, if_neg (by omega), zM_PM, if_neg (by omega), wrM_m, if_neg (by omega)]; exact aM _ _ rfl)
  have me := m_wr hA (n := n) ((aM _ _ rfl).trans p1) (by omega) a N n N 0 (by omega) (by omega)
  have me' : f_X12_write_47 N 39 a (nI n) N sA (nI 0) = f_X12_write_47 N 39 a (nI n) 1 (wrM sA m a n) (nI n) := me
  refine ⟨nI (m + n), sA, zPM (zPM (zPM (wrM sA m a n) 40 8 (nI (m + n))) 40 9 (zM st 1 6 + nI s)) 40 10 (zM st 1 7 + nI p), hx, ?_, hA, ?_, aM _ _ rfl, aM _ _ rfl⟩
  · rw [me', f_X12_write_47]
    unfold f_X12_write_110
    by_cases ha : a = -1
    · obtain ⟨rfl, rfl⟩ := s3 ha
      clear s4 q3 q4 aM aM2 aM3 aF me xe
      subst ha
      simp (disch := omega) only [eq_self, e8, e9, e10, ↓reduceIte, List.mem_singleton, Option.bind_some, if_true, if_false, zM_PM, zLn_PM, zTg_PM, zR_PM, ↓zb, ↓zo, ↓zl, n_lt0, n_le, n_lt, n_eq, n_eq0, n_gt0, n_le0, n_ge0, n_zin, n_nat, nI_add, and_self, true_or, false_or, or_false, if_pos, if_neg, f_in_nI, Nat.reduceAdd, t39 hB, ↓bs (r39_1 hB), t40 hB, l40 hB]
    · have q5 := (q3.2.2 ha).1
      have q6 := (q4.2.2 ha).2
      clear s4 q3 q4 aM aM2 aM3 aF me xe
      simp (disch := omega) only [ha, e8, e9, e10, ↓bs q5, ↓bs q6, ↓reduceIte, List.mem_singleton, Option.bind_some, if_true, if_false, zM_PM, zLn_PM, zTg_PM, zR_PM, ↓zb, ↓zo, ↓zl, n_lt0, n_le, n_lt, n_eq, n_eq0, n_gt0, n_le0, n_ge0, n_zin, n_nat, nI_add, and_self, true_or, false_or, or_false, if_pos, if_neg, f_in_nI, Nat.reduceAdd, t39 hB, ↓bs (r39_1 hB), t40 hB, l40 hB]
  · refine inv_write h hm hn1 (by omega) a hW (zM st 1 6 + nI s) (zM st 1 7 + nI p) cB (fun k j => ?_)
    rw [zM_PM, zM_PM, zM_PM, wrM_m, aF]
    clear s4 q1 q2 q3 q4 aM aM2 aM3 aF me xe
    repeat' split
    all_goals first | rfl | (exfalso; omega)
theorem s_write {st : zS} (h : Inv st) {N : Nat} (hN : 3000 ≤ N) (a1 a2 : Int32) : ∃ (r : Int32) (st1 st2 : zS), (f_X11_write N st 0 a1 a2 = some (st1, r)) ∧ (f_X12_write N st1 39 a1 a2 = some (st2, r)) ∧ Sh st1 ∧ Inv st2 := by
  have hs := h.1
  obtain ⟨⟨p1, p2⟩, p3, p4⟩ := h.2.1.2.2.2.2.2.1
  have c0 := h.2.1.1.1.1
  have key : (a1 = -1 ∨ ∃ w x, w < K st 40 0 ∧ a1 = nI w ∧ zR st 2 w = some x ∧ LineR st x w 40) → ∃ (r : Int32) (st1 st2 : zS), (f_X11_write_20 N 0 a1 a2 st = some (st1, r)) ∧ (f_X12_write_15 N 39 a1 a2 st1 = some (st2, r)) ∧ Sh st1 ∧ Inv st2 ∧ zM st1 40 0 = zM st 40 0 := by
    intro hw
    rcases f_isLen (a := a2) with ⟨n, n1, n2, rfl, l1, l2⟩ | ⟨l1, l2⟩
    · by_cases hf : K st 40 8 + n ≤ 40
      · obtain ⟨r, st1, st2, k1, k2, k3, k4, k5, k6⟩ := write_key h hN n1 hf a1 hw
        refine ⟨r, st1, st2, ?_, ?_, k3, k4, k6⟩
        · unfold f_X11_write_20
          simp (disch := omega) only [↓bs l1, ↓bs (f_size (ns7 hs)), p3, p1, ↓reduceIte, List.mem_singleton, Option.bind_some, if_true, if_false, zM_PM, zLn_PM, zTg_PM, zR_PM, ↓zb, ↓zo, ↓zl, n_lt0, n_le, n_lt, n_eq, n_eq0, n_gt0, n_le0, n_ge0, n_zin, n_nat, nI_add, and_self, true_or, false_or, or_false, if_pos, if_neg, f_in_nI, Nat.reduceAdd, t0 hs, ↓bs (r0_0 hs), t1 hs, ↓bs (r1_5 hs), t7 hs]
          exact k1
        · unfold f_X12_write_15
          simp (disch := omega) only [↓bs l2, k5, p1, ↓reduceIte, List.mem_singleton, Option.bind_some, if_true, if_false, zM_PM, zLn_PM, zTg_PM, zR_PM, ↓zb, ↓zo, ↓zl, n_lt0, n_le, n_lt, n_eq, n_eq0, n_gt0, n_le0, n_ge0, n_zin, n_nat, nI_add, and_self, true_or, false_or, or_false, if_pos, if_neg, f_in_nI, Nat.reduceAdd, t39 k3, ↓bs (r39_1 k3), t40 k3, l40 k3]
          exact k2
      · refine ⟨-4, st, st, ?_, ?_, hs, h, rfl⟩
        · unfold f_X11_write_20
          simp (disch := omega) only [↓bs l1, ↓bs (f_size (ns7 hs)), p3, p1, ↓reduceIte, List.mem_singleton, Option.bind_some, if_true, if_false, zM_PM, zLn_PM, zTg_PM, zR_PM, ↓zb, ↓zo, ↓zl, n_lt0, n_le, n_lt, n_eq, n_eq0, n_gt0, n_le0, n_ge0, n_zin, n_nat, nI_add, and_self, true_or, false_or, or_false, if_pos, if_neg, f_in_nI, Nat.reduceAdd, t0 hs, ↓bs (r0_0 hs), t1 hs, ↓bs (r1_5 hs), t7 hs]
        · unfold f_X12_write_15
          simp (disch := omega) only [↓bs l2, p1, ↓reduceIte, List.mem_singleton, Option.bind_some, if_true, if_false, zM_PM, zLn_PM, zTg_PM, zR_PM, ↓zb, ↓zo, ↓zl, n_lt0, n_le, n_lt, n_eq, n_eq0, n_gt0, n_le0, n_ge0, n_zin, n_nat, nI_add, and_self, true_or, false_or, or_false, if_pos, if_neg, f_in_nI, Nat.reduceAdd, t39 hs, ↓bs (r39_1 hs), t40 hs, l40 hs]
    · refine ⟨-2, st, st, ?_, ?_, hs, h, rfl⟩
      · unfold f_X11_write_20
        simp (disch := omega) only [↓bs l1, ↓reduceIte, List.mem_singleton, Option.bind_some, if_true, if_false, zM_PM, zLn_PM, zTg_PM, zR_PM, ↓zb, ↓zo, ↓zl, n_lt0, n_le, n_lt, n_eq, n_eq0, n_gt0, n_le0, n_ge0, n_zin, n_nat, nI_add, and_self, true_or, false_or, or_false, if_pos, if_neg, f_in_nI, Nat.reduceAdd]
      · unfold f_X12_write_15
        simp (disch := omega) only [↓bs l2, ↓reduceIte, List.mem_singleton, Option.bind_some, if_true, if_false, zM_PM, zLn_PM, zTg_PM, zR_PM, ↓zb, ↓zo, ↓zl, n_lt0, n_le, n_lt, n_eq, n_eq0, n_gt0, n_le0, n_ge0, n_zin, n_nat, nI_add, and_self, true_or, false_or, or_false, if_pos, if_neg, f_in_nI, Nat.reduceAdd]
  by_cases h1 : a1 = -1
  · obtain ⟨r, st1, st2, k1, k2, k3, k4, k5⟩ := key (Or.inl h1)
    refine ⟨r, st1, st2, ?_, ?_, k3, k4⟩
    · unfold f_X11_write
      have e : f_X2_wayOf st 1 a1 = some none := x_wayN h (Or.inl (by rw [h1]; decide))
      simp (disch := omega) only [↓bs e, h1, ↓reduceIte, List.mem_singleton, Option.bind_some, if_true, if_false, zM_PM, zLn_PM, zTg_PM, zR_PM, ↓zb, ↓zo, ↓zl, n_lt0, n_le, n_lt, n_eq, n_eq0, n_gt0, n_le0, n_ge0, n_zin, n_nat, nI_add, and_self, true_or, false_or, or_false, if_pos, if_neg, f_in_nI, Nat.reduceAdd, t0 hs, ↓bs (r0_0 hs), t1 hs]
      rw [h1] at k1; exact k1
    · unfold f_X12_write
      rw [if_pos h1]; exact k2
  · rcases way_cases h a1 with ha | ⟨w, x, hw, rfl, hx, hL⟩
    · refine ⟨-1, st, st, ?_, ?_, hs, h⟩
      · unfold f_X11_write
        simp (disch := omega) only [↓bs (x_wayN h ha), h1, ↓reduceIte, List.mem_singleton, Option.bind_some, if_true, if_false, zM_PM, zLn_PM, zTg_PM, zR_PM, ↓zb, ↓zo, ↓zl, n_lt0, n_le, n_lt, n_eq, n_eq0, n_gt0, n_le0, n_ge0, n_zin, n_nat, nI_add, and_self, true_or, false_or, or_false, if_pos, if_neg, f_in_nI, Nat.reduceAdd, t0 hs, ↓bs (r0_0 hs), t1 hs]
      · unfold f_X12_write
        simp (disch := omega) only [↓bs (m_wayN h ha), h1, ↓reduceIte, List.mem_singleton, Option.bind_some, if_true, if_false, zM_PM, zLn_PM, zTg_PM, zR_PM, ↓zb, ↓zo, ↓zl, n_lt0, n_le, n_lt, n_eq, n_eq0, n_gt0, n_le0, n_ge0, n_zin, n_nat, nI_add, and_self, true_or, false_or, or_false, if_pos, if_neg, f_in_nI, Nat.reduceAdd, t39 hs]
    · obtain ⟨r, st1, st2, k1, k2, k3, k4, k5⟩ := key (Or.inr ⟨w, x, hw, rfl, hx, hL⟩)
      refine ⟨r, st1, st2, ?_, ?_, k3, k4⟩
      · unfold f_X11_write
        simp (disch := omega) only [↓bs (x_wayS h hw hx), ↓reduceIte, List.mem_singleton, Option.bind_some, if_true, if_false, zM_PM, zLn_PM, zTg_PM, zR_PM, ↓zb, ↓zo, ↓zl, n_lt0, n_le, n_lt, n_eq, n_eq0, n_gt0, n_le0, n_ge0, n_zin, n_nat, nI_add, and_self, true_or, false_or, or_false, if_pos, if_neg, f_in_nI, Nat.reduceAdd, t0 hs, ↓bs (r0_0 hs), t1 hs]
        exact k1
      · have h6 := h.2.1.1.1.2
        unfold f_X12_write
        rw [if_neg h1, if_pos (by rw [t39 k3]; exact List.mem_singleton.mpr rfl), m_isWay k3 (k5.trans h.2.1.1.1.1) h.2.1.1.1.2, if_neg (show ¬ (nI w < 0 ∨ nI (K st 40 0) ≤ nI w) by rw [n_le (by omega) (by omega), n_lt0 (by omega), false_or]; omega)]
        simp (disch := omega) only [↓reduceIte, List.mem_singleton, Option.bind_some, if_true, if_false, zM_PM, zLn_PM, zTg_PM, zR_PM, ↓zb, ↓zo, ↓zl, n_lt0, n_le, n_lt, n_eq, n_eq0, n_gt0, n_le0, n_ge0, n_zin, n_nat, nI_add, and_self, true_or, false_or, or_false, if_pos, if_neg, f_in_nI, Nat.reduceAdd]
        exact k2
