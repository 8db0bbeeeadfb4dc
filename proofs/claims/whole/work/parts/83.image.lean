/-! image, undo -/
theorem NumS.cc {s s' : zS} {o cap : Nat} (h : NumS s o cap) (h1 : s'.2.1 = s.2.1) (h2 : zR s' o 0 = zR s o 0) : NumS s' o cap := by
  unfold NumS zTg zLn at *
  rw [h1, h2]; exact h
def cpX (s : zS) (o a : Nat) : Nat → zS
  | 0 => zPM s o 1 (nI 0)
  | i + 1 => zPM (zPM (cpX s o a i) (o + 1) i (zM s (a + 1) i)) o 1 (nI (i + 1))
theorem cpX_c (s : zS) (o a : Nat) : ∀ n, (cpX s o a n).1 = s.1 ∧ (cpX s o a n).2.1 = s.2.1 ∧ (cpX s o a n).2.2.2 = s.2.2.2
  | 0 => ⟨rfl, rfl, rfl⟩
  | n + 1 => cpX_c s o a n
theorem cpX_m (s : zS) (o a k j : Nat) : ∀ n, zM (cpX s o a n) k j = if k = o ∧ j = 1 then nI n else if k = o + 1 ∧ j < n then zM s (a + 1) j else zM s k j
  | 0 => by
    show zM (zPM s o 1 (nI 0)) k j = _
    rw [zM_PM]
    by_cases c : k = o ∧ j = 1
    · rw [if_pos c, if_pos c]
    · rw [if_neg c, if_neg c, if_neg (by omega)]
  | n + 1 => by
    show zM (zPM (zPM (cpX s o a n) (o + 1) n (zM s (a + 1) n)) o 1 (nI (n + 1))) k j = _
    rw [zM_PM]
    by_cases c : k = o ∧ j = 1
    · rw [if_pos c, if_pos c]
    · rw [if_neg c, if_neg c, zM_PM]
      by_cases d : k = o + 1 ∧ j = n
      · rw [if_pos d, if_pos (by omega), d.2]
      · rw [if_neg d, cpX_m s o a k j n, if_neg c]
        by_cases e : k = o + 1 ∧ j < n
        · rw [if_pos e, if_pos (by omega)]
        · rw [if_neg e, if_neg (by omega)]
theorem x_copy {s : zS} {o a cap n : Nat} (ho : NumS s o cap) (ha : NumS s a cap) (hcap : cap ≤ 100) (hn : zM s a 1 = nI n) (hnc : n ≤ cap) (h1 : o ≠ a) (h2 : o ≠ a + 1) (h3 : o + 1 ≠ a) {N : Nat} (hN : 3000 ≤ N) : f_X5_copy N s o a = some (cpX s o a n) := by
  have key : ∀ k fuel i, i + k = n → k < fuel → f_X5_copy_6 N o a fuel (cpX s o a i) (nI i) = some (cpX s o a n) := by
    intro k
    induction k with
    | zero =>
      intro fuel i g1 g2
      obtain ⟨fuel, rfl⟩ : ∃ m, fuel = m + 1 := ⟨fuel - 1, by omega⟩
      have hi : i = n := by omega
      subst hi
      have c := cpX_c s o a i
      have na : NumS (cpX s o a i) a cap := ha.cc c.2.1 (by unfold zR; rw [c.2.2])
      have e1 : zM (cpX s o a i) a 1 = nI i := by rw [cpX_m, if_neg (by omega), if_neg (by omega)]; exact hn
      rw [f_X5_copy_6]
      simp (disch := omega) only [na.1, e1, ↓reduceIte, List.mem_singleton, Option.bind_some, if_true, if_false, zM_PM, zLn_PM, zTg_PM, zR_PM, ↓zb, ↓zo, ↓zl, n_lt0, n_le, n_lt, n_eq, n_eq0, n_gt0, n_le0, n_ge0, n_zin, n_nat, nI_add, and_self, true_or, false_or, or_false, if_pos, if_neg, f_in_nI, Nat.reduceAdd]
    | succ k ih =>
      intro fuel i g1 g2
      obtain ⟨fuel, rfl⟩ : ∃ m, fuel = m + 1 := ⟨fuel - 1, by omega⟩
      have e2 := ih fuel (i + 1) (by omega) (by omega)
      have c := cpX_c s o a i
      have na : NumS (cpX s o a i) a cap := ha.cc c.2.1 (by unfold zR; rw [c.2.2])
      have no : NumS (cpX s o a i) o cap := ho.cc c.2.1 (by unfold zR; rw [c.2.2])
      have e1 : zM (cpX s o a i) a 1 = nI n := by rw [cpX_m, if_neg (by omega), if_neg (by omega)]; exact hn
      have e3 : zM (cpX s o a i) o 1 = nI i := by rw [cpX_m, if_pos ⟨rfl, rfl⟩]
      have e4 : zM (cpX s o a i) (a + 1) i = zM s (a + 1) i := by rw [cpX_m, if_neg (by omega), if_neg (by omega)]
      have g := f_get na e1 hnc hcap (i := i) (by omega)
      rw [if_pos (by omega), e4] at g
      have ad := f_add no e3 (by omega) hcap (zM s (a + 1) i)
      rw [if_pos (by omega)] at ad
      clear ih
      rw [f_X5_copy_6]
      simp (disch := omega) only [na.1, no.1, e1, ↓bs g, ad, ↓reduceIte, List.mem_singleton, Option.bind_some, if_true, if_false, zM_PM, zLn_PM, zTg_PM, zR_PM, ↓zb, ↓zo, ↓zl, n_lt0, n_le, n_lt, n_eq, n_eq0, n_gt0, n_le0, n_ge0, n_zin, n_nat, nI_add, and_self, true_or, false_or, or_false, if_pos, if_neg, f_in_nI, Nat.reduceAdd]
      exact e2
  unfold f_X5_copy
  have cl : f_X5_clear s o = some (zPM s o 1 (nI 0)) := f_clear ho
  simp only [ho.1, ↓bs cl, List.mem_singleton, ↓reduceIte]
  exact key n N 0 (by omega) (by omega)
theorem Sh.pr {s : zS} (h : Sh s) {k j : Nat} {x : Option Nat} (h1 : ∀ q ∈ shRL, ¬ (q.1 = k ∧ q.2.1 = j)) (h2 : k = 2 ∨ k = 20 → ∀ a, x = some a → a < s.1 ∧ zTg s a ∈ zLs) : Sh (zPR s k j x) := by
  refine ⟨h.1, h.2.1, fun q hq => by rw [zR_PR, if_neg (h1 q hq)]; exact h.2.2.1 q hq, fun k' hk j' hj a q => ?_⟩
  rw [zR_PR] at q
  by_cases c : k' = k ∧ j' = j
  · rw [if_pos c] at q
    exact h2 (by omega) a q
  · rw [if_neg c] at q
    exact h.2.2.2 k' hk j' hj a q
theorem sh2 (k : Nat) (hk : k = 2 ∨ k = 20) (j : Nat) : ∀ q ∈ shRL, ¬ (q.1 = k ∧ q.2.1 = j) := by
  have h : ∀ q ∈ shRL, q.1 ≠ 2 ∧ q.1 ≠ 20 := by decide
  intro q hq c
  have := h q hq
  omega
theorem sh12 (k : Nat) (hk : k = 1 ∨ k = 19) : ∀ q ∈ shRL, ¬ (q.1 = k ∧ q.2.1 = 2) := by
  have h : ∀ q ∈ shRL, ¬ (q.1 = 1 ∧ q.2.1 = 2) ∧ ¬ (q.1 = 19 ∧ q.2.1 = 2) := by decide
  intro q hq c
  have := h q hq
  rcases hk with rfl | rfl
  · exact this.1 c
  · exact this.2 c
def wyX (s : zS) (a b : Nat) : Nat → zS
  | 0 => s
  | i + 1 => zPR (wyX s a b i) a i (zR s b i)
theorem wyX_c (s : zS) (a b : Nat) : ∀ n, (wyX s a b n).1 = s.1 ∧ (wyX s a b n).2.1 = s.2.1 ∧ (wyX s a b n).2.2.1 = s.2.2.1
  | 0 => ⟨rfl, rfl, rfl⟩
  | n + 1 => wyX_c s a b n
theorem wyX_m (s : zS) (a b n k j : Nat) : zM (wyX s a b n) k j = zM s k j := by unfold zM; rw [(wyX_c s a b n).2.2]
theorem wyX_r (s : zS) (a b k j : Nat) : ∀ n, zR (wyX s a b n) k j = if k = a ∧ j < n then zR s b j else zR s k j
  | 0 => by rw [if_neg (by omega)]; rfl
  | n + 1 => by
    show zR (zPR (wyX s a b n) a n (zR s b n)) k j = _
    rw [zR_PR, wyX_r s a b k j n]
    by_cases c : k = a ∧ j = n
    · rw [if_pos c, if_pos (by omega), c.2]
    · rw [if_neg c]
      by_cases d : k = a ∧ j < n
      · rw [if_pos d, if_pos (by omega)]
      · rw [if_neg d, if_neg (by omega)]
theorem wyX_sh {s : zS} (h : Sh s) {a b : Nat} (ha : a = 2 ∨ a = 20) (hb : b = 2 ∨ b = 20) : ∀ n, n ≤ 6 → Sh (wyX s a b n)
  | 0, _ => h
  | n + 1, hn => by
    refine (wyX_sh h ha hb n (by omega)).pr (sh2 a ha n) (fun _ x q => ?_)
    have := h.2.2.2 b hb n (by omega) x q
    have c := wyX_c s a b n
    have e : zTg (wyX s a b n) x = zTg s x := by unfold zTg; rw [c.2.1]
    rw [c.1, e]; exact this
theorem deskF {s : zS} (h : Sh s) {D : Nat} (hD : D = 1 ∨ D = 19) : zTg s D = 12 ∧ zR s D 0 = some (D + 1) ∧ zTg s (D + 1) = 3 ∧ zLn s (D + 1) = 6 ∧ zR s D 4 = some (D + 4) ∧ zR s D 5 = some (D + 6) ∧ zR s D 8 = some (D + 8) ∧ zR s D 9 = some (D + 10) ∧ zR s D 10 = some (D + 12) ∧ zR s D 11 = some (D + 14) ∧ zR s D 12 = some (D + 16) ∧ NumS s (D + 4) 100 ∧ NumS s (D + 6) 40 ∧ NumS s (D + 8) 5 ∧ NumS s (D + 10) 6 ∧ NumS s (D + 12) 8 ∧ NumS s (D + 14) 8 ∧ NumS s (D + 16) 8 := by
  rcases hD with rfl | rfl
  · exact ⟨t1 h, r1_0 h, t2 h, l2 h, r1_4 h, r1_5 h, r1_8 h, r1_9 h, r1_10 h, r1_11 h, r1_12 h, ns5 h, ns7 h, ns9 h, ns11 h, ns13 h, ns15 h, ns17 h⟩
  · exact ⟨t19 h, r19_0 h, t20 h, l20 h, r19_4 h, r19_5 h, r19_8 h, r19_9 h, r19_10 h, r19_11 h, r19_12 h, ⟨t23 h, r23_0 h, t24 h, l24 h⟩, ⟨t25 h, r25_0 h, t26 h, l26 h⟩, ⟨t27 h, r27_0 h, t28 h, l28 h⟩, ⟨t29 h, r29_0 h, t30 h, l30 h⟩, ⟨t31 h, r31_0 h, t32 h, l32 h⟩, ⟨t33 h, r33_0 h, t34 h, l34 h⟩, ⟨t35 h, r35_0 h, t36 h, l36 h⟩⟩
theorem x_ways {s : zS} (hs : Sh s) {D E : Nat} (hDE : (D = 1 ∧ E = 19) ∨ (D = 19 ∧ E = 1)) {N : Nat} (hN : 3000 ≤ N) : f_X2_copyAll N s D E = f_X2_copyAll_38 N D E (wyX s (D + 1) (E + 1) 6) := by
  have key : ∀ k fuel i, i + k = 6 → k < fuel → f_X2_copyAll_2 N D E fuel (wyX s (D + 1) (E + 1) i) (nI i) = f_X2_copyAll_38 N D E (wyX s (D + 1) (E + 1) 6) := by
    intro k
    induction k with
    | zero =>
      intro fuel i g1 g2
      obtain ⟨fuel, rfl⟩ : ∃ m, fuel = m + 1 := ⟨fuel - 1, by omega⟩
      have hi : i = 6 := by omega
      subst hi
      have hw := wyX_sh hs (a := D + 1) (b := E + 1) (by omega) (by omega) 6 (by omega)
      obtain ⟨a1, a2, a3, a4, -⟩ := deskF hw (D := D) (by omega)
      rw [f_X2_copyAll_2]
      simp (disch := omega) only [a1, ↓bs a2, a3, a4, ↓reduceIte, List.mem_singleton, Option.bind_some, if_true, if_false, zM_PM, zLn_PM, zTg_PM, zR_PM, ↓zb, ↓zo, ↓zl, n_lt0, n_le, n_lt, n_eq, n_eq0, n_gt0, n_le0, n_ge0, n_zin, n_nat, nI_add, and_self, true_or, false_or, or_false, if_pos, if_neg, f_in_nI, Nat.reduceAdd]
    | succ k ih =>
      intro fuel i g1 g2
      obtain ⟨fuel, rfl⟩ : ∃ m, fuel = m + 1 := ⟨fuel - 1, by omega⟩
      have e2 := ih fuel (i + 1) (by omega) (by omega)
      have hw := wyX_sh hs (a := D + 1) (b := E + 1) (by omega) (by omega) i (by omega)
      obtain ⟨a1, a2, a3, a4, -⟩ := deskF hw (D := D) (by omega)
      obtain ⟨b1, b2, b3, b4, -⟩ := deskF hw (D := E) (by omega)
      have e3 : zR (wyX s (D + 1) (E + 1) i) (E + 1) i = zR s (E + 1) i := by rw [wyX_r, if_neg (by omega)]
      have e4 : zlOk (wyX s (D + 1) (E + 1) i) (zR s (E + 1) i) := by
        have q := hs.2.2.2 (E + 1) (by omega) i (by omega)
        have e : ∀ x, zTg (wyX s (D + 1) (E + 1) i) x = zTg s x := fun x => by unfold zTg; rw [(wyX_c s (D + 1) (E + 1) i).2.1]
        unfold zlOk
        cases hz : zR s (E + 1) i with
        | none => rfl
        | some x =>
          show zLs.contains (zTg (wyX s (D + 1) (E + 1) i) x) = true
          rw [e]; exact List.contains_iff_mem.mpr (q x hz).2
      clear ih
      rw [← e2, f_X2_copyAll_2]
      simp (disch := omega) only [a1, ↓bs a2, a3, a4, b1, ↓bs b2, b3, b4, e3, ↓reduceIte, List.mem_singleton, Option.bind_some, if_true, if_false, zM_PM, zLn_PM, zTg_PM, zR_PM, ↓zb, ↓zo, ↓zl, n_lt0, n_le, n_lt, n_eq, n_eq0, n_gt0, n_le0, n_ge0, n_zin, n_nat, nI_add, and_self, true_or, false_or, or_false, if_pos, if_neg, f_in_nI, Nat.reduceAdd]
      rfl
  exact key 6 N 0 (by omega) (by omega)
def NumC (s s' : zS) (o o' n : Nat) : Prop := zM s' o' 1 = zM s o 1 ∧ ∀ i, i < n → zM s' (o' + 1) i = zM s (o + 1) i
set_option maxHeartbeats 8000000 in
theorem copy_all {s : zS} (hs : Sh s) {D E : Nat} (hDE : (D = 1 ∧ E = 19) ∨ (D = 19 ∧ E = 1)) {N : Nat} (hN : 3000 ≤ N) {hd : Nat} (hh : zR s E 2 = some hd) {n1 n2 n3 n4 n5 n6 n7 : Nat} (m1 : zM s (E + 4) 1 = nI n1) (m2 : zM s (E + 6) 1 = nI n2) (m3 : zM s (E + 8) 1 = nI n3) (m4 : zM s (E + 10) 1 = nI n4) (m5 : zM s (E + 12) 1 = nI n5) (m6 : zM s (E + 14) 1 = nI n6) (m7 : zM s (E + 16) 1 = nI n7) (c1 : n1 ≤ 100) (c2 : n2 ≤ 40) (c3 : n3 ≤ 5) (c4 : n4 ≤ 6) (c5 : n5 ≤ 8) (c6 : n6 ≤ 8) (c7 : n7 ≤ 8) : ∃ s', f_X2_copyAll N s D E = some s' ∧ Sh s' ∧ s'.1 = s.1 ∧ s'.2.1 = s.2.1 ∧ (∀ k j, zR s' k j = if k = D ∧ j = 2 then some hd else if k = D + 1 ∧ j < 6 then zR s (E + 1) j else zR s k j) ∧ (∀ k j, (k < D ∨ D + 18 ≤ k ∨ k = D + 2 ∨ k = D + 3) → zM s' k j = zM s k j) ∧ zM s' D 1 = zM s E 1 ∧ zM s' D 3 = zM s E 3 ∧ zM s' D 6 = zM s E 6 ∧ zM s' D 7 = zM s E 7 ∧ NumC s s' (E + 4) (D + 4) n1 ∧ NumC s s' (E + 6) (D + 6) n2 ∧ NumC s s' (E + 8) (D + 8) n3 ∧ NumC s s' (E + 10) (D + 10) n4 ∧ NumC s s' (E + 12) (D + 12) n5 ∧ NumC s s' (E + 14) (D + 14) n6 ∧ NumC s s' (E + 16) (D + 16) n7 := by
  have h0 := wyX_sh hs (a := D + 1) (b := E + 1) (by omega) (by omega) 6 (by omega)
  have z0 := wyX_c s (D + 1) (E + 1) 6
  have r0 : ∀ k j, zR (wyX s (D + 1) (E + 1) 6) k j = if k = D + 1 ∧ j < 6 then zR s (E + 1) j else zR s k j := fun k j => wyX_r s (D + 1) (E + 1) k j 6
  have v0 : ∀ k j, zM (wyX s (D + 1) (E + 1) 6) k j = zM s k j := fun k j => wyX_m s (D + 1) (E + 1) 6 k j
  have x0 := x_ways hs hDE hN
  generalize wyX s (D + 1) (E + 1) 6 = w0 at *
  have hh0 : zR w0 E 2 = some hd := by rw [r0, if_neg (by omega)]; exact hh
  have h1 : Sh (zPM (zPR (zPM w0 D 1 (zM s E 1)) D 2 (some hd)) D 3 (zM s E 3)) := ((h0.pm _ _ _).pr (sh12 D (by omega)) (fun q => by omega)).pm _ _ _
  have v1 : ∀ k j, zM (zPM (zPR (zPM w0 D 1 (zM s E 1)) D 2 (some hd)) D 3 (zM s E 3)) k j = if k = D ∧ j = 3 then zM s E 3 else if k = D ∧ j = 1 then zM s E 1 else zM s k j := fun k j => by
    rw [zM_PM, zM_PR, zM_PM, v0]
  have r1 : ∀ k j, zR (zPM (zPR (zPM w0 D 1 (zM s E 1)) D 2 (some hd)) D 3 (zM s E 3)) k j = if k = D ∧ j = 2 then some hd else if k = D + 1 ∧ j < 6 then zR s (E + 1) j else zR s k j := fun k j => by
    rw [zR_PM, zR_PR, zR_PM, r0]
  have q1 : (zPM (zPR (zPM w0 D 1 (zM s E 1)) D 2 (some hd)) D 3 (zM s E 3)).1 = s.1 ∧ (zPM (zPR (zPM w0 D 1 (zM s E 1)) D 2 (some hd)) D 3 (zM s E 3)).2.1 = s.2.1 := ⟨z0.1, z0.2.1⟩
  have p1 : f_X2_copyAll_38 N D E w0 = f_X2_copyAll_38 N D E w0 := rfl
  obtain ⟨d1, d2, d3, d4, d5, d6, d7, d8, d9, d10, d11, d12, d13, d14, d15, d16, d17, d18⟩ := deskF h1 (D := D) (by omega)
  obtain ⟨e1, e2, e3, e4, e5, e6, e7, e8, e9, e10, e11, e12, e13, e14, e15, e16, e17, e18⟩ := deskF h1 (D := E) (by omega)
  obtain ⟨da, -⟩ := deskF h0 (D := D) (by omega)
  obtain ⟨ea, -⟩ := deskF h0 (D := E) (by omega)
  generalize hs1 : zPM (zPR (zPM w0 D 1 (zM s E 1)) D 2 (some hd)) D 3 (zM s E 3) = s1 at *
  have k1 := x_copy d12 e12 (by omega) (by rw [v1, if_neg (by omega), if_neg (by omega)]; exact m1) c1 (by omega) (by omega) (by omega) hN
  have C1 := cpX_c s1 (D + 4) (E + 4) n1
  have V1 : ∀ k j, zM (cpX s1 (D + 4) (E + 4) n1) k j = _ := fun k j => cpX_m s1 (D + 4) (E + 4) k j n1
  have R1 : ∀ k j, zR (cpX s1 (D + 4) (E + 4) n1) k j = zR s1 k j := fun k j => by unfold zR; rw [C1.2.2]
  generalize cpX s1 (D + 4) (E + 4) n1 = s2 at *
  have T1 : ∀ k, zTg s2 k = zTg s1 k := fun k => by unfold zTg; rw [C1.2.1]
  have k2 := x_copy (d13.cc C1.2.1 (R1 _ _)) (e13.cc C1.2.1 (R1 _ _)) (by omega) (by rw [V1, if_neg (by omega), if_neg (by omega), v1, if_neg (by omega), if_neg (by omega)]; exact m2) c2 (by omega) (by omega) (by omega) hN
  have C2 := cpX_c s2 (D + 6) (E + 6) n2
  have V2 : ∀ k j, zM (cpX s2 (D + 6) (E + 6) n2) k j = _ := fun k j => cpX_m s2 (D + 6) (E + 6) k j n2
  have R2 : ∀ k j, zR (cpX s2 (D + 6) (E + 6) n2) k j = zR s1 k j := fun k j => by unfold zR; rw [C2.2.2]; exact R1 k j
  generalize cpX s2 (D + 6) (E + 6) n2 = s3 at *
  have T2 : ∀ k, zTg s3 k = zTg s1 k := fun k => by unfold zTg; rw [C2.2.1]; exact T1 k
  have f6 : zM s3 E 6 = zM s E 6 := by rw [V2, if_neg (by omega), if_neg (by omega), V1, if_neg (by omega), if_neg (by omega), v1, if_neg (by omega), if_neg (by omega)]
  have f7 : zM s3 E 7 = zM s E 7 := by rw [V2, if_neg (by omega), if_neg (by omega), V1, if_neg (by omega), if_neg (by omega), v1, if_neg (by omega), if_neg (by omega)]
  have V3 : ∀ k j, zM (zPM (zPM s3 D 6 (zM s E 6)) D 7 (zM s E 7)) k j = if k = D ∧ j = 7 then zM s E 7 else if k = D ∧ j = 6 then zM s E 6 else zM s3 k j := fun k j => by rw [zM_PM, zM_PM]
  have C3 : (zPM (zPM s3 D 6 (zM s E 6)) D 7 (zM s E 7)).2.1 = s1.2.1 ∧ (zPM (zPM s3 D 6 (zM s E 6)) D 7 (zM s E 7)).1 = s1.1 := ⟨C2.2.1.trans C1.2.1, C2.1.trans C1.1⟩
  have R3 : ∀ k j, zR (zPM (zPM s3 D 6 (zM s E 6)) D 7 (zM s E 7)) k j = zR s1 k j := fun k j => by rw [zR_PM, zR_PM]; exact R2 k j
  have T3 : ∀ k, zTg (zPM (zPM s3 D 6 (zM s E 6)) D 7 (zM s E 7)) k = zTg s1 k := fun k => by rw [zTg_PM, zTg_PM]; exact T2 k
  generalize hs4 : zPM (zPM s3 D 6 (zM s E 6)) D 7 (zM s E 7) = s4 at *
  have k3 := x_copy (d14.cc C3.1 (R3 _ _)) (e14.cc C3.1 (R3 _ _)) (by omega) (by rw [V3, if_neg (by omega), if_neg (by omega), V2, if_neg (by omega), if_neg (by omega), V1, if_neg (by omega), if_neg (by omega), v1, if_neg (by omega), if_neg (by omega)]; exact m3) c3 (by omega) (by omega) (by omega) hN
  have C4 := cpX_c s4 (D + 8) (E + 8) n3
  have V4 : ∀ k j, zM (cpX s4 (D + 8) (E + 8) n3) k j = _ := fun k j => cpX_m s4 (D + 8) (E + 8) k j n3
  have R4 : ∀ k j, zR (cpX s4 (D + 8) (E + 8) n3) k j = zR s1 k j := fun k j => by unfold zR; rw [C4.2.2]; exact R3 k j
  generalize cpX s4 (D + 8) (E + 8) n3 = s5 at *
  have D5 : s5.2.1 = s1.2.1 := C4.2.1.trans C3.1
  have T4 : ∀ k, zTg s5 k = zTg s1 k := fun k => by unfold zTg; rw [D5]
  have k4 := x_copy (d15.cc D5 (R4 _ _)) (e15.cc D5 (R4 _ _)) (by omega) (by rw [V4, if_neg (by omega), if_neg (by omega), V3, if_neg (by omega), if_neg (by omega), V2, if_neg (by omega), if_neg (by omega), V1, if_neg (by omega), if_neg (by omega), v1, if_neg (by omega), if_neg (by omega)]; exact m4) c4 (by omega) (by omega) (by omega) hN
  have C5 := cpX_c s5 (D + 10) (E + 10) n4
  have V5 : ∀ k j, zM (cpX s5 (D + 10) (E + 10) n4) k j = _ := fun k j => cpX_m s5 (D + 10) (E + 10) k j n4
  have R5 : ∀ k j, zR (cpX s5 (D + 10) (E + 10) n4) k j = zR s1 k j := fun k j => by unfold zR; rw [C5.2.2]; exact R4 k j
  generalize cpX s5 (D + 10) (E + 10) n4 = s6 at *
  have D6 : s6.2.1 = s1.2.1 := C5.2.1.trans D5
  have T5 : ∀ k, zTg s6 k = zTg s1 k := fun k => by unfold zTg; rw [D6]
  have k5 := x_copy (d16.cc D6 (R5 _ _)) (e16.cc D6 (R5 _ _)) (by omega) (by rw [V5, if_neg (by omega), if_neg (by omega), V4, if_neg (by omega), if_neg (by omega), V3, if_neg (by omega), if_neg (by omega), V2, if_neg (by omega), if_neg (by omega), V1, if_neg (by omega), if_neg (by omega), v1, if_neg (by omega), if_neg (by omega)]; exact m5) c5 (by omega) (by omega) (by omega) hN
  have C6 := cpX_c s6 (D + 12) (E + 12) n5
  have V6 : ∀ k j, zM (cpX s6 (D + 12) (E + 12) n5) k j = _ := fun k j => cpX_m s6 (D + 12) (E + 12) k j n5
  have R6 : ∀ k j, zR (cpX s6 (D + 12) (E + 12) n5) k j = zR s1 k j := fun k j => by unfold zR; rw [C6.2.2]; exact R5 k j
  generalize cpX s6 (D + 12) (E + 12) n5 = s7 at *
  have D7 : s7.2.1 = s1.2.1 := C6.2.1.trans D6
  have T6 : ∀ k, zTg s7 k = zTg s1 k := fun k => by unfold zTg; rw [D7]
  have k6 := x_copy (d17.cc D7 (R6 _ _)) (e17.cc D7 (R6 _ _)) (by omega) (by rw [V6, if_neg (by omega), if_neg (by omega), V5, if_neg (by omega), if_neg (by omega), V4, if_neg (by omega), if_neg (by omega), V3, if_neg (by omega), if_neg (by omega), V2, if_neg (by omega), if_neg (by omega), V1, if_neg (by omega), if_neg (by omega), v1, if_neg (by omega), if_neg (by omega)]; exact m6) c6 (by omega) (by omega) (by omega) hN
  have C7 := cpX_c s7 (D + 14) (E + 14) n6
  have V7 : ∀ k j, zM (cpX s7 (D + 14) (E + 14) n6) k j = _ := fun k j => cpX_m s7 (D + 14) (E + 14) k j n6
  have R7 : ∀ k j, zR (cpX s7 (D + 14) (E + 14) n6) k j = zR s1 k j := fun k j => by unfold zR; rw [C7.2.2]; exact R6 k j
  generalize cpX s7 (D + 14) (E + 14) n6 = s8 at *
  have D8 : s8.2.1 = s1.2.1 := C7.2.1.trans D7
  have T7 : ∀ k, zTg s8 k = zTg s1 k := fun k => by unfold zTg; rw [D8]
  have k7 := x_copy (d18.cc D8 (R7 _ _)) (e18.cc D8 (R7 _ _)) (by omega) (by rw [V7, if_neg (by omega), if_neg (by omega), V6, if_neg (by omega), if_neg (by omega), V5, if_neg (by omega), if_neg (by omega), V4, if_neg (by omega), if_neg (by omega), V3, if_neg (by omega), if_neg (by omega), V2, if_neg (by omega), if_neg (by omega), V1, if_neg (by omega), if_neg (by omega), v1, if_neg (by omega), if_neg (by omega)]; exact m7) c7 (by omega) (by omega) (by omega) hN
  have C8 := cpX_c s8 (D + 16) (E + 16) n7
  have V8 : ∀ k j, zM (cpX s8 (D + 16) (E + 16) n7) k j = _ := fun k j => cpX_m s8 (D + 16) (E + 16) k j n7
  have R8 : ∀ k j, zR (cpX s8 (D + 16) (E + 16) n7) k j = zR s1 k j := fun k j => by unfold zR; rw [C8.2.2]; exact R7 k j
  generalize cpX s8 (D + 16) (E + 16) n7 = s9 at *
  have ev : f_X2_copyAll N s D E = some s9 := by
    rw [x0]
    unfold f_X2_copyAll_38
    clear V1 V2 V3 V4 V5 V6 V7 V8 v1 r0
    rw [if_pos (by rw [ea]; exact List.mem_singleton.mpr rfl), if_pos (by rw [da]; exact List.mem_singleton.mpr rfl)]
    have y1 : zR (zPM w0 D 1 (zM w0 E 1)) E 2 = some hd := hh0
    have y2 : zPM (zPR (zPM w0 D 1 (zM w0 E 1)) D 2 (some hd)) D 3 (zM (zPR (zPM w0 D 1 (zM w0 E 1)) D 2 (some hd)) E 3) = s1 := by
      rw [zM_PR, zM_PM, if_neg (by omega), v0, v0, hs1]
    have y3 : zPM (zPM s3 D 6 (zM s3 E 6)) D 7 (zM (zPM s3 D 6 (zM s3 E 6)) E 7) = s4 := by
      rw [zM_PM, if_neg (by omega), f6, f7, hs4]
    rw [bs y1, y2, bs d5]
    simp only [↓bs e5, d12.1, ↓bs k1, T1, d1, ↓bs ((R1 _ _).trans d6), e1, ↓bs ((R1 _ _).trans e6), d13.1, ↓bs k2, T2, y3, ↓bs ((R3 _ _).trans d7), ↓bs ((R3 _ _).trans e7), T3, d14.1, ↓bs k3, T4, ↓bs ((R4 _ _).trans d8), ↓bs ((R4 _ _).trans e8), d15.1, ↓bs k4, T5, ↓bs ((R5 _ _).trans d9), ↓bs ((R5 _ _).trans e9), d16.1, ↓bs k5, T6, ↓bs ((R6 _ _).trans d10), ↓bs ((R6 _ _).trans e10), d17.1, ↓bs k6, T7, ↓bs ((R7 _ _).trans d11), ↓bs ((R7 _ _).trans e11), d18.1, ↓bs k7, List.mem_singleton, ↓reduceIte]
  have D9 : s9.2.1 = s1.2.1 := C8.2.1.trans D8
  have F9 : s9.1 = s1.1 := C8.1.trans (C7.1.trans (C6.1.trans (C5.1.trans (C4.1.trans C3.2))))
  have Z9 : ∀ k j, zR s9 k j = if k = D ∧ j = 2 then some hd else if k = D + 1 ∧ j < 6 then zR s (E + 1) j else zR s k j := fun k j => (R8 k j).trans (r1 k j)
  have sh9 : Sh s9 := ⟨by rw [F9]; exact h1.1, fun k hk => by rw [D9]; exact h1.2.1 k hk, fun q hq => (R8 _ _).trans (h1.2.2.1 q hq), fun k hk j hj a q => by
    have e : zTg s9 a = zTg s1 a := by unfold zTg; rw [D9]
    rw [F9, e]; exact h1.2.2.2 k hk j hj a ((R8 k j).symm.trans q)⟩
  refine ⟨s9, ev, sh9, F9.trans q1.1, D9.trans q1.2, Z9, fun k j hk => ?_, ?_, ?_, ?_, ?_, ⟨?_, fun i hi => ?_⟩, ⟨?_, fun i hi => ?_⟩, ⟨?_, fun i hi => ?_⟩, ⟨?_, fun i hi => ?_⟩, ⟨?_, fun i hi => ?_⟩, ⟨?_, fun i hi => ?_⟩, ⟨?_, fun i hi => ?_⟩⟩ <;> rcases hDE with ⟨rfl, rfl⟩ | ⟨rfl, rfl⟩ <;> simp (disch := omega) only [V8, V7, V6, V5, V4, V3, V2, V1, v1, ↓if_neg, ↓if_pos, m1, m2, m3, m4, m5, m6, m7]
