/-! way -/
def Grow (st s' : zS) : Prop := st.1 ≤ s'.1 ∧ ∀ q, q < st.1 → s'.2.1 q = st.2.1 q ∧ (∀ j, zR s' q j = zR st q j) ∧ ∀ j, zM s' q j = zM st q j
theorem Grow.nw (st : zS) (t n : Nat) : Grow st (zNw st t n) := by
  refine ⟨Nat.le_succ _, fun q hq => ⟨?_, fun j => ?_, fun j => ?_⟩⟩
  · show (if q = st.1 then (t, n) else st.2.1 q) = _
    rw [if_neg (by omega)]
  · rw [zR_Nw, if_neg (by omega)]
  · rw [zM_Nw, if_neg (by omega)]
theorem Grow.tr {a b c : zS} (h : Grow a b) (g : Grow b c) : Grow a c := ⟨Nat.le_trans h.1 g.1, fun q hq => by
  have h2 := h.2 q hq
  have g2 := g.2 q (Nat.lt_of_lt_of_le hq h.1)
  exact ⟨g2.1.trans h2.1, fun j => (g2.2.1 j).trans (h2.2.1 j), fun j => (g2.2.2 j).trans (h2.2.2 j)⟩⟩
theorem Grow.pm {a b : zS} (h : Grow a b) {k : Nat} (hk : a.1 ≤ k) (j : Nat) (x : Int32) : Grow a (zPM b k j x) := ⟨h.1, fun q hq => ⟨(h.2 q hq).1, (h.2 q hq).2.1, fun j' => by rw [zM_PM, if_neg (by omega)]; exact (h.2 q hq).2.2 j'⟩⟩
theorem Grow.pr {a b : zS} (h : Grow a b) {k : Nat} (hk : a.1 ≤ k) (j : Nat) (x : Option Nat) : Grow a (zPR b k j x) := ⟨h.1, fun q hq => ⟨(h.2 q hq).1, fun j' => by rw [zR_PR, if_neg (by omega)]; exact (h.2 q hq).2.1 j', (h.2 q hq).2.2⟩⟩
theorem Grow.cl (st : zS) (k : Nat) : Grow st (zCl st k) := by
  refine ⟨Nat.le_succ _, fun q hq => ⟨?_, fun j => ?_, fun j => ?_⟩⟩
  · show (if q = st.1 then st.2.1 k else st.2.1 q) = _
    rw [if_neg (by omega)]
  · rw [zR_Cl, if_neg (by omega)]
  · rw [zM_Cl, if_neg (by omega)]
theorem Grow.tg {a b : zS} (h : Grow a b) {q : Nat} (hq : q < a.1) : zTg b q = zTg a q := by unfold zTg; rw [(h.2 q hq).1]
theorem Grow.sh {a b : zS} (h : Grow a b) (hs : Sh a) : Sh b := by
  have h1 := hs.1
  have hq : ∀ q ∈ shRL, q.1 < 47 := by decide
  refine ⟨Nat.le_trans hs.1 h.1, fun k hk => by rw [(h.2 k (by omega)).1]; exact hs.2.1 k hk, fun q hq2 => by rw [(h.2 q.1 (by have := hq q hq2; omega)).2.1]; exact hs.2.2.1 q hq2, fun k hk j hj a q => ?_⟩
  rw [(h.2 k (by omega)).2.1] at q
  have := hs.2.2.2 k hk j hj a q
  exact ⟨Nat.lt_of_lt_of_le this.1 h.1, by rw [h.tg this.1]; exact this.2⟩
theorem Grow.kept {a b : zS} (h : Grow a b) (hs : Sh a) : Kept a b := ⟨h.1, fun k hk => h.2 k (by have := hs.1; unfold Dyn at hk; omega)⟩
theorem init_any {s : zS} {o : Nat} (ho : zTg s o ∈ zLs) (kd n v sl : Int32) : f_X4_init s o kd n v sl = some (zPM (zPM (zPM (zPM s o 0 kd) o 1 n) o 2 v) o 3 sl) := by
  unfold f_X4_init
  rw [if_pos ho]
def ini4 (s : zS) (o : Nat) (kd n v sl : Int32) : zS := zPM (zPM (zPM (zPM s o 0 kd) o 1 n) o 2 v) o 3 sl
theorem x_made {st : zS} {k : Nat} (hk : k ≤ 6) (n v sl : Int32) : ∃ s', f_X11_made st (nI k) n v sl = some (s', some st.1) ∧ Grow st s' ∧ st.1 < s'.1 ∧ zTg s' st.1 = tgK k ∧ zM s' st.1 0 = nI k ∧ zM s' st.1 1 = n ∧ zM s' st.1 2 = v ∧ zM s' st.1 3 = sl ∧ (k = 6 → zR s' st.1 4 = some (st.1 + 1) ∧ st.1 + 1 < s'.1 ∧ zTg s' (st.1 + 1) = 1 ∧ zLn s' (st.1 + 1) = 4 ∧ ∀ j, zM s' (st.1 + 1) j = 0) := by
  have hkk : k = 0 ∨ k = 1 ∨ k = 2 ∨ k = 3 ∨ k = 4 ∨ k = 5 ∨ k = 6 := by omega
  have gen : ∀ t, t ∈ zLs → f_X4_init (zNw st t 0) st.1 (nI k) n v sl = some (ini4 (zNw st t 0) st.1 (nI k) n v sl) ∧ Grow st (ini4 (zNw st t 0) st.1 (nI k) n v sl) ∧ st.1 < (ini4 (zNw st t 0) st.1 (nI k) n v sl).1 ∧ zTg (ini4 (zNw st t 0) st.1 (nI k) n v sl) st.1 = t ∧ zM (ini4 (zNw st t 0) st.1 (nI k) n v sl) st.1 0 = nI k ∧ zM (ini4 (zNw st t 0) st.1 (nI k) n v sl) st.1 1 = n ∧ zM (ini4 (zNw st t 0) st.1 (nI k) n v sl) st.1 2 = v ∧ zM (ini4 (zNw st t 0) st.1 (nI k) n v sl) st.1 3 = sl := fun t ht => by
    have tt : zTg (zNw st t 0) st.1 = t := by rw [zTg_Nw, if_pos rfl]
    unfold ini4
    refine ⟨init_any (by rw [tt]; exact ht) _ _ _ _, ((((Grow.nw st t 0).pm (Nat.le_refl _) _ _).pm (Nat.le_refl _) _ _).pm (Nat.le_refl _) _ _).pm (Nat.le_refl _) _ _, Nat.lt_succ_self _, ?_, ?_, ?_, ?_, ?_⟩
    · rw [zTg_PM, zTg_PM, zTg_PM, zTg_PM]; exact tt
    all_goals simp (disch := omega) only [zM_PM, if_pos, if_neg, and_self, if_true]
  have n1 : ∀ a b : Nat, a < 7 → b < 7 → (nI a = nI b) = (a = b) := fun a b _ _ => n_eq (by omega) (by omega)
  rcases hkk with rfl | rfl | rfl | rfl | rfl | rfl | rfl
  · obtain ⟨e, g⟩ := gen 14 (by decide)
    refine ⟨_, ?_, g.1, g.2.1, g.2.2.1, g.2.2.2.1, g.2.2.2.2.1, g.2.2.2.2.2.1, g.2.2.2.2.2.2, fun q => absurd q (by decide)⟩
    unfold f_X11_made
    rw [if_neg (by decide), if_neg (by decide), if_neg (by decide), if_neg (by decide), if_neg (by decide), if_neg (by decide), e]; rfl
  · obtain ⟨e, g⟩ := gen 20 (by decide)
    refine ⟨_, ?_, g.1, g.2.1, g.2.2.1, g.2.2.2.1, g.2.2.2.2.1, g.2.2.2.2.2.1, g.2.2.2.2.2.2, fun q => absurd q (by decide)⟩
    unfold f_X11_made f_X10_init
    rw [if_pos rfl, e]; rfl
  · obtain ⟨e, g⟩ := gen 10 (by decide)
    refine ⟨_, ?_, g.1, g.2.1, g.2.2.1, g.2.2.2.1, g.2.2.2.2.1, g.2.2.2.2.2.1, g.2.2.2.2.2.2, fun q => absurd q (by decide)⟩
    unfold f_X11_made f_X0_init
    rw [if_neg (by decide), if_pos rfl, e]; rfl
  · obtain ⟨e, g⟩ := gen 13 (by decide)
    refine ⟨_, ?_, g.1, g.2.1, g.2.2.1, g.2.2.2.1, g.2.2.2.2.1, g.2.2.2.2.2.1, g.2.2.2.2.2.2, fun q => absurd q (by decide)⟩
    unfold f_X11_made f_X3_init
    rw [if_neg (by decide), if_neg (by decide), if_pos rfl, e]; rfl
  · obtain ⟨e, g⟩ := gen 19 (by decide)
    refine ⟨_, ?_, g.1, g.2.1, g.2.2.1, g.2.2.2.1, g.2.2.2.2.1, g.2.2.2.2.2.1, g.2.2.2.2.2.2, fun q => absurd q (by decide)⟩
    unfold f_X11_made f_X9_init f_X10_init
    rw [if_neg (by decide), if_neg (by decide), if_neg (by decide), if_pos rfl, e]; rfl
  · obtain ⟨e, g⟩ := gen 11 (by decide)
    refine ⟨_, ?_, g.1, g.2.1, g.2.2.1, g.2.2.2.1, g.2.2.2.2.1, g.2.2.2.2.2.1, g.2.2.2.2.2.2, fun q => absurd q (by decide)⟩
    unfold f_X11_made f_X1_init f_X0_init
    rw [if_neg (by decide), if_neg (by decide), if_neg (by decide), if_neg (by decide), if_pos rfl, e]; rfl
  · clear gen
    have tt : zTg (zNw (zNw st 17 0) 1 4) st.1 = 17 := by
      rw [zTg_Nw, if_neg (by show ¬ st.1 = st.1 + 1; omega), zTg_Nw, if_pos rfl]
    have z1 : (zNw st 17 0).1 = st.1 + 1 := rfl
    have gr : Grow st (zNw (zNw st 17 0) 1 4) := (Grow.nw st 17 0).tr (Grow.nw _ 1 4)
    have e : f_X3_init (zNw (zNw st 17 0) 1 4) st.1 (nI 6) n v sl = some (ini4 (zNw (zNw st 17 0) 1 4) st.1 (nI 6) n v sl) := by
      unfold f_X3_init ini4
      rw [init_any (by rw [tt]; decide)]; rfl
    have t2 : zTg (ini4 (zNw (zNw st 17 0) 1 4) st.1 (nI 6) n v sl) st.1 = 17 := by
      unfold ini4; rw [zTg_PM, zTg_PM, zTg_PM, zTg_PM]; exact tt
    refine ⟨zPR (ini4 (zNw (zNw st 17 0) 1 4) st.1 (nI 6) n v sl) st.1 4 (some (st.1 + 1)), ?_, ?_, ?_, ?_, ?_, ?_, ?_, ?_, fun _ => ⟨?_, ?_, ?_, ?_, fun j => ?_⟩⟩
    · unfold f_X11_made f_X7_init
      rw [if_neg (by decide), if_neg (by decide), if_neg (by decide), if_neg (by decide), if_neg (by decide), if_pos rfl, e, Option.bind_some, if_pos (by rw [t2]; decide)]
      rfl
    · unfold ini4
      exact ((((gr.pm (Nat.le_refl _) _ _).pm (Nat.le_refl _) _ _).pm (Nat.le_refl _) _ _).pm (Nat.le_refl _) _ _).pr (Nat.le_refl _) _ _
    · show st.1 < st.1 + 1 + 1; omega
    · rw [zTg_PR]; exact t2
    · unfold ini4; simp (disch := omega) only [zM_PR, zM_PM, if_pos, if_neg, and_self, if_true]
    · unfold ini4; simp (disch := omega) only [zM_PR, zM_PM, if_pos, if_neg, and_self, if_true]
    · unfold ini4; simp (disch := omega) only [zM_PR, zM_PM, if_pos, if_neg, and_self, if_true]
    · unfold ini4; simp (disch := omega) only [zM_PR, zM_PM, if_pos, if_neg, and_self, if_true]
    · rw [zR_PR, if_pos ⟨rfl, rfl⟩]
    · show st.1 + 1 < st.1 + 1 + 1; omega
    · unfold ini4; rw [zTg_PR, zTg_PM, zTg_PM, zTg_PM, zTg_PM, zTg_Nw, if_pos (by rfl)]
    · unfold ini4; rw [zLn_PR, zLn_PM, zLn_PM, zLn_PM, zLn_PM, zLn_Nw, if_pos (by rfl)]
    · unfold ini4
      rw [zM_PR, zM_PM, if_neg (by omega), zM_PM, if_neg (by omega), zM_PM, if_neg (by omega), zM_PM, if_neg (by omega), zM_Nw, if_pos (by rfl)]
theorem inv_ways {st s2 : zS} (h : Inv st) (kp : Kept st s2) (hsh : Sh s2) (hm : ∀ k j, k ≠ 40 → k < 47 → ¬ (k = 1 ∧ j = 1) → zM s2 k j = zM st k j) (hB : ∀ j, j ≠ 0 → ¬ (11 ≤ j ∧ j < 53) → zM s2 40 j = zM st 40 j) {K' : Nat} (h0 : zM s2 40 0 = nI K') (hK : K st 40 0 ≤ K') (hK6 : K' ≤ 6) (h11 : zM s2 1 1 = nI K') (r1 : zR s2 1 2 = zR st 1 2) (r2 : zR s2 19 2 = zR st 19 2) (r3 : ∀ j, zR s2 20 j = zR st 20 j) (hw : ∀ w, w < K' → ∃ a, zR s2 2 w = some a ∧ LineR s2 a w 40) : Inv s2 := by
  obtain ⟨hs, ⟨⟨⟨a1, a2⟩, a3⟩, ⟨⟨b1, b2⟩, b3⟩, c1, c2, n1, n2, n3, n4, n5, n6, n7, e1, e2, hh, e3, e4⟩, g3, g4, g5, n, g6, g7, g8⟩ := h
  have k0 : K s2 40 0 = K' := K_of h0 (by omega)
  have kk : ∀ c, c ≠ 0 → ¬ (11 ≤ c ∧ c < 53) → K s2 40 c = K st 40 c := fun c q1 q2 => by unfold K; rw [hB c q1 q2]
  have hW : ∀ x, WayE st 40 x → WayE s2 40 x := fun x hx => by
    rcases hx with q | ⟨j, q1, q2⟩
    · exact Or.inl q
    · exact Or.inr ⟨j, by rw [k0]; omega, q2⟩
  have hU : ∀ x, Upto (K st 40 8) x → Upto (K s2 40 8) x := fun x hx => by rw [kk 8 (by omega) (by omega)]; exact hx
  refine ⟨hsh, ⟨⟨⟨by rw [k0]; exact h0, by rw [k0]; exact hK6⟩, by rw [h0]; exact h11⟩, ⟨⟨by rw [kk 1 (by omega) (by omega), hB 1 (by omega) (by omega)]; exact b1, by rw [kk 1 (by omega) (by omega)]; exact b2⟩, by rw [hm 1 3 (by omega) (by omega) (by omega), hB 1 (by omega) (by omega)]; exact b3⟩, by rw [hm 1 6 (by omega) (by omega) (by omega), hB 9 (by omega) (by omega)]; exact c1, by rw [hm 1 7 (by omega) (by omega) (by omega), hB 10 (by omega) (by omega)]; exact c2, n1.cg (hm _ _ (by omega) (by omega) (by omega)) (fun i _ => hm _ _ (by omega) (by omega) (by omega)) (hB _ (by omega) (by omega)) (fun i _ => hB _ (by omega) (by omega)) (fun _ q => q), n2.cg (hm _ _ (by omega) (by omega) (by omega)) (fun i _ => hm _ _ (by omega) (by omega) (by omega)) (hB _ (by omega) (by omega)) (fun i _ => hB _ (by omega) (by omega)) hW, n3.cg (hm _ _ (by omega) (by omega) (by omega)) (fun i _ => hm _ _ (by omega) (by omega) (by omega)) (hB _ (by omega) (by omega)) (fun i _ => hB _ (by omega) (by omega)) (fun _ q => q), n4.cg (hm _ _ (by omega) (by omega) (by omega)) (fun i _ => hm _ _ (by omega) (by omega) (by omega)) (hB _ (by omega) (by omega)) (fun i _ => hB _ (by omega) (by omega)) hU, n5.cg (hm _ _ (by omega) (by omega) (by omega)) (fun i _ => hm _ _ (by omega) (by omega) (by omega)) (hB _ (by omega) (by omega)) (fun i _ => hB _ (by omega) (by omega)) (fun _ q => q), n6.cg (hm _ _ (by omega) (by omega) (by omega)) (fun i _ => hm _ _ (by omega) (by omega) (by omega)) (hB _ (by omega) (by omega)) (fun i _ => hB _ (by omega) (by omega)) (fun _ q => q), n7.cg (hm _ _ (by omega) (by omega) (by omega)) (fun i _ => hm _ _ (by omega) (by omega) (by omega)) (hB _ (by omega) (by omega)) (fun i _ => hB _ (by omega) (by omega)) hW, fun i j hi hj he => ?_, fun w hw2 => by rw [k0] at hw2; exact hw w hw2, hh, by rw [r1]; exact e3, e4.cg kp (by rw [kk 1 (by omega) (by omega)]; exact Nat.le_refl _) b2 (fun j hj => hB j (by omega) (by omega))⟩, by rw [hm 0 2 (by omega) (by omega) (by omega), hm 39 3 (by omega) (by omega) (by omega)]; exact g3, ?_, by rw [hm 37 1 (by omega) (by omega) (by omega), hm 39 20 (by omega) (by omega) (by omega)]; exact g5, n, g6, by rw [hm 39 20 (by omega) (by omega) (by omega)]; exact g7, fun i q1 q2 => by rw [hm 38 i (by omega) (by omega) (by omega), hm 46 i (by omega) (by omega) (by omega)]; exact g8 i q1 q2⟩
  · have l3 := n3.1.2
    rw [kk 2 (by omega) (by omega)] at hi hj
    rw [hB _ (by omega) (by omega), hB _ (by omega) (by omega)] at he
    exact e1 i j hi hj he
  · rcases g4 with q | ⟨q1, q2⟩
    · exact Or.inl (by rw [hm 39 3 (by omega) (by omega) (by omega)]; exact q)
    · exact Or.inr ⟨by rw [hm 39 3 (by omega) (by omega) (by omega)]; exact q1, q2.cg kp r3 r2 (fun k j u1 u2 => hm k j (by omega) (by omega) (by omega)) (fun j => hm 41 j (by omega) (by omega) (by omega))⟩
def rz (s : zS) (b : Nat) : Nat → zS
  | 0 => s
  | i + 1 => zPM (rz s b i) 40 (b + i) (nI 0)
theorem rz_c (s : zS) (b : Nat) : ∀ n, (rz s b n).1 = s.1 ∧ (rz s b n).2.1 = s.2.1 ∧ (rz s b n).2.2.2 = s.2.2.2
  | 0 => ⟨rfl, rfl, rfl⟩
  | n + 1 => rz_c s b n
theorem rz_m (s : zS) (b k j : Nat) : ∀ n, zM (rz s b n) k j = if k = 40 ∧ b ≤ j ∧ j < b + n then nI 0 else zM s k j
  | 0 => by rw [if_neg (by omega)]; rfl
  | n + 1 => by
    show zM (zPM (rz s b n) 40 (b + n) (nI 0)) k j = _
    rw [zM_PM]
    by_cases c : k = 40 ∧ j = b + n
    · rw [if_pos c, if_pos (by omega)]
    · rw [if_neg c, rz_m s b k j n]
      by_cases d : k = 40 ∧ b ≤ j ∧ j < b + n
      · rw [if_pos d, if_pos (by omega)]
      · rw [if_neg d, if_neg (by omega)]
theorem m_way93 {s : zS} (hs : Sh s) {w : Nat} (hw : w < 6) (h0 : zM s 40 0 = nI w) (N : Nat) (a1 a2 a3 : Int32) : ∀ k fuel i, i + k = 4 → k < fuel → f_X12_way_93 N 39 a1 a2 a3 fuel (rz s (29 + 4 * w) i) (nI w) (nI i) = some (zPM (rz s (29 + 4 * w) 4) 40 0 (nI (w + 1)), nI w) := by
  intro k
  induction k with
  | zero =>
    intro fuel i g1 g2
    obtain ⟨fuel, rfl⟩ : ∃ m, fuel = m + 1 := ⟨fuel - 1, by omega⟩
    have hi : i = 4 := by omega
    subst hi
    have h := hs.cc (rz_c s (29 + 4 * w) 4)
    have e : zM (rz s (29 + 4 * w) 4) 40 0 = nI w := by rw [rz_m, if_neg (by omega)]; exact h0
    rw [f_X12_way_93]
    generalize rz s (29 + 4 * w) 4 = z at *
    simp (disch := omega) only [e, ↓reduceIte, List.mem_singleton, Option.bind_some, if_true, if_false, zM_PM, zLn_PM, zTg_PM, zR_PM, ↓zb, ↓zo, ↓zl, n_lt0, n_le, n_lt, n_eq, n_eq0, n_gt0, n_le0, n_ge0, n_zin, n_nat, nI_add, and_self, true_or, false_or, or_false, if_pos, if_neg, f_in_nI, Nat.reduceAdd, t39 h, ↓bs (r39_1 h), t40 h, l40 h]
  | succ k ih =>
    intro fuel i g1 g2
    obtain ⟨fuel, rfl⟩ : ∃ m, fuel = m + 1 := ⟨fuel - 1, by omega⟩
    have e2 := ih fuel (i + 1) (by omega) (by omega)
    have h := hs.cc (rz_c s (29 + 4 * w) i)
    clear ih
    rw [← e2, f_X12_way_93]
    show _ = f_X12_way_93 N 39 a1 a2 a3 fuel (zPM (rz s (29 + 4 * w) i) 40 (29 + 4 * w + i) (nI 0)) (nI w) (nI (i + 1))
    generalize rz s (29 + 4 * w) i = z at *
    simp (disch := omega) only [n_mul, ↓reduceIte, List.mem_singleton, Option.bind_some, if_true, if_false, zM_PM, zLn_PM, zTg_PM, zR_PM, ↓zb, ↓zo, ↓zl, n_lt0, n_le, n_lt, n_eq, n_eq0, n_gt0, n_le0, n_ge0, n_zin, n_nat, nI_add, and_self, true_or, false_or, or_false, if_pos, if_neg, f_in_nI, Nat.reduceAdd, t39 h, ↓bs (r39_1 h), t40 h, l40 h]
theorem f_dig {a : Int32} : (∃ n, n ≤ 9 ∧ a = nI n ∧ f_X11_isDigit a = some (nI 1) ∧ f_X12_in a (nI 0) (nI 9) = some (nI 1)) ∨ (f_X11_isDigit a = some (nI 0) ∧ f_X12_in a (nI 0) (nI 9) = some (nI 0)) := by
  rcases i_neg a with z | ⟨j, hj, rfl⟩
  · refine Or.inr ⟨?_, f_in_neg z 0 9 (by omega)⟩
    unfold f_X11_isDigit
    simp (disch := omega) only [z, if_true]
  · by_cases h : j ≤ 9
    · refine Or.inl ⟨j, h, rfl, ?_, by rw [f_in_nI hj (by omega) (by omega), if_pos ⟨by omega, h⟩]⟩
      unfold f_X11_isDigit
      simp (disch := omega) only [↓reduceIte, List.mem_singleton, Option.bind_some, if_true, if_false, zM_PM, zLn_PM, zTg_PM, zR_PM, ↓zb, ↓zo, ↓zl, n_lt0, n_le, n_lt, n_eq, n_eq0, n_gt0, n_le0, n_ge0, n_zin, n_nat, nI_add, and_self, true_or, false_or, or_false, if_pos, if_neg, f_in_nI, Nat.reduceAdd]
    · refine Or.inr ⟨?_, by rw [f_in_nI hj (by omega) (by omega), if_neg (by omega)]⟩
      unfold f_X11_isDigit
      simp (disch := omega) only [↓reduceIte, List.mem_singleton, Option.bind_some, if_true, if_false, zM_PM, zLn_PM, zTg_PM, zR_PM, ↓zb, ↓zo, ↓zl, n_lt0, n_le, n_lt, n_eq, n_eq0, n_gt0, n_le0, n_ge0, n_zin, n_nat, nI_add, and_self, true_or, false_or, or_false, if_pos, if_neg, f_in_nI, Nat.reduceAdd]
theorem s_way {st : zS} (h : Inv st) {N : Nat} (hN : 3000 ≤ N) (a1 a2 a3 : Int32) : ∃ (r : Int32) (st1 st2 : zS), (f_X11_way st 0 a1 a2 a3 = some (st1, r)) ∧ (f_X12_way N st1 39 a1 a2 a3 = some (st2, r)) ∧ Sh st1 ∧ Inv st2 := by
  have hs := h.1
  have h6 := h.2.1.1.1.2
  have w1 := h.2.1.1.2.trans h.2.1.1.1.1
  have w2 := h.2.1.1.1.1
  have ways := h.2.1.2.2.2.2.2.2.2.2.2.2.2.2.1
  rcases i_neg a1 with z | ⟨k, hk, rfl⟩
  · refine ⟨-1, st, st, ?_, ?_, hs, h⟩
    · unfold f_X11_way; rw [if_pos z]
    · have e := f_in_neg z 0 6 (by omega)
      unfold f_X12_way
      simp (disch := omega) only [↓bs e, ↓reduceIte, List.mem_singleton, Option.bind_some, if_true, if_false, zM_PM, zLn_PM, zTg_PM, zR_PM, ↓zb, ↓zo, ↓zl, n_lt0, n_le, n_lt, n_eq, n_eq0, n_gt0, n_le0, n_ge0, n_zin, n_nat, nI_add, and_self, true_or, false_or, or_false, if_pos, if_neg, f_in_nI, Nat.reduceAdd]
  by_cases hk6 : k ≤ 6
  rotate_left
  · refine ⟨-1, st, st, ?_, ?_, hs, h⟩
    · unfold f_X11_way
      rw [if_neg (by rw [n_lt0 (by omega)]; exact id), if_neg (by rw [n_le (by omega) (by omega)]; exact hk6)]
    · have e : f_X12_in (nI k) (nI 0) (nI 6) = some (nI 0) := by rw [f_in_nI hk (by omega) (by omega), if_neg (by omega)]
      unfold f_X12_way
      simp (disch := omega) only [↓bs e, ↓reduceIte, List.mem_singleton, Option.bind_some, if_true, if_false, zM_PM, zLn_PM, zTg_PM, zR_PM, ↓zb, ↓zo, ↓zl, n_lt0, n_le, n_lt, n_eq, n_eq0, n_gt0, n_le0, n_ge0, n_zin, n_nat, nI_add, and_self, true_or, false_or, or_false, if_pos, if_neg, f_in_nI, Nat.reduceAdd]
  have i1 : f_X12_in (nI k) (nI 0) (nI 6) = some (nI 1) := by rw [f_in_nI hk (by omega) (by omega), if_pos ⟨by omega, hk6⟩]
  rcases f_dig (a := a2) with ⟨v, v1, rfl, v2, v3⟩ | ⟨v2, v3⟩
  rotate_left
  · refine ⟨-2, st, st, ?_, ?_, hs, h⟩
    · unfold f_X11_way
      simp (disch := omega) only [↓bs v2, ↓reduceIte, List.mem_singleton, Option.bind_some, if_true, if_false, zM_PM, zLn_PM, zTg_PM, zR_PM, ↓zb, ↓zo, ↓zl, n_lt0, n_le, n_lt, n_eq, n_eq0, n_gt0, n_le0, n_ge0, n_zin, n_nat, nI_add, and_self, true_or, false_or, or_false, if_pos, if_neg, f_in_nI, Nat.reduceAdd]
    · unfold f_X12_way
      simp (disch := omega) only [↓bs i1, ↓bs v3, ↓reduceIte, List.mem_singleton, Option.bind_some, if_true, if_false, zM_PM, zLn_PM, zTg_PM, zR_PM, ↓zb, ↓zo, ↓zl, n_lt0, n_le, n_lt, n_eq, n_eq0, n_gt0, n_le0, n_ge0, n_zin, n_nat, nI_add, and_self, true_or, false_or, or_false, if_pos, if_neg, f_in_nI, Nat.reduceAdd]
  rcases i_neg a3 with z | ⟨sl, hsl, rfl⟩
  · refine ⟨-2, st, st, ?_, ?_, hs, h⟩
    · unfold f_X11_way
      simp (disch := omega) only [↓bs v2, m_gt z, ↓reduceIte, List.mem_singleton, Option.bind_some, if_true, if_false, zM_PM, zLn_PM, zTg_PM, zR_PM, ↓zb, ↓zo, ↓zl, n_lt0, n_le, n_lt, n_eq, n_eq0, n_gt0, n_le0, n_ge0, n_zin, n_nat, nI_add, and_self, true_or, false_or, or_false, if_pos, if_neg, f_in_nI, Nat.reduceAdd]
    · have e := f_in_neg z 1 60 (by omega)
      unfold f_X12_way
      simp (disch := omega) only [↓bs i1, ↓bs v3, ↓bs e, ↓reduceIte, List.mem_singleton, Option.bind_some, if_true, if_false, zM_PM, zLn_PM, zTg_PM, zR_PM, ↓zb, ↓zo, ↓zl, n_lt0, n_le, n_lt, n_eq, n_eq0, n_gt0, n_le0, n_ge0, n_zin, n_nat, nI_add, and_self, true_or, false_or, or_false, if_pos, if_neg, f_in_nI, Nat.reduceAdd]
  by_cases hsl2 : 1 ≤ sl ∧ sl ≤ 60
  rotate_left
  · refine ⟨-2, st, st, ?_, ?_, hs, h⟩
    · unfold f_X11_way
      by_cases q : sl < 1 <;> simp (disch := omega) only [↓bs v2, q, ↓reduceIte, List.mem_singleton, Option.bind_some, if_true, if_false, zM_PM, zLn_PM, zTg_PM, zR_PM, ↓zb, ↓zo, ↓zl, n_lt0, n_le, n_lt, n_eq, n_eq0, n_gt0, n_le0, n_ge0, n_zin, n_nat, nI_add, and_self, true_or, false_or, or_false, if_pos, if_neg, f_in_nI, Nat.reduceAdd]
    · have e : f_X12_in (nI sl) (nI 1) (nI 60) = some (nI 0) := by rw [f_in_nI hsl (by omega) (by omega), if_neg hsl2]
      unfold f_X12_way
      simp (disch := omega) only [↓bs i1, ↓bs v3, ↓bs e, ↓reduceIte, List.mem_singleton, Option.bind_some, if_true, if_false, zM_PM, zLn_PM, zTg_PM, zR_PM, ↓zb, ↓zo, ↓zl, n_lt0, n_le, n_lt, n_eq, n_eq0, n_gt0, n_le0, n_ge0, n_zin, n_nat, nI_add, and_self, true_or, false_or, or_false, if_pos, if_neg, f_in_nI, Nat.reduceAdd]
  have i3 : f_X12_in (nI sl) (nI 1) (nI 60) = some (nI 1) := by rw [f_in_nI hsl (by omega) (by omega), if_pos hsl2]
  have wc : f_X2_wayCount st 1 = some (nI (K st 40 0)) := by unfold f_X2_wayCount; rw [t1 hs, w1]; rfl
  obtain ⟨s1, m1, m2, m3, m4, m5, m6, m7, m8, m9⟩ := x_made (st := st) hk6 (nI (K st 40 0)) (nI v) (nI sl)
  have hs1 := m2.sh hs
  have hst := hs.1
  have old : ∀ q j, q < 47 → zM s1 q j = zM st q j := fun q j hq => (m2.2 q (by omega)).2.2 j
  have oldr : ∀ q j, q < 47 → zR s1 q j = zR st q j := fun q j hq => (m2.2 q (by omega)).2.1 j
  have e11 : zM s1 1 1 = nI (K st 40 0) := (old 1 1 (by omega)).trans w1
  have e40 : zM s1 40 0 = nI (K st 40 0) := (old 40 0 (by omega)).trans w2
  have tl : tgK k ∈ zLs := tgK_in hk6
  by_cases hf : K st 40 0 = 6
  · rw [hf] at e11 e40 wc m1
    refine ⟨-4, s1, s1, ?_, ?_, hs1, ?_⟩
    · clear m9
      unfold f_X11_way f_X2_addWay
      simp (disch := omega) only [↓bs v2, t0 hs, ↓bs (r0_0 hs), t1 hs, ↓bs wc, m1, t1 hs1, e11, ↓bs (r1_0 hs1), t2 hs1, l2 hs1, ↓reduceIte, List.mem_singleton, Option.bind_some, if_true, if_false, zM_PM, zLn_PM, zTg_PM, zR_PM, ↓zb, ↓zo, ↓zl, n_lt0, n_le, n_lt, n_eq, n_eq0, n_gt0, n_le0, n_ge0, n_zin, n_nat, nI_add, and_self, true_or, false_or, or_false, if_pos, if_neg, f_in_nI, Nat.reduceAdd]
    · clear m9
      unfold f_X12_way
      simp (disch := omega) only [↓bs i1, ↓bs v3, ↓bs i3, e40, ↓reduceIte, List.mem_singleton, Option.bind_some, if_true, if_false, zM_PM, zLn_PM, zTg_PM, zR_PM, ↓zb, ↓zo, ↓zl, n_lt0, n_le, n_lt, n_eq, n_eq0, n_gt0, n_le0, n_ge0, n_zin, n_nat, nI_add, and_self, true_or, false_or, or_false, if_pos, if_neg, f_in_nI, Nat.reduceAdd, t39 hs1, ↓bs (r39_1 hs1), t40 hs1, l40 hs1]
    · exact inv_ways h (m2.kept hs) hs1 (fun q j _ hq _ => old q j hq) (fun j _ _ => old 40 j (by omega)) (K' := 6) e40 (by omega) (Nat.le_refl _) e11 (oldr 1 2 (by omega)) (oldr 19 2 (by omega)) (fun j => oldr 20 j (by omega)) (fun w hw => by
        obtain ⟨a, q1, q2⟩ := ways w (by omega)
        exact ⟨a, (oldr 2 w (by omega)).trans q1, q2.cg (m2.kept hs) (fun j _ => old 40 j (by omega))⟩)
  · have hlt : K st 40 0 < 6 := by omega
    have hA : Sh (zPM (zPR s1 2 (K st 40 0) (some st.1)) 1 1 (nI (K st 40 0 + 1))) := (hs1.pr (sh2 2 (Or.inl rfl) _) (fun _ a q => by
      obtain rfl := Option.some.inj q
      exact ⟨m3, by rw [m4]; exact tl⟩)).pm _ _ _
    have VA : ∀ q j, zM (zPM (zPR s1 2 (K st 40 0) (some st.1)) 1 1 (nI (K st 40 0 + 1))) q j = if q = 1 ∧ j = 1 then nI (K st 40 0 + 1) else zM s1 q j := fun q j => by rw [zM_PM, zM_PR]
    have RA : ∀ q j, zR (zPM (zPR s1 2 (K st 40 0) (some st.1)) 1 1 (nI (K st 40 0 + 1))) q j = if q = 2 ∧ j = K st 40 0 then some st.1 else zR s1 q j := fun q j => by rw [zR_PM, zR_PR]
    have xe : f_X11_way st 0 (nI k) (nI v) (nI sl) = some (zPM (zPR s1 2 (K st 40 0) (some st.1)) 1 1 (nI (K st 40 0 + 1)), nI (K st 40 0)) := by
      clear m9 VA RA hA
      unfold f_X11_way f_X2_addWay
      simp (disch := omega) only [↓bs v2, t0 hs, ↓bs (r0_0 hs), t1 hs, ↓bs wc, m1, t1 hs1, e11, ↓bs (r1_0 hs1), t2 hs1, l2 hs1, m4, tl, zM_PR, ↓reduceIte, List.mem_singleton, Option.bind_some, if_true, if_false, zM_PM, zLn_PM, zTg_PM, zR_PM, ↓zb, ↓zo, ↓zl, n_lt0, n_le, n_lt, n_eq, n_eq0, n_gt0, n_le0, n_ge0, n_zin, n_nat, nI_add, and_self, true_or, false_or, or_false, if_pos, if_neg, f_in_nI, Nat.reduceAdd]
    have OA : (zPM (zPR s1 2 (K st 40 0) (some st.1)) 1 1 (nI (K st 40 0 + 1))).1 = s1.1 ∧ (zPM (zPR s1 2 (K st 40 0) (some st.1)) 1 1 (nI (K st 40 0 + 1))).2.1 = s1.2.1 := ⟨rfl, rfl⟩
    generalize zPM (zPR s1 2 (K st 40 0) (some st.1)) 1 1 (nI (K st 40 0 + 1)) = sA at *
    generalize hKK : K st 40 0 = w at *
    have eA : zM sA 40 0 = nI w := by rw [VA, if_neg (by omega)]; exact e40
    have hB : Sh (zPM (zPM (zPM sA 40 (11 + w) (nI k)) 40 (17 + w) (nI v)) 40 (23 + w) (nI sl)) := ((hA.pm _ _ _).pm _ _ _).pm _ _ _
    have eB : zM (zPM (zPM (zPM sA 40 (11 + w) (nI k)) 40 (17 + w) (nI v)) 40 (23 + w) (nI sl)) 40 0 = nI w := by
      rw [zM_PM, if_neg (by omega), zM_PM, if_neg (by omega), zM_PM, if_neg (by omega)]; exact eA
    have mw := m_way93 hB hlt eB N (nI k) (nI v) (nI sl) 4 N 0 (by omega) (by omega)
    refine ⟨nI w, sA, zPM (rz (zPM (zPM (zPM sA 40 (11 + w) (nI k)) 40 (17 + w) (nI v)) 40 (23 + w) (nI sl)) (29 + 4 * w) 4) 40 0 (nI (w + 1)), xe, ?_, hA, ?_⟩
    · clear m9 VA RA xe
      unfold f_X12_way
      simp (disch := omega) only [↓bs i1, ↓bs v3, ↓bs i3, eA, ↓zl, ↓reduceIte, List.mem_singleton, Option.bind_some, if_true, if_false, zM_PM, zLn_PM, zTg_PM, zR_PM, ↓zb, ↓zo, ↓zl, n_lt0, n_le, n_lt, n_eq, n_eq0, n_gt0, n_le0, n_ge0, n_zin, n_nat, nI_add, and_self, true_or, false_or, or_false, if_pos, if_neg, f_in_nI, Nat.reduceAdd, t39 hA, ↓bs (r39_1 hA), t40 hA, l40 hA]
      exact mw
    · have C := rz_c (zPM (zPM (zPM sA 40 (11 + w) (nI k)) 40 (17 + w) (nI v)) 40 (23 + w) (nI sl)) (29 + 4 * w) 4
      have VF : ∀ q j, zM (zPM (rz (zPM (zPM (zPM sA 40 (11 + w) (nI k)) 40 (17 + w) (nI v)) 40 (23 + w) (nI sl)) (29 + 4 * w) 4) 40 0 (nI (w + 1))) q j = if q = 40 ∧ j = 0 then nI (w + 1) else if q = 40 ∧ 29 + 4 * w ≤ j ∧ j < 29 + 4 * w + 4 then nI 0 else if q = 40 ∧ j = 23 + w then nI sl else if q = 40 ∧ j = 17 + w then nI v else if q = 40 ∧ j = 11 + w then nI k else if q = 1 ∧ j = 1 then nI (w + 1) else zM s1 q j := fun q j => by
        rw [zM_PM, rz_m, zM_PM, zM_PM, zM_PM, VA]
      have RF : ∀ q j, zR (zPM (rz (zPM (zPM (zPM sA 40 (11 + w) (nI k)) 40 (17 + w) (nI v)) 40 (23 + w) (nI sl)) (29 + 4 * w) 4) 40 0 (nI (w + 1))) q j = if q = 2 ∧ j = w then some st.1 else zR s1 q j := fun q j => by
        rw [zR_PM]
        have e : zR (rz (zPM (zPM (zPM sA 40 (11 + w) (nI k)) 40 (17 + w) (nI v)) 40 (23 + w) (nI sl)) (29 + 4 * w) 4) q j = zR sA q j := by unfold zR; rw [C.2.2]; rfl
        rw [e, RA]
      have shF : Sh (zPM (rz (zPM (zPM (zPM sA 40 (11 + w) (nI k)) 40 (17 + w) (nI v)) 40 (23 + w) (nI sl)) (29 + 4 * w) 4) 40 0 (nI (w + 1))) := (hB.cc C).pm _ _ _
      have o1 : (zPM (rz (zPM (zPM (zPM sA 40 (11 + w) (nI k)) 40 (17 + w) (nI v)) 40 (23 + w) (nI sl)) (29 + 4 * w) 4) 40 0 (nI (w + 1))).1 = s1.1 := C.1.trans OA.1
      have o2 : (zPM (rz (zPM (zPM (zPM sA 40 (11 + w) (nI k)) 40 (17 + w) (nI v)) 40 (23 + w) (nI sl)) (29 + 4 * w) 4) 40 0 (nI (w + 1))).2.1 = s1.2.1 := C.2.1.trans OA.2
      clear mw C VA RA eB hB xe
      generalize zPM (rz (zPM (zPM (zPM sA 40 (11 + w) (nI k)) 40 (17 + w) (nI v)) 40 (23 + w) (nI sl)) (29 + 4 * w) 4) 40 0 (nI (w + 1)) = sF at *
      have kp : Kept st sF := ⟨by rw [o1]; exact m2.1, fun q hq => by
        have hq2 : q < st.1 := by unfold Dyn at hq; omega
        obtain ⟨u1, u2, u3⟩ := m2.2 q hq2
        exact ⟨by rw [o2]; exact u1, fun j => by rw [RF, if_neg (by unfold Dyn at hq; omega)]; exact u2 j, fun j => by
          have d1 : q ≠ 40 ∧ q ≠ 1 := by unfold Dyn at hq; omega
          rw [VF, if_neg (by omega), if_neg (by omega), if_neg (by omega), if_neg (by omega), if_neg (by omega), if_neg (by omega)]; exact u3 j⟩⟩
      have v40 : ∀ j, j ≠ 0 → ¬ (29 + 4 * w ≤ j ∧ j < 29 + 4 * w + 4) → j ≠ 23 + w → j ≠ 17 + w → j ≠ 11 + w → zM sF 40 j = zM st 40 j := fun j u1 u2 u3 u4 u5 => by
        rw [VF, if_neg (by omega), if_neg (by omega), if_neg (by omega), if_neg (by omega), if_neg (by omega), if_neg (by omega)]; exact old 40 j (by omega)
      refine inv_ways h kp shF (fun q j u1 u2 u3 => ?_) (fun j u1 u2 => v40 j u1 (by omega) (by omega) (by omega) (by omega)) (K' := w + 1) ?_ (by omega) (by omega) ?_ ?_ ?_ (fun j => ?_) (fun w' hw' => ?_)
      · rw [VF, if_neg (by omega), if_neg (by omega), if_neg (by omega), if_neg (by omega), if_neg (by omega), if_neg (by omega)]; exact old q j u2
      · rw [VF, if_pos ⟨rfl, rfl⟩]
      · rw [VF, if_neg (by omega), if_neg (by omega), if_neg (by omega), if_neg (by omega), if_neg (by omega), if_pos ⟨rfl, rfl⟩]
      · rw [RF, if_neg (by omega)]; exact oldr 1 2 (by omega)
      · rw [RF, if_neg (by omega)]; exact oldr 19 2 (by omega)
      · rw [RF, if_neg (by omega)]; exact oldr 20 j (by omega)
      · by_cases hww : w' = w
        · subst hww
          have vnew : ∀ j, zM sF st.1 j = zM s1 st.1 j := fun j => by
            rw [VF, if_neg (by omega), if_neg (by omega), if_neg (by omega), if_neg (by omega), if_neg (by omega), if_neg (by omega)]
          refine ⟨st.1, by rw [RF, if_pos ⟨rfl, rfl⟩], k, v, sl, hk6, v1, hsl2.1, hsl2.2, by unfold zTg; rw [o2]; exact m4, hst, by rw [o1]; exact m3, (vnew 0).trans m5, (vnew 1).trans m6, (vnew 2).trans m7, (vnew 3).trans m8, ?_, ?_, ?_, fun j hj => ⟨0, by omega, ?_⟩, fun hk' => ?_⟩
          · rw [VF, if_neg (by omega), if_neg (by omega), if_neg (by omega), if_neg (by omega), if_pos ⟨rfl, rfl⟩]
          · rw [VF, if_neg (by omega), if_neg (by omega), if_neg (by omega), if_pos ⟨rfl, rfl⟩]
          · rw [VF, if_neg (by omega), if_neg (by omega), if_pos ⟨rfl, rfl⟩]
          · rw [VF, if_neg (by omega), if_pos (by omega)]
          · obtain ⟨r1, r2, r3, r4, r5⟩ := m9 hk'
            refine ⟨st.1 + 1, by rw [RF, if_neg (by omega)]; exact r1, by omega, by rw [o1]; exact r2, by unfold zTg; rw [o2]; exact r3, by unfold zLn; rw [o2]; exact r4, fun j hj => ?_⟩
            have z1 : zM sF 40 (29 + 4 * w' + j) = nI 0 := by rw [VF, if_neg (by omega), if_pos (by omega)]
            rw [z1, VF, if_neg (by omega), if_neg (by omega), if_neg (by omega), if_neg (by omega), if_neg (by omega), if_neg (by omega)]
            exact r5 j
        · obtain ⟨a, q1, q2⟩ := ways w' (by omega)
          exact ⟨a, by rw [RF, if_neg (by omega)]; exact (oldr 2 w' (by omega)).trans q1, q2.cg kp (fun j hj => v40 j (by omega) (by omega) (by omega) (by omega) (by omega))⟩
