/-! table -/
def jI (z : Int) : Int32 := Int32.ofInt z
def jL (z : Int) : Int64 := Int64.ofInt z
theorem jI_t {z : Int} (h1 : -1000000 ≤ z) (h2 : z ≤ 1000000) : (jI z).toInt = z := Int32.toInt_ofInt_of_le (by omega) (by omega)
theorem jI_lt {x y : Int} (h1 : -1000000 ≤ x) (h2 : x ≤ 1000000) (h3 : -1000000 ≤ y) (h4 : y ≤ 1000000) : (jI x < jI y) = (x < y) := by
  rw [Int32.lt_iff_toInt_lt, jI_t h1 h2, jI_t h3 h4]
theorem jI_le {x y : Int} (h1 : -1000000 ≤ x) (h2 : x ≤ 1000000) (h3 : -1000000 ≤ y) (h4 : y ≤ 1000000) : (jI x ≤ jI y) = (x ≤ y) := by
  rw [Int32.le_iff_toInt_le, jI_t h1 h2, jI_t h3 h4]
theorem jI_eq {x y : Int} (h1 : -1000000 ≤ x) (h2 : x ≤ 1000000) (h3 : -1000000 ≤ y) (h4 : y ≤ 1000000) : (jI x = jI y) = (x = y) := by
  rw [← Int32.toInt_inj, jI_t h1 h2, jI_t h3 h4]
theorem jI_L {z : Int} (h1 : -1000000 ≤ z) (h2 : z ≤ 1000000) : (jI z).toInt64 = jL z := by
  rw [← Int64.toInt_inj, Int32.toInt_toInt64, jI_t h1 h2]
  exact (Int64.toInt_ofInt_of_le (by omega) (by omega)).symm
theorem jL_abs {z : Int} (h1 : -1000000 ≤ z) (h2 : z ≤ 1000000) : Abs (jL z) z.natAbs := by
  by_cases h : 0 ≤ z
  · left
    rw [← Int64.toInt_inj, pk_lT (by omega)]
    unfold jL
    rw [Int64.toInt_ofInt_of_le (by omega) (by omega)]
    omega
  · right
    refine ⟨by omega, ?_⟩
    rw [← Int64.toInt_inj, g_neg (by omega) (by omega)]
    unfold jL
    rw [Int64.toInt_ofInt_of_le (by omega) (by omega)]
    omega
theorem low_one {N : Nat} (hN : 3000 ≤ N) {up : Int64} {u : Nat} (hup : Abs up u) (hu : u < 2 ^ 63) {a : Int32} (ha : a = 0 ∨ a = nI 1) : f_X11_lowest N up (lN 1) a = some (if a = 0 then up else lN 1) := by
  have g2 : f_X11_common N (lN u) (lN 1) = some (lN 1) := by
    obtain ⟨f, rfl⟩ : ∃ m, N = m + 2 := ⟨N - 2, by omega⟩
    unfold f_X11_common
    rw [gc_s (f + 2) (f + 1) 0 hu (by omega) (by omega) (by omega), Nat.mod_one]
    exact gc_z (f + 2) f 1 (by omega)
  unfold f_X11_lowest f_X11_lowest_56
  rw [f_isPt.1, if_pos ha, Option.bind_some, if_neg (by decide), if_neg (by rw [g_lg (by omega)]; omega), g_absX hu hup, g_absX (by omega) (Or.inl rfl), g2, Option.bind_some, if_neg (by rw [g_lg (by omega)]; omega), g_lgp (by omega) (by omega), if_pos (by decide)]
  have e : ∀ x : Int64, x / lN 1 = x := fun x => Int64.div_one
  by_cases h4 : a = 0
  · rw [if_pos h4, if_pos (by decide), if_pos h4, e]
  · rw [if_neg h4, if_pos (by decide), if_neg h4, e]
theorem m_abs {N : Nat} {up low : Int64} {u : Nat} (hup : Abs up u) (hu : u < 2 ^ 63) {a : Int32} : f_X12_lowest N up low a = f_X12_lowest_17 N up low a N (lN u) low := by
  unfold f_X12_lowest f_X12_lowest_12
  rcases hup with rfl | ⟨hp, rfl⟩
  · rw [if_pos (show 0 ≤ lg_cmp (lN u) (lN 0) by
      by_cases z : u = 0
      · subst z; decide
      · rw [g_lgp hu (by omega)]; decide)]
  · rw [g_lgn hu hp, if_neg (by decide), Int64.neg_neg]
theorem abs_neg {up : Int64} {u : Nat} (h : Abs up u) : Abs (-up) u := by
  rcases h with rfl | ⟨hp, rfl⟩
  · by_cases z : u = 0
    · subst z; exact Or.inl rfl
    · exact Or.inr ⟨by omega, rfl⟩
  · exact Or.inl Int64.neg_neg
theorem abs_t {up : Int64} {u : Nat} (h : Abs up u) (hu : u < 2 ^ 62) : (-up).toInt = -up.toInt := by
  rw [Int64.toInt_neg]
  rcases h with rfl | ⟨hp, rfl⟩
  · rw [pk_lT (by omega)]; exact Int.bmod_eq_of_le (by omega) (by omega)
  · rw [g_neg (by omega) hp]; exact Int.bmod_eq_of_le (by omega) (by omega)
theorem div_sw {up : Int64} {u g : Nat} (h : Abs up u) (hu : u < 2 ^ 62) (hg : g < 2 ^ 63) (h0 : 0 < g) : up / (-lN g) = (-up) / lN g := by
  rw [← Int64.toInt_inj, Int64.toInt_div, Int64.toInt_div, abs_t h hu, g_neg hg h0, pk_lT hg, Int.tdiv_neg, Int.neg_tdiv]
theorem low_neg {N : Nat} (hN : 3000 ≤ N) {up : Int64} {u q : Nat} (hup : Abs up u) (hu : u < 2 ^ 62) (hq : q < 2 ^ 62) (h0 : 0 < q) {a : Int32} (ha : a = 0 ∨ a = nI 1) : ∃ r, f_X11_lowest N up (-lN q) a = some r ∧ f_X12_lowest N (-up) (lN q) a = some r := by
  obtain ⟨g, g0, g1, g2, g3⟩ := g_loop N (-up) (lN q) a 63 u q 0 N N (by omega) (by omega) (by omega) (by omega) (by omega) (by omega) (by omega)
  refine ⟨if a = 0 then (-up) / lN g else lN q / lN g, ?_, ?_⟩
  · unfold f_X11_lowest f_X11_lowest_56
    have g4 : f_X11_common N (lN u) (lN q) = some (lN g) := g2
    have n0 : ¬ (-lN g = 0) := fun e => by
      have := congrArg Int64.toInt e
      rw [g_neg g1 (by omega)] at this
      simp at this
      omega
    rw [f_isPt.1, if_pos ha, Option.bind_some, if_neg (by decide), g_lgn (by omega) h0, if_neg (by decide), g_absX (by omega) hup, g_absX (by omega) (Or.inr ⟨h0, rfl⟩), g4, Option.bind_some, if_neg (by rw [g_lg g1]; exact g0), if_neg (by decide)]
    by_cases h4 : a = 0
    · rw [if_pos h4, if_pos n0, if_pos h4, div_sw hup hu g1 (by omega)]
    · rw [if_neg h4, if_pos n0, if_neg h4, div_sw (Or.inr ⟨h0, rfl⟩) hq g1 (by omega), Int64.neg_neg]
  · rw [m_abs (abs_neg hup) (by omega)]
    exact g3
theorem f_isE {a : Int32} : (∃ z : Int, -99 ≤ z ∧ z ≤ 99 ∧ a = jI z ∧ f_X11_isEntry a = some (nI 1) ∧ f_X12_isPaid a = some (nI 1)) ∨ (f_X11_isEntry a = some (nI 0) ∧ f_X12_isPaid a = some (nI 0)) := by
  have e1 : (a < -99) = (a.toInt < -99) := by rw [Int32.lt_iff_toInt_lt]; rfl
  have e2 : (nI 99 < a) = (99 < a.toInt) := by rw [Int32.lt_iff_toInt_lt]; rfl
  by_cases h1 : a < -99
  · refine Or.inr ⟨?_, ?_⟩
    · unfold f_X11_isEntry; rw [if_pos h1]
    · unfold f_X12_isPaid; rw [f_in, if_pos (Or.inl h1), Option.bind_some, if_pos (show zB (nI 0) from Or.inl rfl)]
  · by_cases h2 : nI 99 < a
    · refine Or.inr ⟨?_, ?_⟩
      · unfold f_X11_isEntry; rw [if_neg h1, if_pos h2]
      · unfold f_X12_isPaid; rw [f_in, if_pos (Or.inr h2), Option.bind_some, if_pos (show zB (nI 0) from Or.inl rfl)]
    · refine Or.inl ⟨a.toInt, ?_, ?_, (Int32.ofInt_toInt a).symm, ?_, ?_⟩
      · rw [e1] at h1; omega
      · rw [e2] at h2; omega
      · unfold f_X11_isEntry; rw [if_neg h1, if_neg h2]
      · unfold f_X12_isPaid; rw [f_in, if_neg (fun q => q.elim h1 h2), Option.bind_some, if_pos (show zB (nI 1) from Or.inr rfl)]
theorem j_min {x y : Int} (h1 : -99 ≤ x) (h2 : x ≤ 99) (h3 : -99 ≤ y) (h4 : y ≤ 99) : (if jI y < jI x then jI y else jI x) = jI (min x y) := by
  simp (disch := omega) only [jI_lt]
  by_cases h : y < x
  · rw [if_pos h, Int.min_eq_right (by omega)]
  · rw [if_neg h, Int.min_eq_left (by omega)]
theorem j_max {x y : Int} (h1 : -99 ≤ x) (h2 : x ≤ 99) (h3 : -99 ≤ y) (h4 : y ≤ 99) : (if jI x < jI y then jI y else jI x) = jI (max x y) := by
  simp (disch := omega) only [jI_lt]
  by_cases h : x < y
  · rw [if_pos h, Int.max_eq_right (by omega)]
  · rw [if_neg h, Int.max_eq_left (by omega)]
theorem j_sel {x y : Int} (h1 : -99 ≤ x) (h2 : x ≤ 99) (h3 : -99 ≤ y) (h4 : y ≤ 99) {α : Type} (f : Int32 → α) : (if jI y ≤ jI x then f (jI y) else f (jI x)) = f (jI (min x y)) ∧ (if jI x ≤ jI y then f (jI y) else f (jI x)) = f (jI (max x y)) := by
  simp (disch := omega) only [jI_le]
  constructor
  · by_cases h : y ≤ x
    · rw [if_pos h, Int.min_eq_right h]
    · rw [if_neg h, Int.min_eq_left (by omega)]
  · by_cases h : x ≤ y
    · rw [if_pos h, Int.max_eq_right h]
    · rw [if_neg h, Int.max_eq_left (by omega)]
theorem j_prod {x y : Int} (h1 : -99 ≤ x) (h2 : x ≤ 99) (h3 : -99 ≤ y) (h4 : y ≤ 99) : -9801 ≤ x * y ∧ x * y ≤ 9801 := by
  have h5 : (x * y).natAbs ≤ 99 * 99 := by
    rw [Int.natAbs_mul]
    exact Nat.mul_le_mul (by omega) (by omega)
  omega
theorem table_key {N : Nat} (hN : 3000 ≤ N) {a b c d : Int} (a1 : -99 ≤ a) (a2 : a ≤ 99) (b1 : -99 ≤ b) (b2 : b ≤ 99) (c1 : -99 ≤ c) (c2 : c ≤ 99) (d1 : -99 ≤ d) (d2 : d ≤ 99) {p : Int32} (hp : p = 0 ∨ p = nI 1) : ∃ r, (if jI (max (min a b) (min c d)) = jI (min (max a c) (max b d)) then (Option.bind (f_X11_lowest N ((jI (max (min a b) (min c d))).toInt64) (lN 1) p) (fun r14 => (some r14))) else (Option.bind (f_X11_lowest N ((((jI a * jI d) - (jI b * jI c))).toInt64) (((((jI a + jI d) - jI b) - jI c)).toInt64) p) (fun r12 => (some r12)))) = some r ∧ f_X12_table_125 N 39 (jI a) (jI b) (jI c) (jI d) p (jI (max (min a b) (min c d))) (jI (min (max a c) (max b d))) = some r := by
  have s1 : -99 ≤ max (min a b) (min c d) ∧ max (min a b) (min c d) ≤ 99 := by omega
  have s2 : -99 ≤ min (max a c) (max b d) ∧ min (max a c) (max b d) ≤ 99 := by omega
  unfold f_X12_table_125
  simp (disch := omega) only [jI_eq]
  by_cases hq : max (min a b) (min c d) = min (max a c) (max b d)
  · rw [if_pos hq, if_pos hq]
    generalize max (min a b) (min c d) = s at *
    rw [jI_L (by omega) (by omega), low_one hN (jL_abs (by omega) (by omega)) (by omega) hp, Option.bind_some]
    refine ⟨_, rfl, ?_⟩
    by_cases h4 : p = 0
    · rw [if_pos h4, if_pos h4]
    · rw [if_neg h4, if_neg h4]
  · rw [if_neg hq, if_neg hq]
    have h0 : a + d - b - c ≠ 0 := by omega
    clear hq s1 s2
    have p1 := j_prod a1 a2 d1 d2
    have p2 := j_prod b1 b2 c1 c2
    have e1 : jI a * jI d - jI b * jI c = jI (a * d - b * c) := by unfold jI; rw [Int32.ofInt_sub, Int32.ofInt_mul, Int32.ofInt_mul]
    have e2 : jI a + jI d - jI b - jI c = jI (a + d - b - c) := by unfold jI; rw [Int32.ofInt_sub, Int32.ofInt_sub, Int32.ofInt_add]
    have e3 : (jI a).toInt64 * (jI d).toInt64 - (jI b).toInt64 * (jI c).toInt64 = jL (a * d - b * c) := by
      rw [jI_L (by omega) (by omega), jI_L (by omega) (by omega), jI_L (by omega) (by omega), jI_L (by omega) (by omega)]
      unfold jL; rw [Int64.ofInt_sub, Int64.ofInt_mul, Int64.ofInt_mul]
    rw [e1, e2, e3, jI_L (by omega) (by omega), jI_L (by omega) (by omega)]
    have u1 : Abs (jL (a * d - b * c)) (a * d - b * c).natAbs := jL_abs (by omega) (by omega)
    have u2 : (a * d - b * c).natAbs < 2 ^ 62 := by omega
    have v1 : Abs (jL (a + d - b - c)) (a + d - b - c).natAbs := jL_abs (by omega) (by omega)
    have v2 : (a + d - b - c).natAbs < 2 ^ 62 ∧ 0 < (a + d - b - c).natAbs := by omega
    generalize jL (a * d - b * c) = up at *
    generalize (a * d - b * c).natAbs = u at *
    generalize jL (a + d - b - c) = lo at *
    generalize (a + d - b - c).natAbs = v at *
    simp only [zl_eq]
    rcases v1 with rfl | ⟨-, rfl⟩
    · obtain ⟨r, r1, r2⟩ := low_eq hN u1 (by omega) (by omega) v2.2 hp
      exact ⟨r, by rw [r1]; rfl, by rw [g_lgp (by omega) v2.2, if_pos (by decide), r2]; rfl⟩
    · obtain ⟨r, r1, r2⟩ := low_neg hN u1 u2 v2.1 v2.2 hp
      exact ⟨r, by rw [r1]; rfl, by rw [g_lgn (by omega) v2.2, if_neg (by decide), Int64.neg_neg, r2]; rfl⟩
theorem s_table {st : zS} (h : Inv st) {N : Nat} (hN : 3000 ≤ N) (a1 a2 a3 a4 a5 : Int32) : ∃ (r : Int64) (st1 st2 : zS), (f_X11_table N 0 a1 a2 a3 a4 a5 = some r ∧ st1 = st) ∧ (f_X12_table N 39 a1 a2 a3 a4 a5 = some r ∧ st2 = st1) ∧ Sh st1 ∧ Inv st2 := by
  suffices q : ∃ r : Int64, f_X11_table N 0 a1 a2 a3 a4 a5 = some r ∧ f_X12_table N 39 a1 a2 a3 a4 a5 = some r by
    obtain ⟨r, q1, q2⟩ := q
    exact ⟨r, st, st, ⟨q1, rfl⟩, ⟨q2, rfl⟩, h.1, h⟩
  have z0 : (nI 0 = 0) = True := by decide
  have z1 : (nI 1 = 0) = False := by decide
  unfold f_X11_table f_X12_table
  rcases f_isE (a := a1) with ⟨a, b1, b2, rfl, b3, b4⟩ | ⟨b3, b4⟩
  rotate_left
  · exact ⟨-9223372036854775808, by simp only [b3, Option.bind_some, z0, if_true], by simp only [b4, Option.bind_some, z0, if_true]⟩
  rcases f_isE (a := a2) with ⟨b, c1, c2, rfl, c3, c4⟩ | ⟨c3, c4⟩
  rotate_left
  · exact ⟨-9223372036854775808, by simp only [b3, c3, Option.bind_some, z0, z1, if_true, if_false], by simp only [b4, c4, Option.bind_some, z0, z1, if_true, if_false]⟩
  rcases f_isE (a := a3) with ⟨c, d1, d2, rfl, d3, d4⟩ | ⟨d3, d4⟩
  rotate_left
  · exact ⟨-9223372036854775808, by simp only [b3, c3, d3, Option.bind_some, z0, z1, if_true, if_false], by simp only [b4, c4, d4, Option.bind_some, z0, z1, if_true, if_false]⟩
  rcases f_isE (a := a4) with ⟨d, e1, e2, rfl, e3, e4⟩ | ⟨e3, e4⟩
  rotate_left
  · exact ⟨-9223372036854775808, by simp only [b3, c3, d3, e3, Option.bind_some, z0, z1, if_true, if_false], by simp only [b4, c4, d4, e4, Option.bind_some, z0, z1, if_true, if_false]⟩
  have m1 : -99 ≤ min a b ∧ min a b ≤ 99 := by omega
  have m2 : -99 ≤ min c d ∧ min c d ≤ 99 := by omega
  have m3 : -99 ≤ max a c ∧ max a c ≤ 99 := by omega
  have m4 : -99 ≤ max b d ∧ max b d ≤ 99 := by omega
  have eX1 : (if (if jI b < jI a then jI b else jI a) < (if jI d < jI c then jI d else jI c) then (if jI d < jI c then jI d else jI c) else (if jI b < jI a then jI b else jI a)) = jI (max (min a b) (min c d)) := by
    rw [j_min b1 b2 c1 c2, j_min d1 d2 e1 e2, j_max m1.1 m1.2 m2.1 m2.2]
  have eX2 : (if (if jI b < jI d then jI d else jI b) < (if jI a < jI c then jI c else jI a) then (if jI b < jI d then jI d else jI b) else (if jI a < jI c then jI c else jI a)) = jI (min (max a c) (max b d)) := by
    rw [j_max c1 c2 e1 e2, j_max b1 b2 d1 d2, j_min m3.1 m3.2 m4.1 m4.2]
  have eM : (if jI b ≤ jI a then (f_X12_table_53 N 39 (jI a) (jI b) (jI c) (jI d) a5 (jI b)) else (f_X12_table_53 N 39 (jI a) (jI b) (jI c) (jI d) a5 (jI a))) = f_X12_table_125 N 39 (jI a) (jI b) (jI c) (jI d) a5 (jI (max (min a b) (min c d))) (jI (min (max a c) (max b d))) := by
    rw [(j_sel b1 b2 c1 c2 (fun y => f_X12_table_53 N 39 (jI a) (jI b) (jI c) (jI d) a5 y)).1]
    unfold f_X12_table_53
    rw [(j_sel d1 d2 e1 e2 (fun y => f_X12_table_67 N 39 (jI a) (jI b) (jI c) (jI d) a5 (jI (min a b)) y)).1]
    unfold f_X12_table_67
    rw [(j_sel m1.1 m1.2 m2.1 m2.2 (fun y => f_X12_table_83 N 39 (jI a) (jI b) (jI c) (jI d) a5 y)).2]
    unfold f_X12_table_83
    rw [(j_sel b1 b2 d1 d2 (fun y => f_X12_table_95 N 39 (jI a) (jI b) (jI c) (jI d) a5 (jI (max (min a b) (min c d))) y)).2]
    unfold f_X12_table_95
    rw [(j_sel c1 c2 e1 e2 (fun y => f_X12_table_109 N 39 (jI a) (jI b) (jI c) (jI d) a5 (jI (max (min a b) (min c d))) (jI (max a c)) y)).2]
    unfold f_X12_table_109
    rw [(j_sel m3.1 m3.2 m4.1 m4.2 (fun y => f_X12_table_125 N 39 (jI a) (jI b) (jI c) (jI d) a5 (jI (max (min a b) (min c d))) y)).1]
  have hp := (f_isPt (a := a5)).2
  by_cases hpp : a5 = 0 ∨ a5 = nI 1
  · rw [if_pos hpp] at hp
    obtain ⟨r, r1, r2⟩ := table_key hN b1 b2 c1 c2 d1 d2 e1 e2 hpp
    refine ⟨r, ?_, ?_⟩
    · simp only [b3, c3, d3, e3, Option.bind_some, z1, if_false, zl_eq]
      rw [eX1, eX2]
      exact r1
    · simp only [b4, c4, d4, e4, hp, Option.bind_some, z1, if_false]
      rw [eM]
      exact r2
  · rw [if_neg hpp] at hp
    refine ⟨-9223372036854775808, ?_, ?_⟩
    · simp only [b3, c3, d3, e3, Option.bind_some, z1, if_false, zl_eq, low_no hpp, ite_self]
    · simp only [b4, c4, d4, e4, hp, Option.bind_some, z0, z1, if_true, if_false]
