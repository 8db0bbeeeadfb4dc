/-! the greatest common divisor, and a fraction in lowest terms -/
theorem g_lgp {n : Nat} (h : n < 2 ^ 63) (h0 : 0 < n) : lg_cmp (lN n) (lN 0) = 1 := by
  unfold lg_cmp
  exact if_pos ((pk_lLT (by omega : 0 < 2 ^ 63) h).mpr h0)
theorem g_lg {n : Nat} (h : n < 2 ^ 63) : (lg_cmp (lN n) (lN 0) = 0) = (n = 0) := by
  by_cases h0 : n = 0
  · subst h0; exact propext ⟨fun _ => rfl, fun _ => by decide⟩
  · rw [g_lgp h (by omega)]
    exact propext ⟨fun q => absurd q (by decide), fun q => absurd q h0⟩
theorem g_l0 {n : Nat} (h : n < 2 ^ 63) : (lN n = 0) = (n = 0) := propext (pk_lEQ h (by omega : 0 < 2 ^ 63))
theorem zl_eq {α β : Type} (a : α) (f : α → Option β) : zl a f = f a := rfl
theorem gc_s (N m i : Nat) {x y : Nat} (hx : x < 2 ^ 63) (hy : y < 2 ^ 63) (h0 : y ≠ 0) (hi : i < 200) : f_X11_common_3 N (m + 1) (lN x) (lN y) (nI i) = f_X11_common_3 N m (lN y) (lN (x % y)) (nI (i + 1)) := by
  rw [f_X11_common_3]
  rw [if_neg (by rw [n_le (by omega) (by omega)]; omega), if_neg (by rw [g_lg hy]; exact h0), if_pos (by rw [g_l0 hy]; exact h0), zl_eq, pk_lRem hx (by omega) hy, nI_add]
theorem gc_z (N m i : Nat) {x : Nat} (hi : i < 200) : f_X11_common_3 N (m + 1) (lN x) (lN 0) (nI i) = some (lN x) := by
  rw [f_X11_common_3]
  rw [if_neg (by rw [n_le (by omega) (by omega)]; omega), if_pos (by rw [g_lg (by omega)])]
theorem gm_s (N m : Nat) (a0 a2 : Int64) (a4 : Int32) {x y : Nat} (hx : x < 2 ^ 63) (hy : y < 2 ^ 63) (h0 : y ≠ 0) : f_X12_lowest_17 N a0 a2 a4 (m + 1) (lN x) (lN y) = f_X12_lowest_17 N a0 a2 a4 m (lN y) (lN (x % y)) := by
  rw [f_X12_lowest_17]
  rw [if_neg (by rw [g_lg hy]; exact h0), if_pos (by rw [g_l0 hy]; exact h0), zl_eq, pk_lRem hx (by omega) hy]
theorem gm_z (N m : Nat) (a0 a2 : Int64) (a4 : Int32) {x : Nat} (hx : x < 2 ^ 63) (h0 : x ≠ 0) : f_X12_lowest_17 N a0 a2 a4 (m + 1) (lN x) (lN 0) = some (if a4 = 0 then a0 / lN x else a2 / lN x) := by
  rw [f_X12_lowest_17]
  rw [if_pos (by rw [g_lg (by omega)])]
  by_cases h4 : a4 = 0
  · rw [if_pos h4, if_pos (by rw [g_l0 hx]; exact h0), if_pos h4]
  · rw [if_neg h4, if_pos (by rw [g_l0 hx]; exact h0), if_neg h4]
theorem g_half {x y : Nat} (h : x % y ≠ 0) (k : Nat) (hy : y < 2 ^ (k + 1)) : y % (x % y) < 2 ^ k := by
  rcases Nat.eq_zero_or_pos y with e | h0
  · subst e
    rw [Nat.zero_mod]
    exact Nat.two_pow_pos k
  have h1 : x % y < y := Nat.mod_lt _ h0
  have h2 : y % (x % y) < x % y := Nat.mod_lt _ (by omega)
  have h3 : y % (x % y) + (x % y) ≤ y := by
    have := Nat.mod_add_div y (x % y)
    have h5 : 1 ≤ y / (x % y) := Nat.div_pos (by omega) (by omega)
    have h6 : (x % y) * 1 ≤ (x % y) * (y / (x % y)) := Nat.mul_le_mul_left _ h5
    omega
  have : 2 ^ (k + 1) = 2 * 2 ^ k := by rw [Nat.pow_succ, Nat.mul_comm]
  omega
theorem g_loop (N : Nat) (a0 a2 : Int64) (a4 : Int32) : ∀ k x y i f1 f2, y < 2 ^ k → x < 2 ^ 63 → k ≤ 63 → i + 2 * k + 1 ≤ 200 → 2 * k + 1 ≤ f1 → 2 * k + 1 ≤ f2 → (x ≠ 0 ∨ y ≠ 0) → ∃ g, g ≠ 0 ∧ g < 2 ^ 63 ∧ f_X11_common_3 N f1 (lN x) (lN y) (nI i) = some (lN g) ∧ f_X12_lowest_17 N a0 a2 a4 f2 (lN x) (lN y) = some (if a4 = 0 then a0 / lN g else a2 / lN g) := by
  intro k
  induction k with
  | zero =>
    intro x y i f1 f2 hy hx hk hi hf1 hf2 h0
    obtain ⟨f1, rfl⟩ : ∃ m, f1 = m + 1 := ⟨f1 - 1, by omega⟩
    obtain ⟨f2, rfl⟩ : ∃ m, f2 = m + 1 := ⟨f2 - 1, by omega⟩
    have e : y = 0 := by simp at hy; exact hy
    subst e
    have hx0 : x ≠ 0 := by omega
    exact ⟨x, hx0, hx, gc_z N f1 i (by omega), gm_z N f2 a0 a2 a4 hx hx0⟩
  | succ k ih =>
    intro x y i f1 f2 hy hx hk hi hf1 hf2 h0
    obtain ⟨f1, rfl⟩ : ∃ m, f1 = m + 2 := ⟨f1 - 2, by omega⟩
    obtain ⟨f2, rfl⟩ : ∃ m, f2 = m + 2 := ⟨f2 - 2, by omega⟩
    by_cases e : y = 0
    · subst e
      have hx0 : x ≠ 0 := by omega
      exact ⟨x, hx0, hx, gc_z N (f1 + 1) i (by omega), gm_z N (f2 + 1) a0 a2 a4 hx hx0⟩
    · have hy6 : y < 2 ^ 63 := Nat.lt_of_lt_of_le hy (Nat.pow_le_pow_right (by omega) hk)
      rw [gc_s N (f1 + 1) i hx hy6 e (by omega), gm_s N (f2 + 1) a0 a2 a4 hx hy6 e]
      by_cases e2 : x % y = 0
      · rw [e2]
        exact ⟨y, e, hy6, gc_z N f1 (i + 1) (by omega), gm_z N f2 a0 a2 a4 hy6 e⟩
      · have h1 : x % y < y := Nat.mod_lt _ (by omega)
        rw [gc_s N f1 (i + 1) hy6 (by omega) e2 (by omega), gm_s N f2 a0 a2 a4 hy6 (by omega) e2]
        exact ih _ _ (i + 2) f1 f2 (g_half e2 k hy) (by omega) (by omega) (by omega) (by omega) (by omega) (Or.inl e2)
theorem g_neg {u : Nat} (h : u < 2 ^ 63) (h0 : 0 < u) : (-lN u).toInt = -(u : Int) := by
  rw [Int64.toInt_neg, pk_lT h]
  exact Int.bmod_eq_of_le (by omega) (by omega)
theorem g_lgn {u : Nat} (h : u < 2 ^ 63) (h0 : 0 < u) : lg_cmp (-lN u) (lN 0) = -1 := by
  have e : (-lN u).toInt < (lN 0).toInt := by rw [g_neg h h0, pk_lT (by omega : 0 < 2 ^ 63)]; omega
  unfold lg_cmp
  rw [if_neg (fun q => by have := Int64.lt_iff_toInt_lt.mp q; omega), if_neg (fun q => by rw [q] at e; omega)]
def Abs (up : Int64) (u : Nat) : Prop := up = lN u ∨ (0 < u ∧ up = -lN u)
theorem g_absX {up : Int64} {u : Nat} (hu : u < 2 ^ 63) (h : Abs up u) : (if 0 < up then up else -up) = lN u := by
  rcases h with rfl | ⟨h0, rfl⟩
  · by_cases z : u = 0
    · subst z; rfl
    · exact if_pos ((pk_lLT (by omega : 0 < 2 ^ 63) hu).mpr (by omega))
  · rw [if_neg (by rw [Int64.lt_iff_toInt_lt, g_neg hu h0, show (0 : Int64).toInt = 0 from rfl]; omega), Int64.neg_neg]
theorem low_eq {N : Nat} (hN : 3000 ≤ N) {up : Int64} {u v : Nat} (hup : Abs up u) (hu : u < 2 ^ 63) (hv : v < 2 ^ 63) (h0 : 0 < v) {a : Int32} (ha : a = 0 ∨ a = nI 1) : ∃ r, f_X11_lowest N up (lN v) a = some r ∧ f_X12_lowest N up (lN v) a = some r := by
  obtain ⟨g, g0, g1, g2, g3⟩ := g_loop N up (lN v) a 63 u v 0 N N hv hu (by omega) (by omega) (by omega) (by omega) (by omega)
  refine ⟨if a = 0 then up / lN g else lN v / lN g, ?_, ?_⟩
  · unfold f_X11_lowest f_X11_lowest_56
    rw [f_isPt.1, if_pos ha, Option.bind_some, if_neg (by decide), if_neg (by rw [g_lg hv]; omega), g_absX hu hup, g_absX hv (Or.inl rfl)]
    have g4 : f_X11_common N (lN u) (lN v) = some (lN g) := g2
    rw [g4, Option.bind_some, if_neg (by rw [g_lg g1]; exact g0), g_lgp hv h0, if_pos (by decide)]
    by_cases h4 : a = 0
    · rw [if_pos h4, if_pos (by rw [g_l0 g1]; exact g0), if_pos h4]
    · rw [if_neg h4, if_pos (by rw [g_l0 g1]; exact g0), if_neg h4]
  · unfold f_X12_lowest f_X12_lowest_12
    rcases hup with rfl | ⟨hp, rfl⟩
    · rw [if_pos (show 0 ≤ lg_cmp (lN u) (lN 0) by
        by_cases z : u = 0
        · subst z; decide
        · rw [g_lgp hu (by omega)]; decide)]
      exact g3
    · rw [g_lgn hu hp, if_neg (by decide), Int64.neg_neg]
      exact g3
theorem low_no {N : Nat} {up low : Int64} {a : Int32} (ha : ¬ (a = 0 ∨ a = nI 1)) : f_X11_lowest N up low a = some (-9223372036854775808) := by
  unfold f_X11_lowest
  rw [f_isPt.1, if_neg ha, Option.bind_some, if_pos (by decide)]
