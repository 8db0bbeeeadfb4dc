/-! the sign: the stack of bits against the row of truths -/
theorem nt_and (u : Nat) (h : u < 2^31) : u &&& 4294967294 = 2*(u/2) := by
  apply Nat.eq_of_testBit_eq
  intro i
  rw [Nat.testBit_and]
  cases i with
  | zero => rw [Nat.testBit_zero, Nat.testBit_zero, Nat.testBit_zero]; simp
  | succ i =>
    rw [Nat.testBit_succ, Nat.testBit_succ, Nat.testBit_succ, show 2 * (u / 2) / 2 = u / 2 by omega, show 4294967294 / 2 = 2 ^ 31 - 1 by decide, Nat.testBit_two_pow_sub_one]
    by_cases hi : i < 31
    · simp [hi]
    · have : (u/2).testBit i = false := Nat.testBit_lt_two_pow (Nat.lt_of_lt_of_le (show u / 2 < 2 ^ 31 by omega) (Nat.pow_le_pow_right (by omega) (by omega)))
      simp [this]
theorem nt_or (u c : Nat) (hc : c < 2) : u ||| c = 2*(u/2) + (if u % 2 = 1 ∨ c = 1 then 1 else 0) := by
  apply Nat.eq_of_testBit_eq
  intro i
  rw [Nat.testBit_or]
  cases i with
  | zero => 
    rw [Nat.testBit_zero, Nat.testBit_zero, Nat.testBit_zero]
    by_cases h1 : u % 2 = 1 <;> by_cases h2 : c = 1
    · simp [h1, h2]
    · simp [h1]
    · simp [h2]
    · have h3 : c = 0 := by omega
      have h4 : u % 2 = 0 := by omega
      simp [h3, h4]
  | succ i =>
    rw [Nat.testBit_succ, Nat.testBit_succ, Nat.testBit_succ, show c / 2 = 0 by omega, Nat.zero_testBit, Bool.or_false]
    congr 1
    split <;> omega
theorem nt_xor (u : Nat) : u ^^^ 1 = 2*(u/2) + (1 - u % 2) := by
  apply Nat.eq_of_testBit_eq
  intro i
  rw [Nat.testBit_xor]
  cases i with
  | zero => 
    rw [Nat.testBit_zero, Nat.testBit_zero, Nat.testBit_zero]
    have : u % 2 = 0 ∨ u % 2 = 1 := by omega
    rcases this with h | h
    · rw [h, show (2 * (u / 2) + (1 - 0)) % 2 = 1 by omega]; decide
    · rw [h, show (2 * (u / 2) + (1 - 1)) % 2 = 0 by omega]; decide
  | succ i =>
    rw [Nat.testBit_succ, Nat.testBit_succ, Nat.testBit_succ, show 1 / 2 = 0 by omega, Nat.zero_testBit, Bool.xor_false]
    congr 1
    omega
theorem nI_bv (n : Nat) : (nI n).toBitVec = BitVec.ofNat 32 n := rfl
theorem i_or (a b : Nat) : nI a ||| nI b = nI (a ||| b) := by
  apply Int32.toBitVec.inj
  rw [Int32.toBitVec_or, nI_bv, nI_bv, nI_bv, BitVec.ofNat_or]
theorem i_and (a b : Nat) : nI a &&& nI b = nI (a &&& b) := by
  apply Int32.toBitVec.inj
  rw [Int32.toBitVec_and, nI_bv, nI_bv, nI_bv, BitVec.ofNat_and]
theorem i_xor (a b : Nat) : nI a ^^^ nI b = nI (a ^^^ b) := by
  apply Int32.toBitVec.inj
  rw [Int32.toBitVec_xor, nI_bv, nI_bv, nI_bv, BitVec.ofNat_xor]
theorem k_top {T : Nat} (h : T < 2 ^ 21) : nI T &&& nI 1 = nI (T % 2) := pk_andN (by omega) 1 (by decide)
theorem k_half {T : Nat} (h : T < 2 ^ 21) : nI T >>> (nI 1 &&& 31) = nI (T / 2) := pk_shrN (by omega) (nI 1 &&& 31) 1 (by decide)
theorem k_and {T : Nat} (h : T < 2 ^ 21) : (nI T >>> (nI 1 &&& 31)) &&& (nI (T % 2) ||| (-2 : Int32)) = nI (2 * (T / 4) + (if T % 2 = 1 ∧ T / 2 % 2 = 1 then 1 else 0)) := by
  rw [k_half h]
  have h2 : T % 2 = 0 ∨ T % 2 = 1 := by omega
  rcases h2 with e | e
  · rw [e, show nI 0 ||| (-2 : Int32) = nI 4294967294 by decide, i_and, nt_and _ (by omega), if_neg (by omega)]
    congr 1; omega
  · rw [e, show nI 1 ||| (-2 : Int32) = -1 by decide]
    have e2 : nI (T / 2) &&& (-1 : Int32) = nI (T / 2) := by simp
    rw [e2]
    congr 1
    split <;> omega
theorem k_or {T : Nat} (h : T < 2 ^ 21) : (nI T >>> (nI 1 &&& 31)) ||| nI (T % 2) = nI (2 * (T / 4) + (if T % 2 = 1 ∨ T / 2 % 2 = 1 then 1 else 0)) := by
  rw [k_half h, i_or, nt_or _ _ (by omega)]
  congr 2
  · omega
  · split <;> split <;> omega
theorem k_xor {T : Nat} : nI T ^^^ nI 1 = nI (2 * (T / 2) + (1 - T % 2)) := by rw [i_xor, nt_xor]
theorem k_push {T b : Nat} (h : T < 2 ^ 21) (hb : b < 2) : (nI T <<< (nI 1 &&& 31)) ||| nI b = nI (2 * T + b) := by
  rw [pk_shlN (nI 1 &&& 31) 1 (by decide) (by omega), i_or, nt_or _ _ hb]
  congr 1
  split <;> omega
def TR (sM : zS) (T d : Nat) : Prop := T < 2 ^ d ∧ ∀ j, j < d → zM sM 43 (d - 1 - j) = nI (T / 2 ^ j % 2)
theorem half_pow (T j : Nat) : T / 2 ^ (j + 1) = T / 2 / 2 ^ j := by rw [Nat.pow_succ, Nat.mul_comm, Nat.div_div_eq_div_mul]
theorem TR_lt {sM : zS} {T d : Nat} (h : TR sM T d) (hd : d ≤ 20) : T < 2 ^ 20 := Nat.lt_of_lt_of_le h.1 (Nat.pow_le_pow_right (by omega) hd)
theorem TR_0 {sM : zS} {T d : Nat} (h : TR sM T d) (hd : 1 ≤ d) : zM sM 43 (d - 1) = nI (T % 2) := by
  have := h.2 0 (by omega)
  rwa [Nat.sub_zero, Nat.pow_zero, Nat.div_one] at this
theorem TR_1 {sM : zS} {T d : Nat} (h : TR sM T d) (hd : 2 ≤ d) : zM sM 43 (d - 2) = nI (T / 2 % 2) := by
  have := h.2 1 (by omega)
  rwa [show d - 1 - 1 = d - 2 by omega, Nat.pow_one] at this
theorem TR_put {sM : zS} {U T' d c : Nat} (hT : ∀ j, j < d → zM sM 43 (d - 1 - j) = nI (U / 2 ^ j % 2)) (hU : U < 2 ^ d) (h1 : T' = 2 * U + c) (hc : c < 2) : TR (zPM sM 43 d (nI c)) T' (d + 1) := by
  refine ⟨by rw [Nat.pow_succ]; omega, fun j hj => ?_⟩
  cases j with
  | zero =>
    rw [zM_PM, if_pos ⟨rfl, by omega⟩, Nat.pow_zero, Nat.div_one]
    congr 1; omega
  | succ j =>
    rw [zM_PM, if_neg (by omega), half_pow, show T' / 2 = U by omega, show d + 1 - 1 - (j + 1) = d - 1 - j by omega]
    exact hT j (by omega)
theorem TR_push {sM : zS} {T d b : Nat} (h : TR sM T d) (hb : b < 2) : TR (zPM sM 43 d (nI b)) (2 * T + b) (d + 1) := TR_put h.2 h.1 rfl hb
theorem TR_tail {sM : zS} {T d : Nat} (h : TR sM T d) (hd : 1 ≤ d) : T / 2 < 2 ^ (d - 1) ∧ ∀ j, j < d - 1 → zM sM 43 (d - 1 - 1 - j) = nI (T / 2 / 2 ^ j % 2) := by
  obtain ⟨e, rfl⟩ : ∃ e, d = e + 1 := ⟨d - 1, by omega⟩
  have h1 := h.1
  rw [Nat.pow_succ] at h1
  refine ⟨by rw [show e + 1 - 1 = e by omega]; omega, fun j hj => ?_⟩
  have := h.2 (j + 1) (by omega)
  rw [half_pow] at this
  rw [← this]
  congr 1; omega
theorem TR_not {sM : zS} {T d : Nat} (h : TR sM T d) (hd : 1 ≤ d) {c : Nat} (hc : c = 1 - T % 2) : TR (zPM sM 43 (d - 1) (nI c)) (2 * (T / 2) + (1 - T % 2)) d := by
  obtain ⟨q1, q2⟩ := TR_tail h hd
  have := TR_put (T' := 2 * (T / 2) + (1 - T % 2)) (c := c) q2 q1 (by omega) (by omega)
  rwa [show d - 1 + 1 = d by omega] at this
theorem TR_pop {sM : zS} {T d c : Nat} (h : TR sM T d) (hd : 2 ≤ d) (hc : c < 2) : TR (zPM sM 43 (d - 2) (nI c)) (2 * (T / 4) + c) (d - 1) := by
  obtain ⟨q1, q2⟩ := TR_tail h (show 1 ≤ d by omega)
  have h2 : TR sM (T / 2) (d - 1) := ⟨q1, q2⟩
  obtain ⟨q3, q4⟩ := TR_tail h2 (by omega)
  have := TR_put (T' := 2 * (T / 4) + c) (c := c) q4 q3 (by omega) hc
  rwa [show d - 1 - 1 + 1 = d - 1 by omega, show d - 1 - 1 = d - 2 by omega] at this
theorem dep_pre (f : Nat → Nat) : ∀ k i e, depN f (i + k) = some e → ∃ d, depN f i = some d
  | 0, i, e, h => ⟨e, h⟩
  | k + 1, i, e, h => by
    rw [← Nat.add_assoc] at h
    unfold depN at h
    cases hd : depN f (i + k) with
    | none => rw [hd] at h; exact absurd h (by simp)
    | some d => exact dep_pre f k i d hd
theorem depC_le {d q e : Nat} (h : depC d q = some e) (hd : d ≤ 20) : e ≤ 20 := by
  unfold depC at h
  split at h
  · split at h
    · simp at h; omega
    · simp at h
  · split at h
    · split at h
      · simp at h; omega
      · simp at h
    · split at h
      · split at h
        · simp at h; omega
        · simp at h
      · split at h
        · simp at h; omega
        · simp at h
theorem dep_le (f : Nat → Nat) : ∀ i d, depN f i = some d → d ≤ 20
  | 0, d, h => by simp [depN] at h; omega
  | i + 1, d, h => by
    unfold depN at h
    cases hd : depN f i with
    | none => rw [hd] at h; exact absurd h (by simp)
    | some e => rw [hd] at h; exact depC_le h (dep_le f i e hd)
theorem depC_cases {d q e : Nat} (h : depC d q = some e) : (3000 ≤ q ∧ q ≤ 3099 ∧ d = 1 ∧ e = 0) ∨ (q = 2000 ∧ 1 ≤ d ∧ e = d) ∨ (q = 2001 ∧ 2 ≤ d ∧ e = d - 1) ∨ (q = 2002 ∧ 2 ≤ d ∧ e = d - 1) ∨ (q < 1800 ∧ d < 20 ∧ e = d + 1) := by
  unfold depC at h
  split at h
  · split at h
    · simp at h; left; omega
    · simp at h
  · split at h
    · split at h
      · simp at h; right; left; omega
      · simp at h
    · split at h
      · split at h
        · simp at h
          rename_i hq _
          rcases hq with hq | hq
          · right; right; left; omega
          · right; right; right; left; omega
        · simp at h
      · split at h
        · simp at h; right; right; right; right; omega
        · simp at h
def valT (w k v p s l : Nat) : Nat := if l = 0 then w else if l = 1 then k else if l = 2 then v else if l = 3 then p / 10 else if l = 4 then p - p / 10 * 10 else s
def hldT (val how num : Nat) : Nat := if how = 0 then (if num ≤ val then 0 else 1) else if how = 1 then (if val = num then 1 else 0) else (if val ≤ num then 0 else 1)
theorem hldT_lt (a b c : Nat) : hldT a b c < 2 := by
  unfold hldT
  split
  · split <;> omega
  · split
    · split <;> omega
    · split <;> omega
theorem valT_le {w k v p s l : Nat} (hw : w < 6) (hk : k ≤ 6) (hv : v ≤ 9) (hp : p < 40) (hs : s ≤ 1) : valT w k v p s l < 100 := by
  unfold valT
  split
  · omega
  · split
    · omega
    · split
      · omega
      · split
        · omega
        · split <;> omega
theorem x_holds {st : zS} {x w k v p s l how num : Nat} (p5 : zTg st x ∈ zLs) (p8 : zM st x 0 = nI k) (p9 : zM st x 1 = nI w) (p10 : zM st x 2 = nI v) (hw : w < 6) (hk : k ≤ 6) (hv : v ≤ 9) (hp : p < 40) (hs : s ≤ 1) (hl : l < 6) (hh : how < 3) (hn : num < 100) : f_X6_holds st (nI (300 * l + 100 * how + num)) x (nI p) (nI s) = some (nI (hldT (valT w k v p s l) how num)) := by
  have e1 : nI (300 * l + 100 * how + num) / nI 300 = nI l := by rw [pk_div (by omega) (by omega) (by omega)]; congr 1; omega
  have e2 : nI (300 * l + 100 * how + num) / nI 100 = nI (3 * l + how) := by rw [pk_div (by omega) (by omega) (by omega)]; congr 1; omega
  have e3 : nI (300 * l + 100 * how + num) - nI (3 * l + how) * nI 100 = nI num := by rw [n_mul, pk_sub (by omega)]; congr 1; omega
  have e4 : nI (3 * l + how) / nI 3 = nI l := by rw [pk_div (by omega) (by omega) (by omega)]; congr 1; omega
  have e5 : nI (3 * l + how) - nI l * nI 3 = nI how := by rw [n_mul, pk_sub (by omega)]; congr 1; omega
  have hv2 := valT_le (l := l) hw hk hv hp hs
  have e6 : f_X6_valueAsked st (nI l) x (nI p) (nI s) = some (nI (valT w k v p s l)) := by
    unfold f_X6_valueAsked valT
    have hll : l = 0 ∨ l = 1 ∨ l = 2 ∨ l = 3 ∨ l = 4 ∨ l = 5 := by omega
    have e7 : nI p / nI 10 = nI (p / 10) := pk_div (by omega) (by omega) (by omega)
    rcases hll with rfl | rfl | rfl | rfl | rfl | rfl <;>
      simp (disch := omega) only [p5, p8, p9, p10, e7, n_mul, pk_sub, ↓reduceIte, List.mem_singleton, Option.bind_some, if_true, if_false, zM_PM, zLn_PM, zTg_PM, zR_PM, ↓zb, ↓zo, ↓zl, n_lt0, n_le, n_lt, n_eq, n_eq0, n_gt0, n_le0, n_ge0, n_zin, n_nat, nI_add, and_self, true_or, false_or, or_false, if_pos, if_neg, f_in_nI, Nat.reduceAdd]
  unfold f_X6_holds
  generalize valT w k v p s l = val at *
  unfold hldT
  have hhh : how = 0 ∨ how = 1 ∨ how = 2 := by omega
  rcases hhh with rfl | rfl | rfl
  · by_cases c : num ≤ val <;> simp (disch := omega) only [c, e1, e2, e3, e4, e5, ↓zl, ↓bs e6, ↓reduceIte, List.mem_singleton, Option.bind_some, if_true, if_false, zM_PM, zLn_PM, zTg_PM, zR_PM, ↓zb, ↓zo, ↓zl, n_lt0, n_le, n_lt, n_eq, n_eq0, n_gt0, n_le0, n_ge0, n_zin, n_nat, nI_add, and_self, true_or, false_or, or_false, if_pos, if_neg, f_in_nI, Nat.reduceAdd]
  · by_cases c : val = num
    · simp (disch := omega) only [c, e1, e2, e3, e4, e5, ↓zl, ↓bs e6, ↓reduceIte, List.mem_singleton, Option.bind_some, if_true, if_false, zM_PM, zLn_PM, zTg_PM, zR_PM, ↓zb, ↓zo, ↓zl, n_lt0, n_le, n_lt, n_eq, n_eq0, n_gt0, n_le0, n_ge0, n_zin, n_nat, nI_add, and_self, true_or, false_or, or_false, if_pos, if_neg, f_in_nI, Nat.reduceAdd]
    · simp (disch := omega) only [c, e1, e2, e3, e4, e5, ↓zl, ↓bs e6, ↓reduceIte, List.mem_singleton, Option.bind_some, if_true, if_false, zM_PM, zLn_PM, zTg_PM, zR_PM, ↓zb, ↓zo, ↓zl, n_lt0, n_le, n_lt, n_eq, n_eq0, n_gt0, n_le0, n_ge0, n_zin, n_nat, nI_add, and_self, true_or, false_or, or_false, if_pos, if_neg, f_in_nI, Nat.reduceAdd]
  · by_cases c : val ≤ num <;> simp (disch := omega) only [c, e1, e2, e3, e4, e5, ↓zl, ↓bs e6, ↓reduceIte, List.mem_singleton, Option.bind_some, if_true, if_false, zM_PM, zLn_PM, zTg_PM, zR_PM, ↓zb, ↓zo, ↓zl, n_lt0, n_le, n_lt, n_eq, n_eq0, n_gt0, n_le0, n_ge0, n_zin, n_nat, nI_add, and_self, true_or, false_or, or_false, if_pos, if_neg, f_in_nI, Nat.reduceAdd]
