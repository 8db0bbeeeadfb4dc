/-! the sign: both loops -/
def MT (st st' : zS) : Prop := st'.1 = st.1 ∧ st'.2.1 = st.2.1 ∧ st'.2.2.2 = st.2.2.2 ∧ ∀ k j, k ≠ 42 → k ≠ 43 → zM st' k j = zM st k j
theorem MT.rf {st : zS} : MT st st := ⟨rfl, rfl, rfl, fun _ _ _ _ => rfl⟩
theorem MT.tr {a b c : zS} (h : MT a b) (g : MT b c) : MT a c := ⟨g.1.trans h.1, g.2.1.trans h.2.1, g.2.2.1.trans h.2.2.1, fun k j q q2 => (g.2.2.2 k j q q2).trans (h.2.2.2 k j q q2)⟩
theorem MT.pm {a b : zS} (h : MT a b) (k j : Nat) (x : Int32) (hk : k = 42 ∨ k = 43) : MT a (zPM b k j x) := by
  refine h.tr ⟨rfl, rfl, rfl, fun k' j' q q2 => ?_⟩
  rw [zM_PM, if_neg (by omega)]
theorem MT.ms {a b : zS} (h : MT a b) : MS a b := ⟨h.1, h.2.1, h.2.2.1, fun k j q => h.2.2.2 k j (by omega) (by omega), h.2.2.2 39 3 (by omega) (by omega), h.2.2.2 39 20 (by omega) (by omega)⟩
theorem MT.sh {a b : zS} (h : MT a b) (hs : Sh a) : Sh b := h.ms.sh hs
theorem MT.mB {a b : zS} (h : MT a b) {B j : Nat} (q : B = 40 ∨ B = 41) : zM b B j = zM a B j := h.2.2.2 B j (by omega) (by omega)
theorem neg_tab : ∀ m, m < 110 → 10 ≤ m → (-nI m < 0) = True ∧ (-nI m = (-1 : Int32)) = False ∧ (-nI m ≤ (-10 : Int32)) = True ∧ (-10 : Int32) - (-nI m) = nI (m - 10) := by
  have h : ∀ m, m < 110 → 10 ≤ m → (-nI m < 0) ∧ ¬ (-nI m = (-1 : Int32)) ∧ (-nI m ≤ (-10 : Int32)) ∧ (-10 : Int32) - (-nI m) = nI (m - 10) := by decide +kernel
  intro m h1 h2
  obtain ⟨a, b, c, d⟩ := h m h1 h2
  exact ⟨eq_true a, eq_false b, eq_true c, d⟩
theorem d_m1 {d : Nat} (hd : 1 ≤ d) : nI d + (-1) = nI (d - 1) := by
  obtain ⟨e, rfl⟩ : ∃ e, d = e + 1 := ⟨d - 1, by omega⟩
  exact pk_m1 e
theorem stp_e {l how num : Nat} (hl : l < 6) (hh : how < 3) (hn : num < 100) : stp (300 * l + 100 * how + num) = nI (l + 8 * how + 32 * num) := by
  unfold stp
  rw [if_neg (by omega), if_neg (by omega), if_neg (by omega), if_neg (by omega)]
  congr 1
  omega
theorem sign_loop {st : zS} {hd c x sz w k v : Nat} {f : Nat → Nat} (t16 : zTg st hd = 16) (r3 : zR st hd 3 = some c) (tc : zTg st c = 1) (lc : zLn st c = 100) (s4 : zM st hd 4 = nI sz) (hsz : sz ≤ 100) (hf : ∀ i, i < sz → zM st c i = nI (f i)) (hdep : depN f sz = some 0) (p5 : zTg st x ∈ zLs) (p8 : zM st x 0 = nI k) (p9 : zM st x 1 = nI w) (p10 : zM st x 2 = nI v) (hw : w < 6) (hk : k ≤ 6) (hv : v ≤ 9) {p s : Nat} (hp : p < 40) (hs : s ≤ 1) (N : Nat) {base : Nat} (hb : base ≤ 808) {sM0 : zS} (hs0 : Sh sM0) (hst : ∀ i, i < sz → zM sM0 40 (base + i) = stp (f i)) (a1 : Int32) : ∀ kk f1 f2 i T sum d sM, i + kk = sz → kk < f1 → kk < f2 → depN f i = some d → TR sM T d → MT sM0 sM → (∀ l, l < 6 → zM sM 42 l = nI (valT w k v p s l)) → sum ≤ i * 99 → ∃ y sM', y ≤ 100 ∧ f_X6_signOf_9 N st hd x (nI p) (nI s) f1 (nI T) (nI sum) (nI i) = some (nI y) ∧ f_X12_signAt_137 N 39 a1 f2 sM (nI sum) (nI sz) (nI base) (nI d) (nI (base + i)) = some (sM', nI y) ∧ MT sM0 sM' := by
  intro kk
  induction kk with
  | zero =>
    intro f1 f2 i T sum d sM h1 h2 h3 hd1 hT hm hby hsum
    obtain ⟨f1, rfl⟩ : ∃ m, f1 = m + 1 := ⟨f1 - 1, by omega⟩
    obtain ⟨f2, rfl⟩ : ∃ m, f2 = m + 1 := ⟨f2 - 1, by omega⟩
    have hi : i = sz := by omega
    subst hi
    clear hf hst hby hT hdep
    rw [f_X6_signOf_9, f_X12_signAt_137]
    unfold f_X6_signOf_167
    by_cases hq : sum ≤ 100
    · refine ⟨sum, sM, hq, ?_, ?_, hm⟩
      · simp (disch := omega) only [t16, s4, ↓reduceIte, List.mem_singleton, Option.bind_some, if_true, if_false, zM_PM, zLn_PM, zTg_PM, zR_PM, ↓zb, ↓zo, ↓zl, n_lt0, n_le, n_lt, n_eq, n_eq0, n_gt0, n_le0, n_ge0, n_zin, n_nat, nI_add, and_self, true_or, false_or, or_false, if_pos, if_neg, f_in_nI, Nat.reduceAdd]
      · simp (disch := omega) only [hq, ↓reduceIte, List.mem_singleton, Option.bind_some, if_true, if_false, zM_PM, zLn_PM, zTg_PM, zR_PM, ↓zb, ↓zo, ↓zl, n_lt0, n_le, n_lt, n_eq, n_eq0, n_gt0, n_le0, n_ge0, n_zin, n_nat, nI_add, and_self, true_or, false_or, or_false, if_pos, if_neg, f_in_nI, Nat.reduceAdd]
    · refine ⟨100, sM, Nat.le_refl _, ?_, ?_, hm⟩
      · simp (disch := omega) only [t16, s4, ↓reduceIte, List.mem_singleton, Option.bind_some, if_true, if_false, zM_PM, zLn_PM, zTg_PM, zR_PM, ↓zb, ↓zo, ↓zl, n_lt0, n_le, n_lt, n_eq, n_eq0, n_gt0, n_le0, n_ge0, n_zin, n_nat, nI_add, and_self, true_or, false_or, or_false, if_pos, if_neg, f_in_nI, Nat.reduceAdd]
      · simp (disch := omega) only [hq, ↓reduceIte, List.mem_singleton, Option.bind_some, if_true, if_false, zM_PM, zLn_PM, zTg_PM, zR_PM, ↓zb, ↓zo, ↓zl, n_lt0, n_le, n_lt, n_eq, n_eq0, n_gt0, n_le0, n_ge0, n_zin, n_nat, nI_add, and_self, true_or, false_or, or_false, if_pos, if_neg, f_in_nI, Nat.reduceAdd]
  | succ kk ih =>
    intro f1 f2 i T sum d sM h1 h2 h3 hd1 hT hm hby hsum
    obtain ⟨f1, rfl⟩ : ∃ m, f1 = m + 1 := ⟨f1 - 1, by omega⟩
    obtain ⟨f2, rfl⟩ : ∃ m, f2 = m + 1 := ⟨f2 - 1, by omega⟩
    have hsM := hm.sh hs0
    have d20 := dep_le f i d hd1
    have T20 := TR_lt hT d20
    obtain ⟨e, he⟩ := dep_pre f kk (i + 1) 0 (by rw [show i + 1 + kk = sz by omega]; exact hdep)
    have hc : depC d (f i) = some e := by
      have h9 := he
      unfold depN at h9
      rw [hd1] at h9
      exact h9
    have c1 := hf i (by omega)
    have m1 : zM sM 40 (base + i) = stp (f i) := (hm.mB (Or.inl rfl)).trans (hst i (by omega))
    have nx := ih f1 f2 (i + 1)
    rw [← Nat.add_assoc] at nx
    have ms42 : ∀ (q : Nat) (z : Int32), MT sM0 (zPM sM 43 q z) ∧ ∀ l, l < 6 → zM (zPM sM 43 q z) 42 l = nI (valT w k v p s l) := fun q z => ⟨hm.pm _ _ _ (by omega), fun l hl => by rw [zM_PM, if_neg (by omega)]; exact hby l hl⟩
    clear ih hf hst hdep
    generalize f i = q at *
    rcases depC_cases hc with ⟨g1, g2, g3, g4⟩ | ⟨g1, g2, g3⟩ | ⟨g1, g2, g3⟩ | ⟨g1, g2, g3⟩ | ⟨g1, g2, g3⟩
    · subst g3 g4
      have tr0 : TR sM 0 0 := ⟨by decide, fun j hj => by omega⟩
      have z0 := TR_0 hT (Nat.le_refl 1)
      obtain ⟨n1, n2, n3, n4⟩ := neg_tab (q - 2990) (by omega) (by omega)
      have e1 : stp q = -nI (q - 2990) := by unfold stp; rw [if_pos g1]
      have e2 : nI (q - 2990 - 10) = nI (q - 3000) := by rw [Nat.sub_sub]
      rw [e1] at m1
      by_cases ht : T % 2 = 1
      · obtain ⟨y, sM', u0, u1, u2, u3⟩ := nx 0 (sum + (q - 3000)) 0 sM (by omega) (by omega) (by omega) he tr0 hm hby (by omega)
        clear nx ms42 hby hT tr0 he hd1 hc
        refine ⟨y, sM', u0, ?_, ?_, u3⟩
        · rw [f_X6_signOf_9]
          unfold f_X6_signOf_69 f_X6_signOf_161
          simp (disch := omega) only [t16, s4, ↓bs r3, tc, lc, c1, ↓zl, k_top, ht, pk_sub, ↓reduceIte, List.mem_singleton, Option.bind_some, if_true, if_false, zM_PM, zLn_PM, zTg_PM, zR_PM, ↓zb, ↓zo, ↓zl, n_lt0, n_le, n_lt, n_eq, n_eq0, n_gt0, n_le0, n_ge0, n_zin, n_nat, nI_add, and_self, true_or, false_or, or_false, if_pos, if_neg, f_in_nI, Nat.reduceAdd]
          exact u1
        · rw [f_X12_signAt_137]
          unfold f_X12_signAt_398 f_X12_signAt_400
          simp (disch := omega) only [m1, ↓zl, n1, n2, n3, n4, e2, z0, ht, show (1 - 1 : Nat) = 0 from rfl, ↓bs (r39_10 hsM), t43 hsM, l43 hsM, ↓reduceIte, List.mem_singleton, Option.bind_some, if_true, if_false, zM_PM, zLn_PM, zTg_PM, zR_PM, ↓zb, ↓zo, ↓zl, n_lt0, n_le, n_lt, n_eq, n_eq0, n_gt0, n_le0, n_ge0, n_zin, n_nat, nI_add, and_self, true_or, false_or, or_false, if_pos, if_neg, f_in_nI, Nat.reduceAdd, t39 hsM, ↓bs (r39_1 hsM), t40 hsM, l40 hsM]
          exact u2
      · have ht0 : T % 2 = 0 := by omega
        obtain ⟨y, sM', u0, u1, u2, u3⟩ := nx 0 (sum + 0) 0 sM (by omega) (by omega) (by omega) he tr0 hm hby (by omega)
        clear nx ms42 hby hT tr0 he hd1 hc
        refine ⟨y, sM', u0, ?_, ?_, u3⟩
        · rw [f_X6_signOf_9]
          unfold f_X6_signOf_69 f_X6_signOf_161
          simp (disch := omega) only [t16, s4, ↓bs r3, tc, lc, c1, ↓zl, k_top, ht0, pk_sub, ↓reduceIte, List.mem_singleton, Option.bind_some, if_true, if_false, zM_PM, zLn_PM, zTg_PM, zR_PM, ↓zb, ↓zo, ↓zl, n_lt0, n_le, n_lt, n_eq, n_eq0, n_gt0, n_le0, n_ge0, n_zin, n_nat, nI_add, and_self, true_or, false_or, or_false, if_pos, if_neg, f_in_nI, Nat.reduceAdd]
          exact u1
        · rw [f_X12_signAt_137]
          unfold f_X12_signAt_398 f_X12_signAt_400
          simp (disch := omega) only [m1, ↓zl, n1, n2, n3, n4, e2, z0, ht0, show (1 - 1 : Nat) = 0 from rfl, ↓bs (r39_10 hsM), t43 hsM, l43 hsM, ↓reduceIte, List.mem_singleton, Option.bind_some, if_true, if_false, zM_PM, zLn_PM, zTg_PM, zR_PM, ↓zb, ↓zo, ↓zl, n_lt0, n_le, n_lt, n_eq, n_eq0, n_gt0, n_le0, n_ge0, n_zin, n_nat, nI_add, and_self, true_or, false_or, or_false, if_pos, if_neg, f_in_nI, Nat.reduceAdd, t39 hsM, ↓bs (r39_1 hsM), t40 hsM, l40 hsM]
          exact u2
    · subst g1 g3
      have z0 := TR_0 hT g2
      have e1 : stp 2000 = -1 := by decide
      have e2 : ((-1 : Int32) < 0) = True := by decide
      have e3 : ((-1 : Int32) = -1) = True := eq_self _
      rw [e1] at m1
      have hcc : 1 - T % 2 = 0 ∨ 1 - T % 2 = 1 := by omega
      obtain ⟨w1, w2⟩ := ms42 (e - 1) (nI (1 - T % 2))
      obtain ⟨y, sM', u0, u1, u2, u3⟩ := nx _ sum e _ (by omega) (by omega) (by omega) he (TR_not hT g2 rfl) w1 w2 (by omega)
      clear nx ms42 hby hT he hd1 hc w1 w2
      refine ⟨y, sM', u0, ?_, ?_, u3⟩
      · rw [f_X6_signOf_9]
        unfold f_X6_signOf_161
        simp (disch := omega) only [t16, s4, ↓bs r3, tc, lc, c1, ↓zl, k_top, k_xor, ↓reduceIte, List.mem_singleton, Option.bind_some, if_true, if_false, zM_PM, zLn_PM, zTg_PM, zR_PM, ↓zb, ↓zo, ↓zl, n_lt0, n_le, n_lt, n_eq, n_eq0, n_gt0, n_le0, n_ge0, n_zin, n_nat, nI_add, and_self, true_or, false_or, or_false, if_pos, if_neg, f_in_nI, Nat.reduceAdd]
        exact u1
      · rw [f_X12_signAt_137]
        unfold f_X12_signAt_286 f_X12_signAt_400
        by_cases ht : T % 2 = 0
        · rw [ht] at u2
          simp (disch := omega) only [m1, ↓zl, e2, e3, pk_sub, z0, ht, ↓bs (r39_10 hsM), t43 hsM, l43 hsM, ↓reduceIte, List.mem_singleton, Option.bind_some, if_true, if_false, zM_PM, zLn_PM, zTg_PM, zR_PM, ↓zb, ↓zo, ↓zl, n_lt0, n_le, n_lt, n_eq, n_eq0, n_gt0, n_le0, n_ge0, n_zin, n_nat, nI_add, and_self, true_or, false_or, or_false, if_pos, if_neg, f_in_nI, Nat.reduceAdd, t39 hsM, ↓bs (r39_1 hsM), t40 hsM, l40 hsM]
          rw [if_pos (show zB (nI 1) from Or.inr rfl)]
          exact u2
        · have ht1 : T % 2 = 1 := by omega
          rw [ht1] at u2
          simp (disch := omega) only [m1, ↓zl, e2, e3, pk_sub, z0, ht1, ↓bs (r39_10 hsM), t43 hsM, l43 hsM, ↓reduceIte, List.mem_singleton, Option.bind_some, if_true, if_false, zM_PM, zLn_PM, zTg_PM, zR_PM, ↓zb, ↓zo, ↓zl, n_lt0, n_le, n_lt, n_eq, n_eq0, n_gt0, n_le0, n_ge0, n_zin, n_nat, nI_add, and_self, true_or, false_or, or_false, if_pos, if_neg, f_in_nI, Nat.reduceAdd, t39 hsM, ↓bs (r39_1 hsM), t40 hsM, l40 hsM]
          rw [if_pos (show zB (nI 0) from Or.inl rfl)]
          exact u2
    · subst g1 g3
      have z0 := TR_0 hT (show 1 ≤ d by omega)
      have z1 := TR_1 hT g2
      have e1 : stp 2001 = -2 := by decide
      have e2 : ((-2 : Int32) < 0) = True := by decide
      have e3 : ((-2 : Int32) = -1) = False := by decide
      have e4 : ((-2 : Int32) ≤ -10) = False := by decide
      have e5 : ((-2 : Int32) = -2) = True := eq_self _
      have e6 : d - 1 - 1 = d - 2 := by omega
      rw [e1] at m1
      obtain ⟨w1, w2⟩ := ms42 (d - 2) (nI (if T % 2 = 1 ∧ T / 2 % 2 = 1 then 1 else 0))
      obtain ⟨y, sM', u0, u1, u2, u3⟩ := nx _ sum (d - 1) _ (by omega) (by omega) (by omega) he (TR_pop hT g2 (show (if T % 2 = 1 ∧ T / 2 % 2 = 1 then 1 else 0) < 2 by split <;> omega)) w1 w2 (by omega)
      clear nx ms42 hby hT he hd1 hc w1 w2
      refine ⟨y, sM', u0, ?_, ?_, u3⟩
      · rw [f_X6_signOf_9]
        unfold f_X6_signOf_161
        simp (disch := omega) only [t16, s4, ↓bs r3, tc, lc, c1, ↓zl, k_top, k_and, ↓reduceIte, List.mem_singleton, Option.bind_some, if_true, if_false, zM_PM, zLn_PM, zTg_PM, zR_PM, ↓zb, ↓zo, ↓zl, n_lt0, n_le, n_lt, n_eq, n_eq0, n_gt0, n_le0, n_ge0, n_zin, n_nat, nI_add, and_self, true_or, false_or, or_false, if_pos, if_neg, f_in_nI, Nat.reduceAdd]
        exact u1
      · rw [f_X12_signAt_137]
        unfold f_X12_signAt_367 f_X12_signAt_341 f_X12_signAt_372 f_X12_signAt_400
        by_cases h1' : T / 2 % 2 = 0
        · rw [if_neg (by omega)] at u2
          simp (disch := omega) only [m1, ↓zl, e2, e3, e4, e5, d_m1, pk_sub, e6, z1, h1', ↓bs (r39_10 hsM), t43 hsM, l43 hsM, ↓reduceIte, List.mem_singleton, Option.bind_some, if_true, if_false, zM_PM, zLn_PM, zTg_PM, zR_PM, ↓zb, ↓zo, ↓zl, n_lt0, n_le, n_lt, n_eq, n_eq0, n_gt0, n_le0, n_ge0, n_zin, n_nat, nI_add, and_self, true_or, false_or, or_false, if_pos, if_neg, f_in_nI, Nat.reduceAdd, t39 hsM, ↓bs (r39_1 hsM), t40 hsM, l40 hsM]
          rw [if_pos (show zB (nI 0) from Or.inl rfl)]
          exact u2
        · have h1'' : T / 2 % 2 = 1 := by omega
          by_cases h0' : T % 2 = 0
          · rw [if_neg (by omega)] at u2
            simp (disch := omega) only [m1, ↓zl, e2, e3, e4, e5, d_m1, pk_sub, e6, z0, z1, h1'', h0', ↓bs (r39_10 hsM), t43 hsM, l43 hsM, ↓reduceIte, List.mem_singleton, Option.bind_some, if_true, if_false, zM_PM, zLn_PM, zTg_PM, zR_PM, ↓zb, ↓zo, ↓zl, n_lt0, n_le, n_lt, n_eq, n_eq0, n_gt0, n_le0, n_ge0, n_zin, n_nat, nI_add, and_self, true_or, false_or, or_false, if_pos, if_neg, f_in_nI, Nat.reduceAdd, t39 hsM, ↓bs (r39_1 hsM), t40 hsM, l40 hsM]
            rw [if_pos (show zB (nI 0) from Or.inl rfl)]
            exact u2
          · have h0'' : T % 2 = 1 := by omega
            rw [if_pos ⟨h0'', h1''⟩] at u2
            simp (disch := omega) only [m1, ↓zl, e2, e3, e4, e5, d_m1, pk_sub, e6, z0, z1, h1'', h0'', ↓bs (r39_10 hsM), t43 hsM, l43 hsM, ↓reduceIte, List.mem_singleton, Option.bind_some, if_true, if_false, zM_PM, zLn_PM, zTg_PM, zR_PM, ↓zb, ↓zo, ↓zl, n_lt0, n_le, n_lt, n_eq, n_eq0, n_gt0, n_le0, n_ge0, n_zin, n_nat, nI_add, and_self, true_or, false_or, or_false, if_pos, if_neg, f_in_nI, Nat.reduceAdd, t39 hsM, ↓bs (r39_1 hsM), t40 hsM, l40 hsM]
            rw [if_pos (show zB (nI 1) from Or.inr rfl)]
            exact u2
    · subst g1 g3
      have z0 := TR_0 hT (show 1 ≤ d by omega)
      have z1 := TR_1 hT g2
      have e1 : stp 2002 = -3 := by decide
      have e2 : ((-3 : Int32) < 0) = True := by decide
      have e3 : ((-3 : Int32) = -1) = False := by decide
      have e4 : ((-3 : Int32) ≤ -10) = False := by decide
      have e5 : ((-3 : Int32) = -2) = False := by decide
      have e6 : d - 1 - 1 = d - 2 := by omega
      rw [e1] at m1
      obtain ⟨w1, w2⟩ := ms42 (d - 2) (nI (if T % 2 = 1 ∨ T / 2 % 2 = 1 then 1 else 0))
      obtain ⟨y, sM', u0, u1, u2, u3⟩ := nx _ sum (d - 1) _ (by omega) (by omega) (by omega) he (TR_pop hT g2 (show (if T % 2 = 1 ∨ T / 2 % 2 = 1 then 1 else 0) < 2 by split <;> omega)) w1 w2 (by omega)
      clear nx ms42 hby hT he hd1 hc w1 w2
      refine ⟨y, sM', u0, ?_, ?_, u3⟩
      · rw [f_X6_signOf_9]
        unfold f_X6_signOf_161
        simp (disch := omega) only [t16, s4, ↓bs r3, tc, lc, c1, ↓zl, k_top, k_or, ↓reduceIte, List.mem_singleton, Option.bind_some, if_true, if_false, zM_PM, zLn_PM, zTg_PM, zR_PM, ↓zb, ↓zo, ↓zl, n_lt0, n_le, n_lt, n_eq, n_eq0, n_gt0, n_le0, n_ge0, n_zin, n_nat, nI_add, and_self, true_or, false_or, or_false, if_pos, if_neg, f_in_nI, Nat.reduceAdd]
        exact u1
      · rw [f_X12_signAt_137]
        unfold f_X12_signAt_367 f_X12_signAt_341 f_X12_signAt_372 f_X12_signAt_400
        by_cases h1' : T / 2 % 2 = 0
        · by_cases h0' : T % 2 = 0
          · rw [if_neg (by omega)] at u2
            simp (disch := omega) only [m1, ↓zl, e2, e3, e4, e5, d_m1, pk_sub, e6, z0, z1, h1', h0', ↓bs (r39_10 hsM), t43 hsM, l43 hsM, ↓reduceIte, List.mem_singleton, Option.bind_some, if_true, if_false, zM_PM, zLn_PM, zTg_PM, zR_PM, ↓zb, ↓zo, ↓zl, n_lt0, n_le, n_lt, n_eq, n_eq0, n_gt0, n_le0, n_ge0, n_zin, n_nat, nI_add, and_self, true_or, false_or, or_false, if_pos, if_neg, f_in_nI, Nat.reduceAdd, t39 hsM, ↓bs (r39_1 hsM), t40 hsM, l40 hsM]
            rw [if_pos (show zB (nI 0) from Or.inl rfl)]
            exact u2
          · have h0'' : T % 2 = 1 := by omega
            rw [if_pos (Or.inl h0'')] at u2
            simp (disch := omega) only [m1, ↓zl, e2, e3, e4, e5, d_m1, pk_sub, e6, z0, z1, h1', h0'', ↓bs (r39_10 hsM), t43 hsM, l43 hsM, ↓reduceIte, List.mem_singleton, Option.bind_some, if_true, if_false, zM_PM, zLn_PM, zTg_PM, zR_PM, ↓zb, ↓zo, ↓zl, n_lt0, n_le, n_lt, n_eq, n_eq0, n_gt0, n_le0, n_ge0, n_zin, n_nat, nI_add, and_self, true_or, false_or, or_false, if_pos, if_neg, f_in_nI, Nat.reduceAdd, t39 hsM, ↓bs (r39_1 hsM), t40 hsM, l40 hsM]
            rw [if_pos (show zB (nI 1) from Or.inr rfl)]
            exact u2
        · have h1'' : T / 2 % 2 = 1 := by omega
          rw [if_pos (Or.inr h1'')] at u2
          simp (disch := omega) only [m1, ↓zl, e2, e3, e4, e5, d_m1, pk_sub, e6, z0, z1, h1'', ↓bs (r39_10 hsM), t43 hsM, l43 hsM, ↓reduceIte, List.mem_singleton, Option.bind_some, if_true, if_false, zM_PM, zLn_PM, zTg_PM, zR_PM, ↓zb, ↓zo, ↓zl, n_lt0, n_le, n_lt, n_eq, n_eq0, n_gt0, n_le0, n_ge0, n_zin, n_nat, nI_add, and_self, true_or, false_or, or_false, if_pos, if_neg, f_in_nI, Nat.reduceAdd, t39 hsM, ↓bs (r39_1 hsM), t40 hsM, l40 hsM]
          rw [if_pos (show zB (nI 1) from Or.inr rfl)]
          exact u2
    · subst g3
      obtain ⟨l, how, num, rfl, hl, hh, hn⟩ : ∃ l how num, q = 300 * l + 100 * how + num ∧ l < 6 ∧ how < 3 ∧ num < 100 := ⟨q / 300, q / 100 % 3, q % 100, by omega, by omega, by omega, by omega⟩
      have xh := x_holds p5 p8 p9 p10 hw hk hv hp hs hl hh hn
      have hlt := hldT_lt (valT w k v p s l) how num
      have hvl := valT_le (l := l) hw hk hv hp hs
      rw [stp_e hl hh hn] at m1
      have b1 := hby l hl
      obtain ⟨w1, w2⟩ := ms42 d (nI (hldT (valT w k v p s l) how num))
      obtain ⟨y, sM', u0, u1, u2, u3⟩ := nx _ sum (d + 1) _ (by omega) (by omega) (by omega) he (TR_push hT hlt) w1 w2 (by omega)
      have e1 : nI (l + 8 * how + 32 * num) / nI 8 = nI (how + 4 * num) := by rw [pk_div (by omega) (by omega) (by omega)]; congr 1; omega
      have e2 : nI (l + 8 * how + 32 * num) - nI (how + 4 * num) * nI 8 = nI l := by rw [n_mul, pk_sub (by omega)]; congr 1; omega
      have e3 : nI (how + 4 * num) / nI 4 = nI num := by rw [pk_div (by omega) (by omega) (by omega)]; congr 1; omega
      have e4 : nI (how + 4 * num) - nI num * nI 4 = nI how := by rw [n_mul, pk_sub (by omega)]; congr 1; omega
      have e5 : nI (l + 8 * how + 32 * num) / nI 32 = nI num := by rw [pk_div (by omega) (by omega) (by omega)]; congr 1; omega
      clear nx ms42 hby hT he hd1 hc w1 w2
      refine ⟨y, sM', u0, ?_, ?_, u3⟩
      · rw [f_X6_signOf_9]
        unfold f_X6_signOf_158 f_X6_signOf_161
        generalize hldT (valT w k v p s l) how num = b at *
        have hbb : b = 0 ∨ b = 1 := by omega
        rcases hbb with rfl | rfl
        · simp (disch := omega) only [t16, s4, ↓bs r3, tc, lc, c1, ↓zl, k_top, k_push, ↓bs xh, ↓reduceIte, List.mem_singleton, Option.bind_some, if_true, if_false, zM_PM, zLn_PM, zTg_PM, zR_PM, ↓zb, ↓zo, ↓zl, n_lt0, n_le, n_lt, n_eq, n_eq0, n_gt0, n_le0, n_ge0, n_zin, n_nat, nI_add, and_self, true_or, false_or, or_false, if_pos, if_neg, f_in_nI, Nat.reduceAdd]
          exact u1
        · simp (disch := omega) only [t16, s4, ↓bs r3, tc, lc, c1, ↓zl, k_top, k_push, ↓bs xh, ↓reduceIte, List.mem_singleton, Option.bind_some, if_true, if_false, zM_PM, zLn_PM, zTg_PM, zR_PM, ↓zb, ↓zo, ↓zl, n_lt0, n_le, n_lt, n_eq, n_eq0, n_gt0, n_le0, n_ge0, n_zin, n_nat, nI_add, and_self, true_or, false_or, or_false, if_pos, if_neg, f_in_nI, Nat.reduceAdd]
          exact u1
      · rw [f_X12_signAt_137]
        unfold f_X12_signAt_248 f_X12_signAt_400
        clear xh u1
        generalize valT w k v p s l = val at *
        unfold hldT at u2
        have hhh : how = 0 ∨ how = 1 ∨ how = 2 := by omega
        rcases hhh with rfl | rfl | rfl
        · by_cases cc : num ≤ val
          · rw [if_pos rfl, if_pos cc] at u2
            simp (disch := omega) only [m1, ↓zl, e1, e2, e3, e4, e5, b1, cc, ↓bs (r39_9 hsM), t42 hsM, l42 hsM, ↓bs (r39_10 hsM), t43 hsM, l43 hsM, ↓reduceIte, List.mem_singleton, Option.bind_some, if_true, if_false, zM_PM, zLn_PM, zTg_PM, zR_PM, ↓zb, ↓zo, ↓zl, n_lt0, n_le, n_lt, n_eq, n_eq0, n_gt0, n_le0, n_ge0, n_zin, n_nat, nI_add, and_self, true_or, false_or, or_false, if_pos, if_neg, f_in_nI, Nat.reduceAdd, t39 hsM, ↓bs (r39_1 hsM), t40 hsM, l40 hsM]
            rw [if_pos (show zB (nI 0) from Or.inl rfl)]
            exact u2
          · rw [if_pos rfl, if_neg cc] at u2
            simp (disch := omega) only [m1, ↓zl, e1, e2, e3, e4, e5, b1, cc, ↓bs (r39_9 hsM), t42 hsM, l42 hsM, ↓bs (r39_10 hsM), t43 hsM, l43 hsM, ↓reduceIte, List.mem_singleton, Option.bind_some, if_true, if_false, zM_PM, zLn_PM, zTg_PM, zR_PM, ↓zb, ↓zo, ↓zl, n_lt0, n_le, n_lt, n_eq, n_eq0, n_gt0, n_le0, n_ge0, n_zin, n_nat, nI_add, and_self, true_or, false_or, or_false, if_pos, if_neg, f_in_nI, Nat.reduceAdd, t39 hsM, ↓bs (r39_1 hsM), t40 hsM, l40 hsM]
            rw [if_pos (show zB (nI 1) from Or.inr rfl)]
            exact u2
        · rw [if_neg (by omega), if_pos rfl] at u2
          by_cases cc : val = num
          · rw [if_pos cc] at u2
            simp (disch := omega) only [m1, ↓zl, e1, e2, e3, e4, e5, b1, cc, ↓bs (r39_9 hsM), t42 hsM, l42 hsM, ↓bs (r39_10 hsM), t43 hsM, l43 hsM, ↓reduceIte, List.mem_singleton, Option.bind_some, if_true, if_false, zM_PM, zLn_PM, zTg_PM, zR_PM, ↓zb, ↓zo, ↓zl, n_lt0, n_le, n_lt, n_eq, n_eq0, n_gt0, n_le0, n_ge0, n_zin, n_nat, nI_add, and_self, true_or, false_or, or_false, if_pos, if_neg, f_in_nI, Nat.reduceAdd, t39 hsM, ↓bs (r39_1 hsM), t40 hsM, l40 hsM]
            rw [if_pos (show zB (nI 1) from Or.inr rfl)]
            exact u2
          · rw [if_neg cc] at u2
            simp (disch := omega) only [m1, ↓zl, e1, e2, e3, e4, e5, b1, cc, ↓bs (r39_9 hsM), t42 hsM, l42 hsM, ↓bs (r39_10 hsM), t43 hsM, l43 hsM, ↓reduceIte, List.mem_singleton, Option.bind_some, if_true, if_false, zM_PM, zLn_PM, zTg_PM, zR_PM, ↓zb, ↓zo, ↓zl, n_lt0, n_le, n_lt, n_eq, n_eq0, n_gt0, n_le0, n_ge0, n_zin, n_nat, nI_add, and_self, true_or, false_or, or_false, if_pos, if_neg, f_in_nI, Nat.reduceAdd, t39 hsM, ↓bs (r39_1 hsM), t40 hsM, l40 hsM]
            rw [if_pos (show zB (nI 0) from Or.inl rfl)]
            exact u2
        · rw [if_neg (by omega), if_neg (by omega)] at u2
          by_cases cc : val ≤ num
          · rw [if_pos cc] at u2
            simp (disch := omega) only [m1, ↓zl, e1, e2, e3, e4, e5, b1, cc, ↓bs (r39_9 hsM), t42 hsM, l42 hsM, ↓bs (r39_10 hsM), t43 hsM, l43 hsM, ↓reduceIte, List.mem_singleton, Option.bind_some, if_true, if_false, zM_PM, zLn_PM, zTg_PM, zR_PM, ↓zb, ↓zo, ↓zl, n_lt0, n_le, n_lt, n_eq, n_eq0, n_gt0, n_le0, n_ge0, n_zin, n_nat, nI_add, and_self, true_or, false_or, or_false, if_pos, if_neg, f_in_nI, Nat.reduceAdd, t39 hsM, ↓bs (r39_1 hsM), t40 hsM, l40 hsM]
            rw [if_pos (show zB (nI 0) from Or.inl rfl)]
            exact u2
          · rw [if_neg cc] at u2
            simp (disch := omega) only [m1, ↓zl, e1, e2, e3, e4, e5, b1, cc, ↓bs (r39_9 hsM), t42 hsM, l42 hsM, ↓bs (r39_10 hsM), t43 hsM, l43 hsM, ↓reduceIte, List.mem_singleton, Option.bind_some, if_true, if_false, zM_PM, zLn_PM, zTg_PM, zR_PM, ↓zb, ↓zo, ↓zl, n_lt0, n_le, n_lt, n_eq, n_eq0, n_gt0, n_le0, n_ge0, n_zin, n_nat, nI_add, and_self, true_or, false_or, or_false, if_pos, if_neg, f_in_nI, Nat.reduceAdd, t39 hsM, ↓bs (r39_1 hsM), t40 hsM, l40 hsM]
            rw [if_pos (show zB (nI 1) from Or.inr rfl)]
            exact u2
