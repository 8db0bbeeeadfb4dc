/-! where -/
def cL (key : Nat → Nat) (t : Nat) : Nat → Nat
  | 0 => 0
  | n + 1 => cL key t n + (if key n < t then 1 else 0)
theorem cL_mono (key : Nat → Nat) {t u : Nat} (h : t ≤ u) : ∀ n, cL key t n ≤ cL key u n
  | 0 => Nat.le_refl _
  | n + 1 => by
    have := cL_mono key h n
    unfold cL
    split <;> split <;> omega
theorem cL_congr (key : Nat → Nat) {t u : Nat} : ∀ n, (∀ q, q < n → (key q < t ↔ key q < u)) → cL key t n = cL key u n
  | 0, _ => rfl
  | n + 1, h => by
    have h1 := cL_congr key n (fun q hq => h q (by omega))
    have h2 := h n (by omega)
    unfold cL
    rw [h1]
    by_cases c : key n < t
    · rw [if_pos c, if_pos (h2.mp c)]
    · rw [if_neg c, if_neg (fun q => c (h2.mpr q))]
theorem cL_full (key : Nat → Nat) {t : Nat} : ∀ n, (∀ q, q < n → key q < t) → cL key t n = n
  | 0, _ => rfl
  | n + 1, h => by
    unfold cL
    rw [cL_full key n (fun q hq => h q (by omega)), if_pos (h n (by omega))]
theorem cL_zero (key : Nat → Nat) : ∀ n, cL key 0 n = 0
  | 0 => rfl
  | n + 1 => by unfold cL; rw [cL_zero key n, if_neg (by omega)]
theorem cL_le (key : Nat → Nat) (t : Nat) : ∀ n, cL key t n ≤ n
  | 0 => Nat.le_refl _
  | n + 1 => by have := cL_le key t n; unfold cL; split <;> omega
theorem cL_succ (key : Nat → Nat) (p : Nat) : ∀ n, (∀ q, q < n → key q = key p → q = p) → cL key (key p + 1) n = cL key (key p) n + (if p < n then 1 else 0)
  | 0, _ => rfl
  | n + 1, h => by
    have h1 := cL_succ key p n (fun q hq => h q (by omega))
    have h2 := h n (by omega)
    unfold cL
    rw [h1]
    by_cases c : n = p
    · subst c
      rw [if_neg (by omega), if_pos (by omega), if_neg (by omega), if_pos (by omega)]
    · have h3 : key n ≠ key p := fun e => c (h2 e)
      by_cases d : key n < key p
      · rw [if_pos (show key n < key p + 1 by omega), if_pos d]
        split <;> split <;> omega
      · rw [if_neg (show ¬ key n < key p + 1 by omega), if_neg d]
        split <;> split <;> omega
def keyW (Y : Nat → Nat) (p : Nat) : Nat := (100 - Y p) * 64 + p
theorem keyW_inj {Y : Nat → Nat} {a b : Nat} (ha : a < 40) (hb : b < 40) (e : keyW Y a = keyW Y b) : a = b := by
  unfold keyW at e; omega
def HB (Y : Nat → Nat) (t : Nat) (a1 a2 : Int32) : Prop := (t = 0 ∧ a1 = nI 101 ∧ a2 = -1) ∨ ∃ p, p < 40 ∧ t = keyW Y p + 1 ∧ a1 = nI (Y p) ∧ a2 = nI p
theorem nw_step {st : zS} (h : Inv st) {N : Nat} {Y : Nat → Nat} {want hd : Nat} (w1 : zR st 1 2 = some hd) (w2 : zTg st hd = 16) (w3 : zM st hd 0 = nI want) (hw : want ≤ 40) {t : Nat} {a1 a2 : Int32} (hb : HB Y t a1 a2) (yp : ∀ p, p < 40 → Y p ≤ 100) {i : Nat} (hi : i < want) (y1 : f_X2_signAt N st 1 (nI i) = some (nI (Y i))) (f : Nat) (x3 x4 : Int32) (hx : x4 = -1 ∨ ∃ z, z ≤ 100 ∧ x4 = nI z) : f_X11_nextWhere_8 N st 0 a1 a2 (f + 1) x3 x4 (nI i) = if t ≤ keyW Y i ∧ x4 < nI (Y i) then f_X11_nextWhere_8 N st 0 a1 a2 f (nI i) (nI (Y i)) (nI (i + 1)) else f_X11_nextWhere_8 N st 0 a1 a2 f x3 x4 (nI (i + 1)) := by
  have hs := h.1
  have hyi := yp i (by omega)
  have fin : ∀ c : Nat, (c = 0 ∨ c = 1) → ((c = 1) ↔ t ≤ keyW Y i) → f_X11_nextWhere_57 N st 0 a1 a2 (f_X11_nextWhere_8 N st 0 a1 a2 f) x3 x4 (nI i) (nI (Y i)) (nI c) = if t ≤ keyW Y i ∧ x4 < nI (Y i) then f_X11_nextWhere_8 N st 0 a1 a2 f (nI i) (nI (Y i)) (nI (i + 1)) else f_X11_nextWhere_8 N st 0 a1 a2 f x3 x4 (nI (i + 1)) := by
    intro c hc hcc
    unfold f_X11_nextWhere_57 f_X11_nextWhere_78
    rcases hc with rfl | rfl
    · rw [if_pos (by decide), if_neg (fun q => by have := hcc.mpr q.1; omega), nI_add]
    · have ht := hcc.mp rfl
      rw [if_neg (by decide)]
      rcases hx with rfl | ⟨z, hz, rfl⟩
      · have e1 : (nI (Y i) ≤ (-1 : Int32)) = False := m_le (by decide) (by omega)
        have e2 : ((-1 : Int32) < nI (Y i)) = True := m_gt (by decide) (by omega)
        rw [if_neg (by rw [e1]; exact id), if_pos ⟨ht, by rw [e2]; trivial⟩, nI_add]
      · by_cases hzz : Y i ≤ z
        · rw [if_pos (by rw [n_le (by omega) (by omega)]; exact hzz), if_neg (fun q => by have := q.2; rw [n_lt (by omega) (by omega)] at this; omega), nI_add]
        · rw [if_neg (by rw [n_le (by omega) (by omega)]; exact hzz), if_pos ⟨ht, by rw [n_lt (by omega) (by omega)]; omega⟩, nI_add]
  rw [f_X11_nextWhere_8]
  unfold f_X11_nextWhere_52 f_X11_nextWhere_56
  rcases hb with ⟨rfl, rfl, rfl⟩ | ⟨p, hp, rfl, rfl, rfl⟩
  · have := fin 1 (Or.inr rfl) ⟨fun _ => Nat.zero_le _, fun _ => rfl⟩
    rw [← this]
    clear fin yp this
    simp (disch := omega) only [↓bs w1, w2, w3, ↓bs y1, ↓reduceIte, List.mem_singleton, Option.bind_some, if_true, if_false, zM_PM, zLn_PM, zTg_PM, zR_PM, ↓zb, ↓zo, ↓zl, n_lt0, n_le, n_lt, n_eq, n_eq0, n_gt0, n_le0, n_ge0, n_zin, n_nat, nI_add, and_self, true_or, false_or, or_false, if_pos, if_neg, f_in_nI, Nat.reduceAdd, t0 hs, ↓bs (r0_0 hs), t1 hs]
  · have hyp := yp p hp
    by_cases c1 : Y i < Y p
    · have := fin 1 (Or.inr rfl) ⟨fun _ => by unfold keyW; omega, fun _ => rfl⟩
      rw [← this]
      clear fin yp this
      simp (disch := omega) only [↓bs w1, w2, w3, ↓bs y1, c1, ↓reduceIte, List.mem_singleton, Option.bind_some, if_true, if_false, zM_PM, zLn_PM, zTg_PM, zR_PM, ↓zb, ↓zo, ↓zl, n_lt0, n_le, n_lt, n_eq, n_eq0, n_gt0, n_le0, n_ge0, n_zin, n_nat, nI_add, and_self, true_or, false_or, or_false, if_pos, if_neg, f_in_nI, Nat.reduceAdd, t0 hs, ↓bs (r0_0 hs), t1 hs]
    · by_cases c2 : Y i = Y p
      · by_cases c3 : i ≤ p
        · have := fin 0 (Or.inl rfl) ⟨fun q => by omega, fun q => by unfold keyW at q; omega⟩
          rw [← this]
          clear fin yp this
          simp (disch := omega) only [↓bs w1, w2, w3, ↓bs y1, c1, c2, c3, Nat.lt_irrefl, ↓reduceIte, List.mem_singleton, Option.bind_some, if_true, if_false, zM_PM, zLn_PM, zTg_PM, zR_PM, ↓zb, ↓zo, ↓zl, n_lt0, n_le, n_lt, n_eq, n_eq0, n_gt0, n_le0, n_ge0, n_zin, n_nat, nI_add, and_self, true_or, false_or, or_false, if_pos, if_neg, f_in_nI, Nat.reduceAdd, t0 hs, ↓bs (r0_0 hs), t1 hs]
        · have := fin 1 (Or.inr rfl) ⟨fun _ => by unfold keyW; omega, fun _ => rfl⟩
          rw [← this]
          clear fin yp this
          simp (disch := omega) only [↓bs w1, w2, w3, ↓bs y1, c1, c2, c3, Nat.lt_irrefl, ↓reduceIte, List.mem_singleton, Option.bind_some, if_true, if_false, zM_PM, zLn_PM, zTg_PM, zR_PM, ↓zb, ↓zo, ↓zl, n_lt0, n_le, n_lt, n_eq, n_eq0, n_gt0, n_le0, n_ge0, n_zin, n_nat, nI_add, and_self, true_or, false_or, or_false, if_pos, if_neg, f_in_nI, Nat.reduceAdd, t0 hs, ↓bs (r0_0 hs), t1 hs]
      · have := fin 0 (Or.inl rfl) ⟨fun q => by omega, fun q => by unfold keyW at q; omega⟩
        rw [← this]
        clear fin yp this
        simp (disch := omega) only [↓bs w1, w2, w3, ↓bs y1, c1, c2, ↓reduceIte, List.mem_singleton, Option.bind_some, if_true, if_false, zM_PM, zLn_PM, zTg_PM, zR_PM, ↓zb, ↓zo, ↓zl, n_lt0, n_le, n_lt, n_eq, n_eq0, n_gt0, n_le0, n_ge0, n_zin, n_nat, nI_add, and_self, true_or, false_or, or_false, if_pos, if_neg, f_in_nI, Nat.reduceAdd, t0 hs, ↓bs (r0_0 hs), t1 hs]
theorem nw_loop {st : zS} (h : Inv st) {N : Nat} {Y : Nat → Nat} {want hd : Nat} (w1 : zR st 1 2 = some hd) (w2 : zTg st hd = 16) (w3 : zM st hd 0 = nI want) (hw : want ≤ 40) {t : Nat} {a1 a2 : Int32} (hb : HB Y t a1 a2) (yp : ∀ p, p < 40 → Y p ≤ 100) (yx : ∀ p, p < 40 → f_X2_signAt N st 1 (nI p) = some (nI (Y p))) : ∀ kk f i x3 x4, i + kk = want → kk < f → ((x3 = -1 ∧ x4 = -1 ∧ ∀ j, j < i → keyW Y j < t) ∨ ∃ b, b < i ∧ x3 = nI b ∧ x4 = nI (Y b) ∧ t ≤ keyW Y b ∧ ∀ j, j < i → t ≤ keyW Y j → keyW Y b ≤ keyW Y j) → (∃ b, b < want ∧ t ≤ keyW Y b ∧ (∀ j, j < want → t ≤ keyW Y j → keyW Y b ≤ keyW Y j) ∧ f_X11_nextWhere_8 N st 0 a1 a2 f x3 x4 (nI i) = some (nI b)) ∨ (∀ j, j < want → keyW Y j < t) := by
  intro kk
  have hs := h.1
  induction kk with
  | zero =>
    intro f i x3 x4 h1 h2 hx
    obtain ⟨f, rfl⟩ : ∃ m, f = m + 1 := ⟨f - 1, by omega⟩
    have hi : i = want := by omega
    subst hi
    rcases hx with ⟨-, -, q⟩ | ⟨b, b1, rfl, rfl, b2, b3⟩
    · exact Or.inr q
    · refine Or.inl ⟨b, b1, b2, b3, ?_⟩
      clear b3 yp yx hb
      rw [f_X11_nextWhere_8]
      simp (disch := omega) only [↓bs w1, w2, w3, ↓reduceIte, List.mem_singleton, Option.bind_some, if_true, if_false, zM_PM, zLn_PM, zTg_PM, zR_PM, ↓zb, ↓zo, ↓zl, n_lt0, n_le, n_lt, n_eq, n_eq0, n_gt0, n_le0, n_ge0, n_zin, n_nat, nI_add, and_self, true_or, false_or, or_false, if_pos, if_neg, f_in_nI, Nat.reduceAdd, t0 hs, ↓bs (r0_0 hs), t1 hs]
  | succ kk ih =>
    intro f i x3 x4 h1 h2 hx
    obtain ⟨f, rfl⟩ : ∃ m, f = m + 1 := ⟨f - 1, by omega⟩
    have hx4 : x4 = -1 ∨ ∃ z, z ≤ 100 ∧ x4 = nI z := by
      rcases hx with ⟨-, q, -⟩ | ⟨b, b1, -, q, -⟩
      · exact Or.inl q
      · exact Or.inr ⟨Y b, yp b (by omega), q⟩
    have hyi := yp i (by omega)
    rw [nw_step h w1 w2 w3 hw hb yp (show i < want by omega) (yx i (by omega)) f x3 x4 hx4]
    by_cases c : t ≤ keyW Y i ∧ x4 < nI (Y i)
    · rw [if_pos c]
      refine ih f (i + 1) (nI i) (nI (Y i)) (by omega) (by omega) (Or.inr ⟨i, by omega, rfl, rfl, c.1, fun j hj hk => ?_⟩)
      by_cases e : j = i
      · rw [e]; exact Nat.le_refl _
      · rcases hx with ⟨-, -, q⟩ | ⟨b, b1, -, rfl, b2, b3⟩
        · have := q j (by omega); omega
        · have h5 := b3 j (by omega) hk
          have h6 := c.2
          have hyb := yp b (by omega)
          rw [n_lt (by omega) (by omega)] at h6
          have h7 : keyW Y i < keyW Y b := by unfold keyW; omega
          omega
    · rw [if_neg c]
      refine ih f (i + 1) x3 x4 (by omega) (by omega) ?_
      rcases hx with ⟨rfl, rfl, q⟩ | ⟨b, b1, rfl, rfl, b2, b3⟩
      · refine Or.inl ⟨rfl, rfl, fun j hj => ?_⟩
        by_cases e : j = i
        · subst e
          have e2 : ((-1 : Int32) < nI (Y j)) = True := m_gt (by decide) (by omega)
          rw [e2, and_true] at c
          omega
        · exact q j (by omega)
      · refine Or.inr ⟨b, by omega, rfl, rfl, b2, fun j hj hk => ?_⟩
        by_cases e : j = i
        · subst e
          have hyb := yp b (by omega)
          have h6 : ¬ nI (Y b) < nI (Y j) := fun q => c ⟨hk, q⟩
          rw [n_lt (by omega) (by omega)] at h6
          unfold keyW; omega
        · exact b3 j (by omega) hk
theorem x_where {st : zS} (h : Inv st) {N : Nat} (hN : 3000 ≤ N) {Y : Nat → Nat} {want hd : Nat} (w1 : zR st 1 2 = some hd) (w2 : zTg st hd = 16) (w3 : zM st hd 0 = nI want) (hw : want ≤ 40) (yp : ∀ p, p < 40 → Y p ≤ 100) (yx : ∀ p, p < 40 → f_X2_signAt N st 1 (nI p) = some (nI (Y p))) {k : Nat} (hk : k < want) : ∀ kk f j t x2 x3, j + kk = k + 1 → kk < f → HB Y t x2 x3 → cL (keyW Y) t want = j → (j = 0 ∨ ∃ b, b < want ∧ x3 = nI b ∧ cL (keyW Y) (keyW Y b) want + 1 = j) → ∃ b, b < want ∧ cL (keyW Y) (keyW Y b) want = k ∧ f_X11_where_42 N st 0 (nI k) f x2 x3 (nI j) = some (nI b) := by
  intro kk
  have hs := h.1
  induction kk with
  | zero =>
    intro f j t x2 x3 h1 h2 hb hc hx
    obtain ⟨f, rfl⟩ : ∃ m, f = m + 1 := ⟨f - 1, by omega⟩
    rcases hx with q | ⟨b, b1, rfl, b3⟩
    · omega
    · refine ⟨b, b1, by omega, ?_⟩
      rw [f_X11_where_42, if_pos (by rw [n_lt (by omega) (by omega)]; omega)]
  | succ kk ih =>
    intro f j t x2 x3 h1 h2 hb hc hx
    obtain ⟨f, rfl⟩ : ∃ m, f = m + 1 := ⟨f - 1, by omega⟩
    have nl := nw_loop h w1 w2 w3 hw hb yp yx want N 0 (-1) (-1) (by omega) (by omega) (Or.inl ⟨rfl, rfl, fun j hj => by omega⟩)
    rcases nl with ⟨b, b1, b2, b3, b4⟩ | q
    · have e1 : cL (keyW Y) (keyW Y b) want = j := by
        rw [← hc]
        exact cL_congr _ want (fun q hq => ⟨fun u => by
          by_cases v : t ≤ keyW Y q
          · have := b3 q hq v; omega
          · omega, fun u => by omega⟩)
      have e2 := cL_succ (keyW Y) b want (fun q hq e => keyW_inj (by omega) (by omega) e)
      rw [if_pos b1, e1] at e2
      have e3 : f_X11_nextWhere N st 0 x2 x3 = some (nI b) := b4
      have e4 := yx b (by omega)
      obtain ⟨c, c1, c2, c3⟩ := ih f (j + 1) (keyW Y b + 1) (nI (Y b)) (nI b) (by omega) (by omega) (Or.inr ⟨b, by omega, rfl, rfl, rfl⟩) e2 (Or.inr ⟨b, b1, rfl, by omega⟩)
      refine ⟨c, c1, c2, ?_⟩
      clear ih yp yx b3 hb
      rw [f_X11_where_42]
      simp (disch := omega) only [↓bs e3, ↓bs e4, ↓reduceIte, List.mem_singleton, Option.bind_some, if_true, if_false, zM_PM, zLn_PM, zTg_PM, zR_PM, ↓zb, ↓zo, ↓zl, n_lt0, n_le, n_lt, n_eq, n_eq0, n_gt0, n_le0, n_ge0, n_zin, n_nat, nI_add, and_self, true_or, false_or, or_false, if_pos, if_neg, f_in_nI, Nat.reduceAdd, t0 hs, ↓bs (r0_0 hs), t1 hs]
      exact c3
    · have := cL_full (keyW Y) want q
      omega
theorem m_rank {sM : zS} (hsM : Sh sM) {N : Nat} {Y : Nat → Nat} {want : Nat} (hw : want ≤ 40) (yp : ∀ p, p < 40 → Y p ≤ 100) (y45 : ∀ q, q < want → zM sM 45 q = nI (Y q)) {k place : Nat} (hk : k < want) (hpl : place < want) (k52 : zS → Int32 → Int32 → Option (zS × Int32)) : ∀ kk f i, i + kk = want → kk < f → f_X12_where_63 N 39 (nI k) k52 f sM (nI want) (nI place) (nI (cL (keyW Y) (keyW Y place) i)) (nI i) = if cL (keyW Y) (keyW Y place) want = k then some (sM, nI place) else k52 sM (nI want) (nI (place + 1)) := by
  intro kk
  induction kk with
  | zero =>
    intro f i h1 h2
    obtain ⟨f, rfl⟩ : ∃ m, f = m + 1 := ⟨f - 1, by omega⟩
    have hi : i = want := by omega
    subst hi
    have hc := cL_le (keyW Y) (keyW Y place) i
    clear yp y45
    rw [f_X12_where_63]
    by_cases e : cL (keyW Y) (keyW Y place) i = k <;>
      simp (disch := omega) only [e, ↓reduceIte, List.mem_singleton, Option.bind_some, if_true, if_false, zM_PM, zLn_PM, zTg_PM, zR_PM, ↓zb, ↓zo, ↓zl, n_lt0, n_le, n_lt, n_eq, n_eq0, n_gt0, n_le0, n_ge0, n_zin, n_nat, nI_add, and_self, true_or, false_or, or_false, if_pos, if_neg, f_in_nI, Nat.reduceAdd]
  | succ kk ih =>
    intro f i h1 h2
    obtain ⟨f, rfl⟩ : ∃ m, f = m + 1 := ⟨f - 1, by omega⟩
    have e2 := ih f (i + 1) (by omega) (by omega)
    have v1 := y45 i (by omega)
    have v2 := y45 place hpl
    have p1 := yp i (by omega)
    have p2 := yp place (by omega)
    rw [← e2]
    have e3 : cL (keyW Y) (keyW Y place) (i + 1) = cL (keyW Y) (keyW Y place) i + (if keyW Y i < keyW Y place then 1 else 0) := rfl
    rw [e3]
    clear ih yp y45 e2 e3
    rw [f_X12_where_63]
    unfold f_X12_where_109 f_X12_where_113 f_X12_where_114
    by_cases c1 : Y place < Y i
    · rw [if_pos (show keyW Y i < keyW Y place by unfold keyW; omega)]
      simp (disch := omega) only [v1, v2, c1, ↓zl, ↓reduceIte, List.mem_singleton, Option.bind_some, if_true, if_false, zM_PM, zLn_PM, zTg_PM, zR_PM, ↓zb, ↓zo, ↓zl, n_lt0, n_le, n_lt, n_eq, n_eq0, n_gt0, n_le0, n_ge0, n_zin, n_nat, nI_add, and_self, true_or, false_or, or_false, if_pos, if_neg, f_in_nI, Nat.reduceAdd, t39 hsM, ↓bs (r39_17 hsM), t45 hsM, l45 hsM]
    · by_cases c2 : Y i = Y place
      · by_cases c3 : place ≤ i
        · rw [if_neg (show ¬ keyW Y i < keyW Y place by unfold keyW; omega)]
          simp (disch := omega) only [v1, v2, c2, c3, Nat.lt_irrefl, ↓zl, ↓reduceIte, List.mem_singleton, Option.bind_some, if_true, if_false, zM_PM, zLn_PM, zTg_PM, zR_PM, ↓zb, ↓zo, ↓zl, n_lt0, n_le, n_lt, n_eq, n_eq0, n_gt0, n_le0, n_ge0, n_zin, n_nat, nI_add, and_self, true_or, false_or, or_false, if_pos, if_neg, f_in_nI, Nat.reduceAdd, t39 hsM, ↓bs (r39_17 hsM), t45 hsM, l45 hsM]
        · rw [if_pos (show keyW Y i < keyW Y place by unfold keyW; omega)]
          simp (disch := omega) only [v1, v2, c2, c3, Nat.lt_irrefl, ↓zl, ↓reduceIte, List.mem_singleton, Option.bind_some, if_true, if_false, zM_PM, zLn_PM, zTg_PM, zR_PM, ↓zb, ↓zo, ↓zl, n_lt0, n_le, n_lt, n_eq, n_eq0, n_gt0, n_le0, n_ge0, n_zin, n_nat, nI_add, and_self, true_or, false_or, or_false, if_pos, if_neg, f_in_nI, Nat.reduceAdd, t39 hsM, ↓bs (r39_17 hsM), t45 hsM, l45 hsM]
      · rw [if_neg (show ¬ keyW Y i < keyW Y place by unfold keyW; omega)]
        simp (disch := omega) only [v1, v2, c1, c2, ↓zl, ↓reduceIte, List.mem_singleton, Option.bind_some, if_true, if_false, zM_PM, zLn_PM, zTg_PM, zR_PM, ↓zb, ↓zo, ↓zl, n_lt0, n_le, n_lt, n_eq, n_eq0, n_gt0, n_le0, n_ge0, n_zin, n_nat, nI_add, and_self, true_or, false_or, or_false, if_pos, if_neg, f_in_nI, Nat.reduceAdd, t39 hsM, ↓bs (r39_17 hsM), t45 hsM, l45 hsM]
theorem m_find {sM : zS} (hsM : Sh sM) {N : Nat} (hN : 3000 ≤ N) {Y : Nat → Nat} {want : Nat} (hw : want ≤ 40) (yp : ∀ p, p < 40 → Y p ≤ 100) (y45 : ∀ q, q < want → zM sM 45 q = nI (Y q)) {k b : Nat} (hk : k < want) (hb : b < want) (hr : cL (keyW Y) (keyW Y b) want = k) : ∀ kk f place, place + kk = b → kk < f → f_X12_where_52 N 39 (nI k) f sM (nI want) (nI place) = some (sM, nI b) := by
  intro kk
  induction kk with
  | zero =>
    intro f place h1 h2
    obtain ⟨f, rfl⟩ : ∃ m, f = m + 1 := ⟨f - 1, by omega⟩
    have hi : place = b := by omega
    subst hi
    have := m_rank hsM (N := N) hw yp y45 hk hb (f_X12_where_52 N 39 (nI k) f) want N 0 (by omega) (by omega)
    rw [if_pos hr] at this
    rw [f_X12_where_52, if_neg (by rw [n_le (by omega) (by omega)]; omega)]
    exact this
  | succ kk ih =>
    intro f place h1 h2
    obtain ⟨f, rfl⟩ : ∃ m, f = m + 1 := ⟨f - 1, by omega⟩
    have e2 := ih f (place + 1) (by omega) (by omega)
    have := m_rank hsM (N := N) hw yp y45 hk (show place < want by omega) (f_X12_where_52 N 39 (nI k) f) want N 0 (by omega) (by omega)
    have hne : cL (keyW Y) (keyW Y place) want ≠ k := fun e => by
      have s1 := cL_succ (keyW Y) place want (fun q hq e => keyW_inj (by omega) (by omega) e)
      have s2 := cL_succ (keyW Y) b want (fun q hq e => keyW_inj (by omega) (by omega) e)
      rw [if_pos (by omega)] at s1 s2
      rcases Nat.lt_trichotomy (keyW Y place) (keyW Y b) with q | q | q
      · have := cL_mono (keyW Y) (show keyW Y place + 1 ≤ keyW Y b by omega) want; omega
      · have := keyW_inj (Y := Y) (a := place) (b := b) (by omega) (by omega) q; omega
      · have := cL_mono (keyW Y) (show keyW Y b + 1 ≤ keyW Y place by omega) want; omega
    rw [if_neg hne, e2] at this
    rw [f_X12_where_52, if_neg (by rw [n_le (by omega) (by omega)]; omega)]
    exact this
theorem m_signs {st : zS} (h : Inv st) {N : Nat} (hN : 3000 ≤ N) {Y : Nat → Nat} {want : Nat} (hw : want ≤ 40) (yp : ∀ p, p < 40 → Y p ≤ 100) (yx : ∀ p, p < 40 → f_X2_signAt N st 1 (nI p) = some (nI (Y p))) (a1 : Int32) : ∀ kk f i sM, i + kk = want → kk < f → MS st sM → (∀ q, q < i → zM sM 45 q = nI (Y q)) → ∃ sN, f_X12_where_28 N 39 a1 f sM (nI want) (nI i) = f_X12_where_52 N 39 a1 N sN (nI want) (nI 0) ∧ MS st sN ∧ ∀ q, q < want → zM sN 45 q = nI (Y q) := by
  intro kk
  induction kk with
  | zero =>
    intro f i sM h1 h2 hm hq
    obtain ⟨f, rfl⟩ : ∃ m, f = m + 1 := ⟨f - 1, by omega⟩
    have hi : i = want := by omega
    subst hi
    exact ⟨sM, by rw [f_X12_where_28, if_pos (by rw [n_le (by omega) (by omega)]; omega)], hm, hq⟩
  | succ kk ih =>
    intro f i sM h1 h2 hm hq
    obtain ⟨f, rfl⟩ : ∃ m, f = m + 1 := ⟨f - 1, by omega⟩
    have hsM := hm.sh h.1
    obtain ⟨y, s1, y1, y2, y3, y4, y5⟩ := sign_now h hN hm (show i < 40 by omega)
    have hy : y = Y i := by
      have e := Option.some.inj (y2.symm.trans (yx i (by omega)))
      have := yp i (by omega)
      rwa [n_eq (by omega) (by omega)] at e
    subst hy
    have hs1 := y4.sh h.1
    obtain ⟨sN, v1, v2, v3⟩ := ih f (i + 1) (zPM s1 45 i (nI (Y i))) (by omega) (by omega) (y4.pm _ _ _ (by omega)) (fun q hqi => by
      rw [zM_PM]
      by_cases c : q = i
      · rw [if_pos ⟨rfl, c⟩, c]
      · rw [if_neg (by omega), y5.2.2.2 _ _ (by omega) (by omega)]; exact hq q (by omega))
    refine ⟨sN, ?_, v2, v3⟩
    rw [← v1]
    clear ih yp yx hq v3
    rw [f_X12_where_28]
    simp (disch := omega) only [y3, ↓reduceIte, List.mem_singleton, Option.bind_some, if_true, if_false, zM_PM, zLn_PM, zTg_PM, zR_PM, ↓zb, ↓zo, ↓zl, n_lt0, n_le, n_lt, n_eq, n_eq0, n_gt0, n_le0, n_ge0, n_zin, n_nat, nI_add, and_self, true_or, false_or, or_false, if_pos, if_neg, f_in_nI, Nat.reduceAdd, t39 hsM, ↓bs (r39_17 hsM), t45 hs1, l45 hs1]
theorem s_where {st : zS} (h : Inv st) {N : Nat} (hN : 3000 ≤ N) (a1 : Int32) : ∃ (r : Int32) (st1 st2 : zS), (f_X11_where N st 0 a1 = some r ∧ st1 = st) ∧ (f_X12_where N st1 39 a1 = some (st2, r)) ∧ Sh st1 ∧ Inv st2 := by
  have hs := h.1
  suffices q : ∃ (r : Int32) (st2 : zS), f_X11_where N st 0 a1 = some r ∧ f_X12_where N st 39 a1 = some (st2, r) ∧ MS st st2 by
    obtain ⟨r, st2, q1, q2, q3⟩ := q
    exact ⟨r, st, st2, ⟨q1, rfl⟩, q2, h.1, q3.inv h⟩
  obtain ⟨hd, want, look, cnt, w1, w2, w3, w4, w5, w6, w7, w8, w9, w10, w11, w12, w13, w14⟩ := want_eq h
  have hin := f_in_pre (n := look) (by omega) a1
  rcases i_neg a1 with z | ⟨k, hk, rfl⟩
  · rw [if_pos (Or.inl z)] at hin
    refine ⟨-1, st, ?_, ?_, MS.rf⟩
    · unfold f_X11_where
      rw [if_pos z]
    · unfold f_X12_where
      simp (disch := omega) only [↓bs w11, ↓bs w12, ↓bs hin, ↓reduceIte, List.mem_singleton, Option.bind_some, if_true, if_false, zM_PM, zLn_PM, zTg_PM, zR_PM, ↓zb, ↓zo, ↓zl, n_lt0, n_le, n_lt, n_eq, n_eq0, n_gt0, n_le0, n_ge0, n_zin, n_nat, nI_add, and_self, true_or, false_or, or_false, if_pos, if_neg, f_in_nI, Nat.reduceAdd, t39 hs]
  · by_cases hkl : k < look
    · rw [if_neg (by rw [n_lt0 (by omega), n_le (by omega) (by omega), false_or]; omega)] at hin
      by_cases hkw : k < want
      · have key : ∀ p, ∃ y : Nat, p < 40 → y ≤ 100 ∧ f_X2_signAt N st 1 (nI p) = some (nI y) := fun p => by
          by_cases hp : p < 40
          · obtain ⟨y, sM, y1, y2, -⟩ := sign_now h hN MS.rf hp
            exact ⟨y, fun _ => ⟨y1, y2⟩⟩
          · exact ⟨0, fun q => absurd q hp⟩
        obtain ⟨Y, hY⟩ := Classical.skolem.mp key
        have yp := fun p hp => (hY p hp).1
        have yx := fun p hp => (hY p hp).2
        obtain ⟨b, b1, b2, b3⟩ := x_where h hN w1 w2 w3 w7 yp yx hkw (k + 1) N 0 0 (nI 101) (-1) (by omega) (by omega) (Or.inl ⟨rfl, rfl, rfl⟩) (cL_zero _ _) (Or.inl rfl)
        obtain ⟨sN, n1, n2, n3⟩ := m_signs h hN w7 yp yx (nI k) want N 0 st (by omega) (by omega) MS.rf (fun q hq => by omega)
        have m1 := m_find (n2.sh hs) hN w7 yp n3 hkw b1 b2 b N 0 (by omega) (by omega)
        rw [m1] at n1
        clear key hY yp yx n3
        refine ⟨nI b, sN, ?_, ?_, n2⟩
        · unfold f_X11_where
          simp (disch := omega) only [↓bs w1, w2, w3, w4, ↓reduceIte, List.mem_singleton, Option.bind_some, if_true, if_false, zM_PM, zLn_PM, zTg_PM, zR_PM, ↓zb, ↓zo, ↓zl, n_lt0, n_le, n_lt, n_eq, n_eq0, n_gt0, n_le0, n_ge0, n_zin, n_nat, nI_add, and_self, true_or, false_or, or_false, if_pos, if_neg, f_in_nI, Nat.reduceAdd, t0 hs, ↓bs (r0_0 hs), t1 hs]
          exact b3
        · unfold f_X12_where
          simp (disch := omega) only [↓bs w11, ↓bs w12, ↓bs hin, ↓reduceIte, List.mem_singleton, Option.bind_some, if_true, if_false, zM_PM, zLn_PM, zTg_PM, zR_PM, ↓zb, ↓zo, ↓zl, n_lt0, n_le, n_lt, n_eq, n_eq0, n_gt0, n_le0, n_ge0, n_zin, n_nat, nI_add, and_self, true_or, false_or, or_false, if_pos, if_neg, f_in_nI, Nat.reduceAdd, t39 hs]
          exact n1
      · refine ⟨-1, st, ?_, ?_, MS.rf⟩
        · unfold f_X11_where
          simp (disch := omega) only [↓bs w1, w2, w3, w4, ↓reduceIte, List.mem_singleton, Option.bind_some, if_true, if_false, zM_PM, zLn_PM, zTg_PM, zR_PM, ↓zb, ↓zo, ↓zl, n_lt0, n_le, n_lt, n_eq, n_eq0, n_gt0, n_le0, n_ge0, n_zin, n_nat, nI_add, and_self, true_or, false_or, or_false, if_pos, if_neg, f_in_nI, Nat.reduceAdd, t0 hs, ↓bs (r0_0 hs), t1 hs]
        · unfold f_X12_where
          simp (disch := omega) only [↓bs w11, ↓bs w12, ↓bs hin, ↓reduceIte, List.mem_singleton, Option.bind_some, if_true, if_false, zM_PM, zLn_PM, zTg_PM, zR_PM, ↓zb, ↓zo, ↓zl, n_lt0, n_le, n_lt, n_eq, n_eq0, n_gt0, n_le0, n_ge0, n_zin, n_nat, nI_add, and_self, true_or, false_or, or_false, if_pos, if_neg, f_in_nI, Nat.reduceAdd, t39 hs]
    · rw [if_pos (Or.inr (by rw [n_le (by omega) (by omega)]; omega))] at hin
      refine ⟨-1, st, ?_, ?_, MS.rf⟩
      · unfold f_X11_where
        simp (disch := omega) only [↓bs w1, w2, w3, w4, ↓reduceIte, List.mem_singleton, Option.bind_some, if_true, if_false, zM_PM, zLn_PM, zTg_PM, zR_PM, ↓zb, ↓zo, ↓zl, n_lt0, n_le, n_lt, n_eq, n_eq0, n_gt0, n_le0, n_ge0, n_zin, n_nat, nI_add, and_self, true_or, false_or, or_false, if_pos, if_neg, f_in_nI, Nat.reduceAdd, t0 hs, ↓bs (r0_0 hs), t1 hs]
      · unfold f_X12_where
        simp (disch := omega) only [↓bs w11, ↓bs w12, ↓bs hin, ↓reduceIte, List.mem_singleton, Option.bind_some, if_true, if_false, zM_PM, zLn_PM, zTg_PM, zR_PM, ↓zb, ↓zo, ↓zl, n_lt0, n_le, n_lt, n_eq, n_eq0, n_gt0, n_le0, n_ge0, n_zin, n_nat, nI_add, and_self, true_or, false_or, or_false, if_pos, if_neg, f_in_nI, Nat.reduceAdd, t39 hs]
