/-! left: the count -/
def sumU (f : Nat → Nat) : Nat → Nat
  | 0 => 0
  | n + 1 => sumU f n + f n
theorem sumU_congr {f f' : Nat → Nat} : ∀ n, (∀ i, i < n → f i = f' i) → sumU f n = sumU f' n
  | 0, _ => rfl
  | n + 1, h => by unfold sumU; rw [sumU_congr n (fun i hi => h i (by omega)), h n (by omega)]
theorem sumU_one {f f' : Nat → Nat} {c d : Nat} (h1 : ∀ i, i ≠ c → f i = f' i) (h2 : f c = f' c + d) : ∀ n, sumU f n = sumU f' n + (if c < n then d else 0)
  | 0 => by rw [if_neg (by omega)]; rfl
  | n + 1 => by
    have ih := sumU_one h1 h2 n
    unfold sumU
    rw [ih]
    by_cases hc : c = n
    · rw [← hc, h2, if_neg (by omega), if_pos (by omega)]; omega
    · rw [h1 n (fun q => hc q.symm)]
      by_cases hl : c < n
      · rw [if_pos hl, if_pos (by omega)]; omega
      · rw [if_neg hl, if_neg (by omega)]; omega
/-- what is left of m numbers: neither -1 nor a place -/
def lefU (g : Nat → Int32) (pl : Nat → Nat) (P i : Nat) : Nat := if g i = -1 then 0 else if hasU pl i P = 1 then 0 else 1
def outU (g : Nat → Int32) (pl : Nat → Nat) (m j : Nat) : Nat := if pl j < m then (if g (pl j) = -1 then 0 else 1) else 0
theorem lef_zero (g : Nat → Int32) (pl : Nat → Nat) : ∀ m, sumU (lefU g pl 0) m + cntU g (-1) m = m
  | 0 => rfl
  | m + 1 => by
    have ih := lef_zero g pl m
    have e0 : sumU (lefU g pl 0) (m + 1) = sumU (lefU g pl 0) m + (if g m = -1 then 0 else 1) := by
      show _ + (if g m = -1 then 0 else if hasU pl m 0 = 1 then 0 else 1) = _
      rw [if_neg (show ¬ hasU pl m 0 = 1 by unfold hasU; omega)]
    have e1 : cntU g (-1) (m + 1) = cntU g (-1) m + (if g m = -1 then 1 else 0) := rfl
    rw [e0, e1]
    by_cases e : g m = -1
    · rw [if_pos e, if_pos e]; omega
    · rw [if_neg e, if_neg e]; omega
theorem lef_eq (g : Nat → Int32) (pl : Nat → Nat) (m : Nat) : ∀ P, (∀ i j, i < P → j < P → pl i = pl j → i = j) → sumU (lefU g pl P) m + sumU (outU g pl m) P + cntU g (-1) m = m
  | 0, _ => lef_zero g pl m
  | P + 1, hd => by
    have ih := lef_eq g pl m P (fun i j hi hj => hd i j (by omega) (by omega))
    have hz : hasU pl (pl P) P = 0 := hasU_zero _ (fun j hj e => by have := hd j P (by omega) (by omega) e; omega)
    have h := sumU_one (f := lefU g pl P) (f' := lefU g pl (P + 1)) (c := pl P) (d := if g (pl P) = -1 then 0 else 1) (fun i hi => ?_) ?_ m
    · have e : sumU (outU g pl m) (P + 1) = sumU (outU g pl m) P + outU g pl m P := rfl
      rw [e]
      have e2 : outU g pl m P = (if pl P < m then (if g (pl P) = -1 then 0 else 1) else 0) := rfl
      rw [e2]
      omega
    · unfold lefU
      have e : hasU pl i (P + 1) = hasU pl i P := by
        rcases hasU_01 pl i P with q | q
        · show (if hasU pl i P = 1 then 1 else if pl P = i then 1 else 0) = _
          rw [if_neg (by omega), if_neg (fun q2 => hi q2.symm), q]
        · show (if hasU pl i P = 1 then 1 else if pl P = i then 1 else 0) = _
          rw [if_pos q, q]
      rw [e]
    · unfold lefU
      have e : hasU pl (pl P) (P + 1) = 1 := hasU_one _ P (by omega) rfl
      rw [e, hz]
      by_cases q : g (pl P) = -1
      · rw [if_pos q, if_pos q, if_pos q]
      · rw [if_neg q, if_neg q, if_neg q, if_neg (by omega), if_pos rfl]
