/-! what ties the class to the reference, between two calls -/
def K (st : zS) (B c : Nat) : Nat := (zM st B c).toNatClampNeg
def Cnt (st : zS) (B c cap : Nat) : Prop := zM st B c = nI (K st B c) ∧ K st B c ≤ cap
def NumR (st : zS) (o B c b cap : Nat) (P : Int32 → Prop) : Prop := Cnt st B c cap ∧ zM st o 1 = zM st B c ∧ ∀ i, i < K st B c → zM st (o + 1) i = zM st B (b + i) ∧ P (zM st B (b + i))
def Upto (n : Nat) (x : Int32) : Prop := ∃ j, j < n ∧ x = nI j
def tgK (k : Nat) : Nat := [14, 20, 10, 13, 19, 11, 17].getD k 0
def LineR (st : zS) (a w B : Nat) : Prop := ∃ k v sl : Nat, k ≤ 6 ∧ v ≤ 9 ∧ 1 ≤ sl ∧ sl ≤ 60 ∧ zTg st a = tgK k ∧ 47 ≤ a ∧ a < st.1 ∧ zM st a 0 = nI k ∧ zM st a 1 = nI w ∧ zM st a 2 = nI v ∧ zM st a 3 = nI sl ∧ zM st B (11 + w) = nI k ∧ zM st B (17 + w) = nI v ∧ zM st B (23 + w) = nI sl ∧ (∀ j, j < 4 → Upto 10 (zM st B (29 + 4 * w + j))) ∧ (k = 6 → ∃ r, zR st a 4 = some r ∧ 47 ≤ r ∧ r < st.1 ∧ zTg st r = 1 ∧ zLn st r = 4 ∧ ∀ j, j < 4 → zM st r j = zM st B (29 + 4 * w + j))
/-- the reference's step for a code of the class -/
def stp (q : Nat) : Int32 := if 3000 ≤ q then -nI (q - 2990) else if q = 2000 then -1 else if q = 2001 then -2 else if q = 2002 then -3 else nI (q / 300 + 8 * (q / 100 % 3) + 32 * (q % 100))
/-- how deep the stack is behind a code; none where it would fall short or grow too deep -/
def depC (d q : Nat) : Option Nat := if 3000 ≤ q then (if d = 1 ∧ q ≤ 3099 then some 0 else none) else if q = 2000 then (if 1 ≤ d then some d else none) else if q = 2001 ∨ q = 2002 then (if 2 ≤ d then some (d - 1) else none) else if q < 1800 ∧ d < 20 then some (d + 1) else none
def depN (f : Nat → Nat) : Nat → Option Nat
  | 0 => some 0
  | n + 1 => (depN f n).bind (fun d => depC d (f n))
def HoldR (st : zS) (h B : Nat) : Prop := ∃ want look cnt c sz : Nat, ∃ f : Nat → Nat, zTg st h = 16 ∧ zR st h 3 = some c ∧ zTg st c = 1 ∧ zLn st c = 100 ∧ (h = 3 ∨ h = 21 ∨ (47 ≤ h ∧ h < st.1)) ∧ (c = 4 ∨ c = 22 ∨ (47 ≤ c ∧ c < st.1)) ∧
  zM st h 0 = nI want ∧ zM st h 1 = nI look ∧ zM st h 2 = nI cnt ∧ zM st h 4 = nI sz ∧ 1 ≤ want ∧ want ≤ 40 ∧ 1 ≤ look ∧ look ≤ 5 ∧ cnt ≤ 99 ∧ sz ≤ 100 ∧ depN f sz = some 0 ∧ (∀ i, i < sz → zM st c i = nI (f i)) ∧
  ((zM st B 7 = -1 ∧ want = 20 ∧ look = 3 ∧ cnt = 0 ∧ sz = 0) ∨ ∃ act w l : Nat, act < K st B 1 ∧ zM st B 7 = nI act ∧ zM st B (228 + act) = nI w ∧ w ≤ 99 ∧ want = max 1 (min 40 w) ∧ zM st B (233 + act) = nI l ∧ l ≤ 99 ∧ look = max 1 (min 5 l) ∧ zM st B (238 + act) = nI cnt ∧ zM st B (243 + act) = nI sz ∧ ∀ i, i < sz → zM st B (248 + 140 * act + i) = stp (f i))
def WayE (st : zS) (B : Nat) (x : Int32) : Prop := x = -1 ∨ Upto (K st B 0) x
def DeskR (st : zS) (d B : Nat) : Prop :=
  (Cnt st B 0 6 ∧ zM st d 1 = zM st B 0) ∧ (Cnt st B 1 5 ∧ zM st d 3 = zM st B 1) ∧ zM st d 6 = zM st B 9 ∧ zM st d 7 = zM st B 10 ∧
  NumR st (d + 4) B 6 128 100 (Upto 128) ∧ NumR st (d + 6) B 8 53 40 (WayE st B) ∧ NumR st (d + 8) B 2 93 5 (Upto 40) ∧ NumR st (d + 10) B 3 98 6 (Upto (K st B 8)) ∧
  NumR st (d + 12) B 4 104 8 (Upto 41) ∧ NumR st (d + 14) B 5 112 8 (Upto 40) ∧ NumR st (d + 16) B 5 120 8 (WayE st B) ∧
  (∀ i j, i < K st B 2 → j < K st B 2 → zM st B (93 + i) = zM st B (93 + j) → i = j) ∧
  (∀ w, w < K st B 0 → ∃ a, zR st (d + 1) w = some a ∧ LineR st a w B) ∧ ∃ h, zR st d 2 = some h ∧ HoldR st h B
def Inv (st : zS) : Prop := Sh st ∧ DeskR st 1 40 ∧ zM st 0 2 = zM st 39 3 ∧ (zM st 39 3 = nI 0 ∨ zM st 39 3 = nI 1 ∧ DeskR st 19 41) ∧
  zM st 37 1 = zM st 39 20 ∧ (∃ n, n ≤ 1000 ∧ zM st 39 20 = nI n ∧ ∀ i, i < n → i < 20 → zM st 38 i = zM st 46 i)
/-- the reference's own scratch alone was written -/
def MS (st st' : zS) : Prop := st'.1 = st.1 ∧ st'.2.1 = st.2.1 ∧ st'.2.2.2 = st.2.2.2 ∧ (∀ k j, k < 39 ∨ k = 40 ∨ k = 41 ∨ 46 ≤ k → zM st' k j = zM st k j) ∧ zM st' 39 3 = zM st 39 3 ∧ zM st' 39 20 = zM st 39 20
theorem MS.rf {st : zS} : MS st st := ⟨rfl, rfl, rfl, fun _ _ _ => rfl, rfl, rfl⟩
theorem MS.tr {a b c : zS} (h : MS a b) (g : MS b c) : MS a c := ⟨g.1.trans h.1, g.2.1.trans h.2.1, g.2.2.1.trans h.2.2.1, fun k j q => (g.2.2.2.1 k j q).trans (h.2.2.2.1 k j q), g.2.2.2.2.1.trans h.2.2.2.2.1, g.2.2.2.2.2.trans h.2.2.2.2.2⟩
theorem MS.pm {a b : zS} (h : MS a b) (k j : Nat) (x : Int32) (hk : (42 ≤ k ∧ k < 46) ∨ (k = 39 ∧ j ≠ 3 ∧ j ≠ 20)) : MS a (zPM b k j x) := by
  refine h.tr ⟨rfl, rfl, rfl, fun k' j' q => ?_, ?_, ?_⟩
  · rw [zM_PM, if_neg (by omega)]
  · rw [zM_PM, if_neg (by omega)]
  · rw [zM_PM, if_neg (by omega)]
theorem MS.tg {st st' : zS} (h : MS st st') (k : Nat) : zTg st' k = zTg st k := by unfold zTg; rw [h.2.1]
theorem MS.ln {st st' : zS} (h : MS st st') (k : Nat) : zLn st' k = zLn st k := by unfold zLn; rw [h.2.1]
theorem MS.r {st st' : zS} (h : MS st st') (k j : Nat) : zR st' k j = zR st k j := by unfold zR; rw [h.2.2.1]
theorem MS.m {st st' : zS} (h : MS st st') {k j : Nat} (q : k < 39 ∨ k = 40 ∨ k = 41 ∨ 46 ≤ k) : zM st' k j = zM st k j := h.2.2.2.1 k j q
theorem MS.mB {st st' : zS} (h : MS st st') {B j : Nat} (q : B = 40 ∨ B = 41) : zM st' B j = zM st B j := h.m (by omega)
theorem MS.ma {st st' : zS} (h : MS st st') {a j : Nat} (q : 47 ≤ a) : zM st' a j = zM st a j := h.m (by omega)
theorem MS.mx {st st' : zS} (h : MS st st') {a j : Nat} (q : a = 3 ∨ a = 21 ∨ (47 ≤ a ∧ a < st.1)) : zM st' a j = zM st a j := h.m (by omega)
theorem MS.my {st st' : zS} (h : MS st st') {a j : Nat} (q : a = 4 ∨ a = 22 ∨ (47 ≤ a ∧ a < st.1)) : zM st' a j = zM st a j := h.m (by omega)
theorem MS.k {st st' : zS} (h : MS st st') {B c : Nat} (q : B = 40 ∨ B = 41) : K st' B c = K st B c := by unfold K; rw [h.m (by omega)]
theorem MS.sh {st st' : zS} (h : MS st st') (hs : Sh st) : Sh st' := ⟨by rw [h.1]; exact hs.1, fun k hk => by rw [h.2.1]; exact hs.2.1 k hk, fun q hq => by rw [h.r]; exact hs.2.2.1 q hq, fun k hk j hj a q => by rw [h.r] at q; rw [h.1, h.tg]; exact hs.2.2.2 k hk j hj a q⟩
theorem MS.num {st st' : zS} (h : MS st st') {o B c b cap : Nat} {P P' : Int32 → Prop} (hB : B = 40 ∨ B = 41) (ho : o + 1 < 39) (hP : ∀ x, P x → P' x) (g : NumR st o B c b cap P) : NumR st' o B c b cap P' := by
  obtain ⟨⟨g1, g2⟩, g3, g4⟩ := g
  refine ⟨⟨?_, ?_⟩, ?_, fun i hi => ?_⟩
  · rw [h.k hB, h.m (by omega)]; exact g1
  · rw [h.k hB]; exact g2
  · rw [h.m (by omega), h.m (by omega)]; exact g3
  · rw [h.k hB] at hi
    rw [h.m (by omega), h.m (by omega)]
    exact ⟨(g4 i hi).1, hP _ (g4 i hi).2⟩
theorem MS.desk {st st' : zS} (h : MS st st') {d B : Nat} (hd : d = 1 ∨ d = 19) (hB : B = 40 ∨ B = 41) (g : DeskR st d B) : DeskR st' d B := by
  obtain ⟨⟨⟨a1, a2⟩, a3⟩, ⟨⟨b1, b2⟩, b3⟩, c1, c2, n1, n2, n3, n4, n5, n6, n7, e1, e2, hh, e3, e4⟩ := g
  have hW : ∀ x, WayE st B x → WayE st' B x := fun x hx => by unfold WayE; rw [h.k hB]; exact hx
  have hU : ∀ x, Upto (K st B 8) x → Upto (K st' B 8) x := fun x hx => by rw [h.k hB]; exact hx
  refine ⟨⟨⟨?_, ?_⟩, ?_⟩, ⟨⟨?_, ?_⟩, ?_⟩, ?_, ?_, h.num hB (by omega) (fun _ q => q) n1, h.num hB (by omega) hW n2, h.num hB (by omega) (fun _ q => q) n3, h.num hB (by omega) hU n4, h.num hB (by omega) (fun _ q => q) n5, h.num hB (by omega) (fun _ q => q) n6, h.num hB (by omega) hW n7, fun i j => ?_, fun w hw => ?_, hh, ?_, ?_⟩
  · rw [h.k hB, h.m (by omega)]; exact a1
  · rw [h.k hB]; exact a2
  · rw [h.m (by omega), h.m (by omega)]; exact a3
  · rw [h.k hB, h.m (by omega)]; exact b1
  · rw [h.k hB]; exact b2
  · rw [h.m (by omega), h.m (by omega)]; exact b3
  · rw [h.m (by omega), h.m (by omega)]; exact c1
  · rw [h.m (by omega), h.m (by omega)]; exact c2
  · rw [h.k hB, h.m (by omega), h.m (by omega)]; exact e1 i j
  · rw [h.k hB] at hw
    obtain ⟨a, q1, k, v, sl, q2⟩ := e2 w hw
    refine ⟨a, by rw [h.r]; exact q1, k, v, sl, ?_⟩
    obtain ⟨p1, p2, p3, p4, p5, p6, p7, p8, p9, p10, p11, p12, p13, p14, p15, p16⟩ := q2
    refine ⟨p1, p2, p3, p4, by rw [h.tg]; exact p5, p6, by rw [h.1]; exact p7, by rw [h.ma p6]; exact p8, by rw [h.ma p6]; exact p9, by rw [h.ma p6]; exact p10, by rw [h.ma p6]; exact p11, by rw [h.mB hB]; exact p12, by rw [h.mB hB]; exact p13, by rw [h.mB hB]; exact p14, fun j hj => by rw [h.mB hB]; exact p15 j hj, fun hk => ?_⟩
    obtain ⟨r, r1, r2, r3, r4, r5, r6⟩ := p16 hk
    exact ⟨r, by rw [h.r]; exact r1, r2, by rw [h.1]; exact r3, by rw [h.tg]; exact r4, by rw [h.ln]; exact r5, fun j hj => by rw [h.ma r2, h.mB hB]; exact r6 j hj⟩
  · rw [h.r]; exact e3
  · obtain ⟨want, look, cnt, c, sz, f, p1, p2, p3, p4, p5, p6, p7, p8, p9, p10, p11, p12, p13, p14, p15, p16, p17, p18, p19⟩ := e4
    refine ⟨want, look, cnt, c, sz, f, by rw [h.tg]; exact p1, by rw [h.r]; exact p2, by rw [h.tg]; exact p3, by rw [h.ln]; exact p4, by rw [h.1]; exact p5, by rw [h.1]; exact p6, by rw [h.mx p5]; exact p7, by rw [h.mx p5]; exact p8, by rw [h.mx p5]; exact p9, by rw [h.mx p5]; exact p10, p11, p12, p13, p14, p15, p16, p17, fun i hi => by rw [h.my p6]; exact p18 i hi, ?_⟩
    rcases p19 with ⟨q1, q2⟩ | ⟨act, w, l, q0, q1, q2, q3, q4, q5, q6, q7, q8, q9, q10⟩
    · exact Or.inl ⟨by rw [h.mB hB]; exact q1, q2⟩
    · exact Or.inr ⟨act, w, l, by rw [h.k hB]; exact q0, by rw [h.mB hB]; exact q1, by rw [h.mB hB]; exact q2, q3, q4, by rw [h.mB hB]; exact q5, q6, q7, by rw [h.mB hB]; exact q8, by rw [h.mB hB]; exact q9, fun i hi => by rw [h.mB hB]; exact q10 i hi⟩
theorem MS.inv {st st' : zS} (h : MS st st') (g : Inv st) : Inv st' := by
  obtain ⟨g1, g2, g3, g4, g5, n, g6, g7, g8⟩ := g
  refine ⟨h.sh g1, h.desk (Or.inl rfl) (Or.inl rfl) g2, by rw [h.m (by omega), h.2.2.2.2.1]; exact g3, ?_, by rw [h.m (by omega), h.2.2.2.2.2]; exact g5, n, g6, by rw [h.2.2.2.2.2]; exact g7, fun i h1 h2 => by rw [h.m (by omega), h.m (by omega)]; exact g8 i h1 h2⟩
  rcases g4 with q | ⟨q1, q2⟩
  · exact Or.inl (by rw [h.2.2.2.2.1]; exact q)
  · exact Or.inr ⟨by rw [h.2.2.2.2.1]; exact q1, h.desk (Or.inr rfl) (Or.inr rfl) q2⟩
