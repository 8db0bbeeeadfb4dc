def Dyn (st : zS) (k : Nat) : Prop := k = 3 ∨ k = 4 ∨ k = 21 ∨ k = 22 ∨ (47 ≤ k ∧ k < st.1)
/-- what was made stays as it was, while more may come -/
def Kept (st st' : zS) : Prop := st.1 ≤ st'.1 ∧ ∀ k, Dyn st k → st'.2.1 k = st.2.1 k ∧ (∀ j, zR st' k j = zR st k j) ∧ ∀ j, zM st' k j = zM st k j
theorem Kept.tg {st st' : zS} (h : Kept st st') {k : Nat} (q : Dyn st k) : zTg st' k = zTg st k := by unfold zTg; rw [(h.2 k q).1]
theorem Kept.ln {st st' : zS} (h : Kept st st') {k : Nat} (q : Dyn st k) : zLn st' k = zLn st k := by unfold zLn; rw [(h.2 k q).1]
theorem LineR.cg {st st' : zS} {a w B B' : Nat} (h : Kept st st') (hB : ∀ j, (j = 11 + w ∨ j = 17 + w ∨ j = 23 + w ∨ (29 + 4 * w ≤ j ∧ j < 33 + 4 * w)) → zM st' B' j = zM st B j) (g : LineR st a w B) : LineR st' a w B' := by
  obtain ⟨k, v, sl, p1, p2, p3, p4, p5, p6, p7, p8, p9, p10, p11, p12, p13, p14, p15, p16⟩ := g
  have da : Dyn st a := Or.inr (Or.inr (Or.inr (Or.inr ⟨p6, p7⟩)))
  have hm := (h.2 a da).2.2
  refine ⟨k, v, sl, p1, p2, p3, p4, by rw [h.tg da]; exact p5, p6, Nat.lt_of_lt_of_le p7 h.1, by rw [hm]; exact p8, by rw [hm]; exact p9, by rw [hm]; exact p10, by rw [hm]; exact p11, by rw [hB _ (Or.inl rfl)]; exact p12, by rw [hB _ (Or.inr (Or.inl rfl))]; exact p13, by rw [hB _ (Or.inr (Or.inr (Or.inl rfl)))]; exact p14, fun j hj => ?_, fun hk => ?_⟩
  · have e : zM st' B' (29 + 4 * w + j) = zM st B (29 + 4 * w + j) := hB _ (Or.inr (Or.inr (Or.inr ⟨by clear p16; omega, by clear p16; omega⟩)))
    rw [e]; exact p15 j hj
  · obtain ⟨r, r1, r2, r3, r4, r5, r6⟩ := p16 hk
    have dr : Dyn st r := Or.inr (Or.inr (Or.inr (Or.inr ⟨r2, r3⟩)))
    refine ⟨r, by rw [(h.2 a da).2.1]; exact r1, r2, Nat.lt_of_lt_of_le r3 h.1, by rw [h.tg dr]; exact r4, by rw [h.ln dr]; exact r5, fun j hj => ?_⟩
    have e : zM st' B' (29 + 4 * w + j) = zM st B (29 + 4 * w + j) := hB _ (Or.inr (Or.inr (Or.inr ⟨by clear p16; omega, by clear p16; omega⟩)))
    rw [(h.2 r dr).2.2, e]; exact r6 j hj
theorem HoldR.cg {st st' : zS} {x B B' : Nat} (h : Kept st st') (hK : K st B 1 ≤ K st' B' 1) (hc : K st B 1 ≤ 5) (hB : ∀ j, (j = 7 ∨ (228 ≤ j ∧ j < 243 + K st B 1) ∨ (248 ≤ j ∧ j < 248 + 140 * K st B 1)) → zM st' B' j = zM st B j) (g : HoldR st x B) : HoldR st' x B' := by
  obtain ⟨want, look, cnt, c, sz, f, p1, p2, p3, p4, p5, p6, p7, p8, p9, p10, p11, p12, p13, p14, p15, p16, p17, p18, p19⟩ := g
  have dx : Dyn st x := by rcases p5 with q | q | q <;> unfold Dyn <;> omega
  have dc : Dyn st c := by rcases p6 with q | q | q <;> unfold Dyn <;> omega
  have hN := h.1
  refine ⟨want, look, cnt, c, sz, f, by rw [h.tg dx]; exact p1, by rw [(h.2 x dx).2.1]; exact p2, by rw [h.tg dc]; exact p3, by rw [h.ln dc]; exact p4, by clear p19; omega, by clear p19; omega, by rw [(h.2 x dx).2.2]; exact p7, by rw [(h.2 x dx).2.2]; exact p8, by rw [(h.2 x dx).2.2]; exact p9, by rw [(h.2 x dx).2.2]; exact p10, p11, p12, p13, p14, p15, p16, p17, fun i hi => by rw [(h.2 c dc).2.2]; exact p18 i hi, ?_⟩
  rcases p19 with ⟨q1, q2⟩ | ⟨act, w, l, q0, q1, q2, q3, q4, q5, q6, q7, q8, q9, q10⟩
  · exact Or.inl ⟨by rw [hB _ (Or.inl rfl)]; exact q1, q2⟩
  · refine Or.inr ⟨act, w, l, by omega, by rw [hB _ (Or.inl rfl)]; exact q1, by rw [hB _ (Or.inr (Or.inl ⟨by omega, by omega⟩))]; exact q2, q3, q4, by rw [hB _ (Or.inr (Or.inl ⟨by omega, by omega⟩))]; exact q5, q6, q7, by rw [hB _ (Or.inr (Or.inl ⟨by omega, by omega⟩))]; exact q8, by rw [hB _ (Or.inr (Or.inl ⟨by omega, by omega⟩))]; exact q9, fun i hi => ?_⟩
    rw [hB _ (Or.inr (Or.inr ⟨by omega, by omega⟩))]; exact q10 i hi
theorem NumR.cg {st st' : zS} {o o' B B' c b cap : Nat} {P P' : Int32 → Prop} (g : NumR st o B c b cap P) (h0 : zM st' o' 1 = zM st o 1) (h1 : ∀ i, i < cap → zM st' (o' + 1) i = zM st (o + 1) i) (h2 : zM st' B' c = zM st B c) (h3 : ∀ i, i < cap → zM st' B' (b + i) = zM st B (b + i)) (hP : ∀ x, P x → P' x) : NumR st' o' B' c b cap P' := by
  obtain ⟨⟨g1, g2⟩, g3, g4⟩ := g
  have hk : K st' B' c = K st B c := by unfold K; rw [h2]
  refine ⟨⟨by rw [hk, h2]; exact g1, by rw [hk]; exact g2⟩, by rw [h0, h2]; exact g3, fun i hi => ?_⟩
  rw [hk] at hi
  rw [h1 i (by omega), h3 i (by omega)]
  exact ⟨(g4 i hi).1, hP _ (g4 i hi).2⟩
theorem K_of {st : zS} {B c n : Nat} (h : zM st B c = nI n) (hn : n < 2147483648) : K st B c = n := by unfold K; rw [h, n_nat hn]
theorem NumR.push {st st' : zS} {o B c b cap : Nat} {P P' : Int32 → Prop} (x : Int32) (g : NumR st o B c b cap P) (hc : cap ≤ 1000) (hlt : K st B c < cap) (h0 : zM st' o 1 = nI (K st B c + 1)) (h1 : ∀ i, i < K st B c → zM st' (o + 1) i = zM st (o + 1) i) (h2 : zM st' B c = nI (K st B c + 1)) (h3 : ∀ i, i < K st B c → zM st' B (b + i) = zM st B (b + i)) (h4 : zM st' (o + 1) (K st B c) = x) (h5 : zM st' B (b + K st B c) = x) (hP : ∀ x, P x → P' x) (hx : P' x) : NumR st' o B c b cap P' := by
  obtain ⟨⟨g1, g2⟩, g3, g4⟩ := g
  have hk : K st' B c = K st B c + 1 := K_of h2 (by omega)
  refine ⟨⟨by rw [hk]; exact h2, by omega⟩, by rw [h0, h2], fun i hi => ?_⟩
  rw [hk] at hi
  by_cases he : i = K st B c
  · rw [he, h4, h5]; exact ⟨rfl, hx⟩
  · rw [h1 i (by omega), h3 i (by omega)]
    exact ⟨(g4 i (by omega)).1, hP _ (g4 i (by omega)).2⟩
theorem NumR.zero {st' : zS} {o B c b cap : Nat} {P : Int32 → Prop} (h0 : zM st' o 1 = nI 0) (h2 : zM st' B c = nI 0) : NumR st' o B c b cap P := by
  have hk : K st' B c = 0 := K_of h2 (by omega)
  exact ⟨⟨by rw [hk]; exact h2, by omega⟩, by rw [h0, h2], fun i hi => by omega⟩
/-- the desk d against the row B, as d' against B' elsewhere -/
theorem DeskR.cg {st st' : zS} {d B : Nat} (g : DeskR st d B) (h : Kept st st') (hr1 : ∀ j, zR st' (d + 1) j = zR st (d + 1) j) (hr2 : zR st' d 2 = zR st d 2) (hm : ∀ k j, d ≤ k → k < d + 18 → zM st' k j = zM st k j) (hB : ∀ j, zM st' B j = zM st B j) : DeskR st' d B := by
  obtain ⟨⟨⟨a1, a2⟩, a3⟩, ⟨⟨b1, b2⟩, b3⟩, c1, c2, n1, n2, n3, n4, n5, n6, n7, e1, e2, hh, e3, e4⟩ := g
  have hk : ∀ c, K st' B c = K st B c := fun c => by unfold K; rw [hB]
  have hW : ∀ x, WayE st B x → WayE st' B x := fun x hx => by unfold WayE; rw [hk]; exact hx
  have hU : ∀ x, Upto (K st B 8) x → Upto (K st' B 8) x := fun x hx => by rw [hk]; exact hx
  refine ⟨⟨⟨by rw [hk, hB]; exact a1, by rw [hk]; exact a2⟩, by rw [hm _ _ (by omega) (by omega), hB]; exact a3⟩, ⟨⟨by rw [hk, hB]; exact b1, by rw [hk]; exact b2⟩, by rw [hm _ _ (by omega) (by omega), hB]; exact b3⟩, by rw [hm _ _ (by omega) (by omega), hB]; exact c1, by rw [hm _ _ (by omega) (by omega), hB]; exact c2, ?_, ?_, ?_, ?_, ?_, ?_, ?_, fun i j hi hj he => ?_, fun w hw => ?_, hh, by rw [hr2]; exact e3, e4.cg h (by rw [hk]; exact Nat.le_refl _) b2 (fun j _ => hB j)⟩
  · exact n1.cg (hm _ _ (by omega) (by omega)) (fun i _ => hm _ _ (by omega) (by omega)) (hB _) (fun i _ => hB _) (fun _ q => q)
  · exact n2.cg (hm _ _ (by omega) (by omega)) (fun i _ => hm _ _ (by omega) (by omega)) (hB _) (fun i _ => hB _) hW
  · exact n3.cg (hm _ _ (by omega) (by omega)) (fun i _ => hm _ _ (by omega) (by omega)) (hB _) (fun i _ => hB _) (fun _ q => q)
  · exact n4.cg (hm _ _ (by omega) (by omega)) (fun i _ => hm _ _ (by omega) (by omega)) (hB _) (fun i _ => hB _) hU
  · exact n5.cg (hm _ _ (by omega) (by omega)) (fun i _ => hm _ _ (by omega) (by omega)) (hB _) (fun i _ => hB _) (fun _ q => q)
  · exact n6.cg (hm _ _ (by omega) (by omega)) (fun i _ => hm _ _ (by omega) (by omega)) (hB _) (fun i _ => hB _) (fun _ q => q)
  · exact n7.cg (hm _ _ (by omega) (by omega)) (fun i _ => hm _ _ (by omega) (by omega)) (hB _) (fun i _ => hB _) hW
  · rw [hk] at hi hj; rw [hB, hB] at he; exact e1 i j hi hj he
  · rw [hk] at hw
    obtain ⟨a, q1, q2⟩ := e2 w hw
    exact ⟨a, by rw [hr1]; exact q1, q2.cg h (fun j _ => hB j)⟩
/-- the tied rest, where the desk's rows of numbers alone were written -/
theorem Inv.num {st st' : zS} (g : Inv st) (h1 : st'.1 = st.1) (h2 : st'.2.1 = st.2.1) (h3 : st'.2.2.2 = st.2.2.2) (hm : ∀ k j, k ≠ 40 → (k < 5 ∨ 18 < k) → ¬ (k = 1 ∧ (j = 6 ∨ j = 7)) → zM st' k j = zM st k j)
    (hr : ∀ j, j = 0 ∨ j = 1 ∨ j = 7 ∨ (11 ≤ j ∧ j < 53) ∨ 228 ≤ j → zM st' 40 j = zM st 40 j) (hs1 : zM st' 1 6 = zM st' 40 9) (hs2 : zM st' 1 7 = zM st' 40 10)
    (n1 : NumR st' 5 40 6 128 100 (Upto 128)) (n2 : NumR st' 7 40 8 53 40 (WayE st 40)) (n3 : NumR st' 9 40 2 93 5 (Upto 40)) (n4 : NumR st' 11 40 3 98 6 (Upto (K st' 40 8))) (n5 : NumR st' 13 40 4 104 8 (Upto 41)) (n6 : NumR st' 15 40 5 112 8 (Upto 40)) (n7 : NumR st' 17 40 5 120 8 (WayE st 40))
    (hd : ∀ i j, i < K st' 40 2 → j < K st' 40 2 → zM st' 40 (93 + i) = zM st' 40 (93 + j) → i = j) : Inv st' := by
  obtain ⟨g1, ⟨⟨⟨a1, a2⟩, a3⟩, ⟨⟨b1, b2⟩, b3⟩, c1, c2, -, -, -, -, -, -, -, -, e2, hh, e3, e4⟩, g3, g4, g5, n, g6, g7, g8⟩ := g
  have hR : ∀ k j, zR st' k j = zR st k j := fun k j => by unfold zR; rw [h3]
  have hk : Kept st st' := ⟨by rw [h1]; exact Nat.le_refl _, fun k hk => ⟨by rw [h2], hR k, fun j => hm k j (by unfold Dyn at hk; omega) (by unfold Dyn at hk; omega) (by unfold Dyn at hk; omega)⟩⟩
  have k0 : K st' 40 0 = K st 40 0 := by unfold K; rw [hr 0 (by omega)]
  have k1 : K st' 40 1 = K st 40 1 := by unfold K; rw [hr 1 (by omega)]
  have hW : ∀ x, WayE st 40 x → WayE st' 40 x := fun x hx => by unfold WayE; rw [k0]; exact hx
  refine ⟨⟨by rw [h1]; exact g1.1, fun k hk => by rw [h2]; exact g1.2.1 k hk, fun q hq => by rw [hR]; exact g1.2.2.1 q hq, fun k hk j hj a q => by
    rw [hR] at q
    have e : zTg st' a = zTg st a := by unfold zTg; rw [h2]
    rw [h1, e]; exact g1.2.2.2 k hk j hj a q⟩, ⟨⟨⟨by rw [k0, hr 0 (by omega)]; exact a1, by rw [k0]; exact a2⟩, by rw [hm 1 1 (by omega) (by omega) (by omega), hr 0 (by omega)]; exact a3⟩, ⟨⟨by rw [k1, hr 1 (by omega)]; exact b1, by rw [k1]; exact b2⟩, by rw [hm 1 3 (by omega) (by omega) (by omega), hr 1 (by omega)]; exact b3⟩, hs1, hs2, n1, n2.cg rfl (fun _ _ => rfl) rfl (fun _ _ => rfl) hW, n3, n4, n5, n6, n7.cg rfl (fun _ _ => rfl) rfl (fun _ _ => rfl) hW, hd, fun w hw => ?_, hh, by rw [hR]; exact e3, e4.cg hk (by rw [k1]; exact Nat.le_refl _) b2 (fun j hj => hr j (by omega))⟩, by rw [hm 0 2 (by omega) (by omega) (by omega), hm 39 3 (by omega) (by omega) (by omega)]; exact g3, ?_, by rw [hm 37 1 (by omega) (by omega) (by omega), hm 39 20 (by omega) (by omega) (by omega)]; exact g5, n, g6, by rw [hm 39 20 (by omega) (by omega) (by omega)]; exact g7, fun i q1 q2 => by rw [hm 38 i (by omega) (by omega) (by omega), hm 46 i (by omega) (by omega) (by omega)]; exact g8 i q1 q2⟩
  · rw [k0] at hw
    obtain ⟨a, q1, q2⟩ := e2 w hw
    exact ⟨a, by rw [hR]; exact q1, q2.cg hk (fun j hj => hr j (by omega))⟩
  · rw [hm 39 3 (by omega) (by omega) (by omega)]
    rcases g4 with q | ⟨q1, q2⟩
    · exact Or.inl q
    · exact Or.inr ⟨q1, q2.cg hk (fun j => hR _ _) (hR _ _) (fun k j _ _ => hm k j (by omega) (by omega) (by omega)) (fun j => hm 41 j (by omega) (by omega) (by omega))⟩
