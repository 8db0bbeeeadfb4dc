theorem K_eq {st st' : zS} {B c : Nat} (h : zM st' B c = zM st B c) : K st' B c = K st B c := by unfold K; rw [h]
theorem inv_push5 {st : zS} (h : Inv st) {n : Nat} (hk : K st 40 6 = n) (hf : n < 100) (a : Int32) (hx : Upto 128 a) : Inv (zPM (zPM (zPM (zPM st 6 n a) 5 1 (nI (n + 1))) 40 (128 + n) a) 40 6 (nI (n + 1))) := by
  obtain ⟨hs, ⟨⟨⟨a1, a2⟩, a3⟩, ⟨⟨b1, b2⟩, b3⟩, c1, c2, n1, n2, n3, n4, n5, n6, n7, e1, e2, hh, e3, e4⟩, g3, g4, g5, gn⟩ := id h
  refine Inv.num h rfl rfl rfl (fun k j q1 q2 q3 => by simp (disch := omega) only [zM_PM, if_neg]) (fun j q1 => by simp (disch := omega) only [zM_PM, if_neg]) (by simp (disch := omega) only [zM_PM, if_neg]; exact c1) (by simp (disch := omega) only [zM_PM, if_neg]; exact c2) ?_ ?_ ?_ ?_ ?_ ?_ ?_ ?_
  · refine n1.push a (by omega) (by rw [hk]; exact hf) ?_ (fun i hi => ?_) ?_ (fun i hi => ?_) ?_ ?_ (fun _ q => q) (hx) <;> rw [hk] at * <;> simp (disch := omega) only [zM_PM, if_neg, if_pos, and_self, if_true]
  · exact n2.cg (by simp (disch := omega) only [zM_PM, if_neg]) (fun i hi => by simp (disch := omega) only [zM_PM, if_neg]) (by simp (disch := omega) only [zM_PM, if_neg]) (fun i hi => by simp (disch := omega) only [zM_PM, if_neg]) (fun _ q => q)
  · exact n3.cg (by simp (disch := omega) only [zM_PM, if_neg]) (fun i hi => by simp (disch := omega) only [zM_PM, if_neg]) (by simp (disch := omega) only [zM_PM, if_neg]) (fun i hi => by simp (disch := omega) only [zM_PM, if_neg]) (fun _ q => q)
  · exact n4.cg (by simp (disch := omega) only [zM_PM, if_neg]) (fun i hi => by simp (disch := omega) only [zM_PM, if_neg]) (by simp (disch := omega) only [zM_PM, if_neg]) (fun i hi => by simp (disch := omega) only [zM_PM, if_neg]) (fun _ q => by rw [K_eq (st := st) (by simp (disch := omega) only [zM_PM, if_neg])]; exact q)
  · exact n5.cg (by simp (disch := omega) only [zM_PM, if_neg]) (fun i hi => by simp (disch := omega) only [zM_PM, if_neg]) (by simp (disch := omega) only [zM_PM, if_neg]) (fun i hi => by simp (disch := omega) only [zM_PM, if_neg]) (fun _ q => q)
  · exact n6.cg (by simp (disch := omega) only [zM_PM, if_neg]) (fun i hi => by simp (disch := omega) only [zM_PM, if_neg]) (by simp (disch := omega) only [zM_PM, if_neg]) (fun i hi => by simp (disch := omega) only [zM_PM, if_neg]) (fun _ q => q)
  · exact n7.cg (by simp (disch := omega) only [zM_PM, if_neg]) (fun i hi => by simp (disch := omega) only [zM_PM, if_neg]) (by simp (disch := omega) only [zM_PM, if_neg]) (fun i hi => by simp (disch := omega) only [zM_PM, if_neg]) (fun _ q => q)
  · rw [K_eq (st := st) (by simp (disch := omega) only [zM_PM, if_neg])]
    intro i j hi hj he
    have hb := n3.1.2
    simp (disch := omega) only [zM_PM, if_neg] at he
    exact e1 i j hi hj he
theorem inv_zero5 {st : zS} (h : Inv st) : Inv (zPM (zPM st 5 1 (nI 0)) 40 6 (nI 0)) := by
  obtain ⟨hs, ⟨⟨⟨a1, a2⟩, a3⟩, ⟨⟨b1, b2⟩, b3⟩, c1, c2, n1, n2, n3, n4, n5, n6, n7, e1, e2, hh, e3, e4⟩, g3, g4, g5, gn⟩ := id h
  refine Inv.num h rfl rfl rfl (fun k j q1 q2 q3 => by simp (disch := omega) only [zM_PM, if_neg]) (fun j q1 => by simp (disch := omega) only [zM_PM, if_neg]) (by simp (disch := omega) only [zM_PM, if_neg]; exact c1) (by simp (disch := omega) only [zM_PM, if_neg]; exact c2) ?_ ?_ ?_ ?_ ?_ ?_ ?_ ?_
  · exact NumR.zero (by simp (disch := omega) only [zM_PM, if_neg, if_pos, and_self, if_true]) (by simp (disch := omega) only [zM_PM, if_neg, if_pos, and_self, if_true])
  · exact n2.cg (by simp (disch := omega) only [zM_PM, if_neg]) (fun i hi => by simp (disch := omega) only [zM_PM, if_neg]) (by simp (disch := omega) only [zM_PM, if_neg]) (fun i hi => by simp (disch := omega) only [zM_PM, if_neg]) (fun _ q => q)
  · exact n3.cg (by simp (disch := omega) only [zM_PM, if_neg]) (fun i hi => by simp (disch := omega) only [zM_PM, if_neg]) (by simp (disch := omega) only [zM_PM, if_neg]) (fun i hi => by simp (disch := omega) only [zM_PM, if_neg]) (fun _ q => q)
  · exact n4.cg (by simp (disch := omega) only [zM_PM, if_neg]) (fun i hi => by simp (disch := omega) only [zM_PM, if_neg]) (by simp (disch := omega) only [zM_PM, if_neg]) (fun i hi => by simp (disch := omega) only [zM_PM, if_neg]) (fun _ q => by rw [K_eq (st := st) (by simp (disch := omega) only [zM_PM, if_neg])]; exact q)
  · exact n5.cg (by simp (disch := omega) only [zM_PM, if_neg]) (fun i hi => by simp (disch := omega) only [zM_PM, if_neg]) (by simp (disch := omega) only [zM_PM, if_neg]) (fun i hi => by simp (disch := omega) only [zM_PM, if_neg]) (fun _ q => q)
  · exact n6.cg (by simp (disch := omega) only [zM_PM, if_neg]) (fun i hi => by simp (disch := omega) only [zM_PM, if_neg]) (by simp (disch := omega) only [zM_PM, if_neg]) (fun i hi => by simp (disch := omega) only [zM_PM, if_neg]) (fun _ q => q)
  · exact n7.cg (by simp (disch := omega) only [zM_PM, if_neg]) (fun i hi => by simp (disch := omega) only [zM_PM, if_neg]) (by simp (disch := omega) only [zM_PM, if_neg]) (fun i hi => by simp (disch := omega) only [zM_PM, if_neg]) (fun _ q => q)
  · rw [K_eq (st := st) (by simp (disch := omega) only [zM_PM, if_neg])]
    intro i j hi hj he
    have hb := n3.1.2
    simp (disch := omega) only [zM_PM, if_neg] at he
    exact e1 i j hi hj he
theorem inv_push9 {st : zS} (h : Inv st) {n : Nat} (hk : K st 40 2 = n) (hf : n < 5) (a : Int32) (hx : Upto 40 a) (hdx : ∀ i, i < K st 40 2 → zM st 40 (93 + i) ≠ a) : Inv (zPM (zPM (zPM (zPM st 10 n a) 9 1 (nI (n + 1))) 40 (93 + n) a) 40 2 (nI (n + 1))) := by
  obtain ⟨hs, ⟨⟨⟨a1, a2⟩, a3⟩, ⟨⟨b1, b2⟩, b3⟩, c1, c2, n1, n2, n3, n4, n5, n6, n7, e1, e2, hh, e3, e4⟩, g3, g4, g5, gn⟩ := id h
  refine Inv.num h rfl rfl rfl (fun k j q1 q2 q3 => by simp (disch := omega) only [zM_PM, if_neg]) (fun j q1 => by simp (disch := omega) only [zM_PM, if_neg]) (by simp (disch := omega) only [zM_PM, if_neg]; exact c1) (by simp (disch := omega) only [zM_PM, if_neg]; exact c2) ?_ ?_ ?_ ?_ ?_ ?_ ?_ ?_
  · exact n1.cg (by simp (disch := omega) only [zM_PM, if_neg]) (fun i hi => by simp (disch := omega) only [zM_PM, if_neg]) (by simp (disch := omega) only [zM_PM, if_neg]) (fun i hi => by simp (disch := omega) only [zM_PM, if_neg]) (fun _ q => q)
  · exact n2.cg (by simp (disch := omega) only [zM_PM, if_neg]) (fun i hi => by simp (disch := omega) only [zM_PM, if_neg]) (by simp (disch := omega) only [zM_PM, if_neg]) (fun i hi => by simp (disch := omega) only [zM_PM, if_neg]) (fun _ q => q)
  · refine n3.push a (by omega) (by rw [hk]; exact hf) ?_ (fun i hi => ?_) ?_ (fun i hi => ?_) ?_ ?_ (fun _ q => q) (hx) <;> rw [hk] at * <;> simp (disch := omega) only [zM_PM, if_neg, if_pos, and_self, if_true]
  · exact n4.cg (by simp (disch := omega) only [zM_PM, if_neg]) (fun i hi => by simp (disch := omega) only [zM_PM, if_neg]) (by simp (disch := omega) only [zM_PM, if_neg]) (fun i hi => by simp (disch := omega) only [zM_PM, if_neg]) (fun _ q => by rw [K_eq (st := st) (by simp (disch := omega) only [zM_PM, if_neg])]; exact q)
  · exact n5.cg (by simp (disch := omega) only [zM_PM, if_neg]) (fun i hi => by simp (disch := omega) only [zM_PM, if_neg]) (by simp (disch := omega) only [zM_PM, if_neg]) (fun i hi => by simp (disch := omega) only [zM_PM, if_neg]) (fun _ q => q)
  · exact n6.cg (by simp (disch := omega) only [zM_PM, if_neg]) (fun i hi => by simp (disch := omega) only [zM_PM, if_neg]) (by simp (disch := omega) only [zM_PM, if_neg]) (fun i hi => by simp (disch := omega) only [zM_PM, if_neg]) (fun _ q => q)
  · exact n7.cg (by simp (disch := omega) only [zM_PM, if_neg]) (fun i hi => by simp (disch := omega) only [zM_PM, if_neg]) (by simp (disch := omega) only [zM_PM, if_neg]) (fun i hi => by simp (disch := omega) only [zM_PM, if_neg]) (fun _ q => q)
  · rw [K_of (n := n + 1) (by simp (disch := omega) only [zM_PM, if_neg, if_pos, and_self, if_true]) (by omega)]
    intro i j hi hj he
    by_cases hi2 : i = n <;> by_cases hj2 : j = n
    · omega
    · subst hi2
      simp (disch := omega) only [zM_PM, if_neg, if_pos, and_self, if_true, true_and] at he
      exact absurd he.symm (hdx j (by omega))
    · subst hj2
      simp (disch := omega) only [zM_PM, if_neg, if_pos, and_self, if_true, true_and] at he
      exact absurd he (hdx i (by omega))
    · simp (disch := omega) only [zM_PM, if_neg] at he
      exact e1 i j (by omega) (by omega) he
theorem inv_zero9 {st : zS} (h : Inv st) : Inv (zPM (zPM st 9 1 (nI 0)) 40 2 (nI 0)) := by
  obtain ⟨hs, ⟨⟨⟨a1, a2⟩, a3⟩, ⟨⟨b1, b2⟩, b3⟩, c1, c2, n1, n2, n3, n4, n5, n6, n7, e1, e2, hh, e3, e4⟩, g3, g4, g5, gn⟩ := id h
  refine Inv.num h rfl rfl rfl (fun k j q1 q2 q3 => by simp (disch := omega) only [zM_PM, if_neg]) (fun j q1 => by simp (disch := omega) only [zM_PM, if_neg]) (by simp (disch := omega) only [zM_PM, if_neg]; exact c1) (by simp (disch := omega) only [zM_PM, if_neg]; exact c2) ?_ ?_ ?_ ?_ ?_ ?_ ?_ ?_
  · exact n1.cg (by simp (disch := omega) only [zM_PM, if_neg]) (fun i hi => by simp (disch := omega) only [zM_PM, if_neg]) (by simp (disch := omega) only [zM_PM, if_neg]) (fun i hi => by simp (disch := omega) only [zM_PM, if_neg]) (fun _ q => q)
  · exact n2.cg (by simp (disch := omega) only [zM_PM, if_neg]) (fun i hi => by simp (disch := omega) only [zM_PM, if_neg]) (by simp (disch := omega) only [zM_PM, if_neg]) (fun i hi => by simp (disch := omega) only [zM_PM, if_neg]) (fun _ q => q)
  · exact NumR.zero (by simp (disch := omega) only [zM_PM, if_neg, if_pos, and_self, if_true]) (by simp (disch := omega) only [zM_PM, if_neg, if_pos, and_self, if_true])
  · exact n4.cg (by simp (disch := omega) only [zM_PM, if_neg]) (fun i hi => by simp (disch := omega) only [zM_PM, if_neg]) (by simp (disch := omega) only [zM_PM, if_neg]) (fun i hi => by simp (disch := omega) only [zM_PM, if_neg]) (fun _ q => by rw [K_eq (st := st) (by simp (disch := omega) only [zM_PM, if_neg])]; exact q)
  · exact n5.cg (by simp (disch := omega) only [zM_PM, if_neg]) (fun i hi => by simp (disch := omega) only [zM_PM, if_neg]) (by simp (disch := omega) only [zM_PM, if_neg]) (fun i hi => by simp (disch := omega) only [zM_PM, if_neg]) (fun _ q => q)
  · exact n6.cg (by simp (disch := omega) only [zM_PM, if_neg]) (fun i hi => by simp (disch := omega) only [zM_PM, if_neg]) (by simp (disch := omega) only [zM_PM, if_neg]) (fun i hi => by simp (disch := omega) only [zM_PM, if_neg]) (fun _ q => q)
  · exact n7.cg (by simp (disch := omega) only [zM_PM, if_neg]) (fun i hi => by simp (disch := omega) only [zM_PM, if_neg]) (by simp (disch := omega) only [zM_PM, if_neg]) (fun i hi => by simp (disch := omega) only [zM_PM, if_neg]) (fun _ q => q)
  · rw [K_of (n := 0) (by simp (disch := omega) only [zM_PM, if_neg, if_pos, and_self, if_true]) (by omega)]
    intro i j hi
    omega
theorem inv_push11 {st : zS} (h : Inv st) {n : Nat} (hk : K st 40 3 = n) (hf : n < 6) (a : Int32) (hx : Upto (K st 40 8) a) : Inv (zPM (zPM (zPM (zPM st 12 n a) 11 1 (nI (n + 1))) 40 (98 + n) a) 40 3 (nI (n + 1))) := by
  obtain ⟨hs, ⟨⟨⟨a1, a2⟩, a3⟩, ⟨⟨b1, b2⟩, b3⟩, c1, c2, n1, n2, n3, n4, n5, n6, n7, e1, e2, hh, e3, e4⟩, g3, g4, g5, gn⟩ := id h
  refine Inv.num h rfl rfl rfl (fun k j q1 q2 q3 => by simp (disch := omega) only [zM_PM, if_neg]) (fun j q1 => by simp (disch := omega) only [zM_PM, if_neg]) (by simp (disch := omega) only [zM_PM, if_neg]; exact c1) (by simp (disch := omega) only [zM_PM, if_neg]; exact c2) ?_ ?_ ?_ ?_ ?_ ?_ ?_ ?_
  · exact n1.cg (by simp (disch := omega) only [zM_PM, if_neg]) (fun i hi => by simp (disch := omega) only [zM_PM, if_neg]) (by simp (disch := omega) only [zM_PM, if_neg]) (fun i hi => by simp (disch := omega) only [zM_PM, if_neg]) (fun _ q => q)
  · exact n2.cg (by simp (disch := omega) only [zM_PM, if_neg]) (fun i hi => by simp (disch := omega) only [zM_PM, if_neg]) (by simp (disch := omega) only [zM_PM, if_neg]) (fun i hi => by simp (disch := omega) only [zM_PM, if_neg]) (fun _ q => q)
  · exact n3.cg (by simp (disch := omega) only [zM_PM, if_neg]) (fun i hi => by simp (disch := omega) only [zM_PM, if_neg]) (by simp (disch := omega) only [zM_PM, if_neg]) (fun i hi => by simp (disch := omega) only [zM_PM, if_neg]) (fun _ q => q)
  · refine n4.push a (by omega) (by rw [hk]; exact hf) ?_ (fun i hi => ?_) ?_ (fun i hi => ?_) ?_ ?_ (fun _ q => by rw [K_eq (st := st) (by simp (disch := omega) only [zM_PM, if_neg])]; exact q) (by rw [K_eq (st := st) (by simp (disch := omega) only [zM_PM, if_neg])]; exact hx) <;> rw [hk] at * <;> simp (disch := omega) only [zM_PM, if_neg, if_pos, and_self, if_true]
  · exact n5.cg (by simp (disch := omega) only [zM_PM, if_neg]) (fun i hi => by simp (disch := omega) only [zM_PM, if_neg]) (by simp (disch := omega) only [zM_PM, if_neg]) (fun i hi => by simp (disch := omega) only [zM_PM, if_neg]) (fun _ q => q)
  · exact n6.cg (by simp (disch := omega) only [zM_PM, if_neg]) (fun i hi => by simp (disch := omega) only [zM_PM, if_neg]) (by simp (disch := omega) only [zM_PM, if_neg]) (fun i hi => by simp (disch := omega) only [zM_PM, if_neg]) (fun _ q => q)
  · exact n7.cg (by simp (disch := omega) only [zM_PM, if_neg]) (fun i hi => by simp (disch := omega) only [zM_PM, if_neg]) (by simp (disch := omega) only [zM_PM, if_neg]) (fun i hi => by simp (disch := omega) only [zM_PM, if_neg]) (fun _ q => q)
  · rw [K_eq (st := st) (by simp (disch := omega) only [zM_PM, if_neg])]
    intro i j hi hj he
    have hb := n3.1.2
    simp (disch := omega) only [zM_PM, if_neg] at he
    exact e1 i j hi hj he
theorem inv_zero11 {st : zS} (h : Inv st) : Inv (zPM (zPM st 11 1 (nI 0)) 40 3 (nI 0)) := by
  obtain ⟨hs, ⟨⟨⟨a1, a2⟩, a3⟩, ⟨⟨b1, b2⟩, b3⟩, c1, c2, n1, n2, n3, n4, n5, n6, n7, e1, e2, hh, e3, e4⟩, g3, g4, g5, gn⟩ := id h
  refine Inv.num h rfl rfl rfl (fun k j q1 q2 q3 => by simp (disch := omega) only [zM_PM, if_neg]) (fun j q1 => by simp (disch := omega) only [zM_PM, if_neg]) (by simp (disch := omega) only [zM_PM, if_neg]; exact c1) (by simp (disch := omega) only [zM_PM, if_neg]; exact c2) ?_ ?_ ?_ ?_ ?_ ?_ ?_ ?_
  · exact n1.cg (by simp (disch := omega) only [zM_PM, if_neg]) (fun i hi => by simp (disch := omega) only [zM_PM, if_neg]) (by simp (disch := omega) only [zM_PM, if_neg]) (fun i hi => by simp (disch := omega) only [zM_PM, if_neg]) (fun _ q => q)
  · exact n2.cg (by simp (disch := omega) only [zM_PM, if_neg]) (fun i hi => by simp (disch := omega) only [zM_PM, if_neg]) (by simp (disch := omega) only [zM_PM, if_neg]) (fun i hi => by simp (disch := omega) only [zM_PM, if_neg]) (fun _ q => q)
  · exact n3.cg (by simp (disch := omega) only [zM_PM, if_neg]) (fun i hi => by simp (disch := omega) only [zM_PM, if_neg]) (by simp (disch := omega) only [zM_PM, if_neg]) (fun i hi => by simp (disch := omega) only [zM_PM, if_neg]) (fun _ q => q)
  · exact NumR.zero (by simp (disch := omega) only [zM_PM, if_neg, if_pos, and_self, if_true]) (by simp (disch := omega) only [zM_PM, if_neg, if_pos, and_self, if_true])
  · exact n5.cg (by simp (disch := omega) only [zM_PM, if_neg]) (fun i hi => by simp (disch := omega) only [zM_PM, if_neg]) (by simp (disch := omega) only [zM_PM, if_neg]) (fun i hi => by simp (disch := omega) only [zM_PM, if_neg]) (fun _ q => q)
  · exact n6.cg (by simp (disch := omega) only [zM_PM, if_neg]) (fun i hi => by simp (disch := omega) only [zM_PM, if_neg]) (by simp (disch := omega) only [zM_PM, if_neg]) (fun i hi => by simp (disch := omega) only [zM_PM, if_neg]) (fun _ q => q)
  · exact n7.cg (by simp (disch := omega) only [zM_PM, if_neg]) (fun i hi => by simp (disch := omega) only [zM_PM, if_neg]) (by simp (disch := omega) only [zM_PM, if_neg]) (fun i hi => by simp (disch := omega) only [zM_PM, if_neg]) (fun _ q => q)
  · rw [K_eq (st := st) (by simp (disch := omega) only [zM_PM, if_neg])]
    intro i j hi hj he
    have hb := n3.1.2
    simp (disch := omega) only [zM_PM, if_neg] at he
    exact e1 i j hi hj he
theorem inv_push13 {st : zS} (h : Inv st) {n : Nat} (hk : K st 40 4 = n) (hf : n < 8) (a : Int32) (hx : Upto 41 a) : Inv (zPM (zPM (zPM (zPM st 14 n a) 13 1 (nI (n + 1))) 40 (104 + n) a) 40 4 (nI (n + 1))) := by
  obtain ⟨hs, ⟨⟨⟨a1, a2⟩, a3⟩, ⟨⟨b1, b2⟩, b3⟩, c1, c2, n1, n2, n3, n4, n5, n6, n7, e1, e2, hh, e3, e4⟩, g3, g4, g5, gn⟩ := id h
  refine Inv.num h rfl rfl rfl (fun k j q1 q2 q3 => by simp (disch := omega) only [zM_PM, if_neg]) (fun j q1 => by simp (disch := omega) only [zM_PM, if_neg]) (by simp (disch := omega) only [zM_PM, if_neg]; exact c1) (by simp (disch := omega) only [zM_PM, if_neg]; exact c2) ?_ ?_ ?_ ?_ ?_ ?_ ?_ ?_
  · exact n1.cg (by simp (disch := omega) only [zM_PM, if_neg]) (fun i hi => by simp (disch := omega) only [zM_PM, if_neg]) (by simp (disch := omega) only [zM_PM, if_neg]) (fun i hi => by simp (disch := omega) only [zM_PM, if_neg]) (fun _ q => q)
  · exact n2.cg (by simp (disch := omega) only [zM_PM, if_neg]) (fun i hi => by simp (disch := omega) only [zM_PM, if_neg]) (by simp (disch := omega) only [zM_PM, if_neg]) (fun i hi => by simp (disch := omega) only [zM_PM, if_neg]) (fun _ q => q)
  · exact n3.cg (by simp (disch := omega) only [zM_PM, if_neg]) (fun i hi => by simp (disch := omega) only [zM_PM, if_neg]) (by simp (disch := omega) only [zM_PM, if_neg]) (fun i hi => by simp (disch := omega) only [zM_PM, if_neg]) (fun _ q => q)
  · exact n4.cg (by simp (disch := omega) only [zM_PM, if_neg]) (fun i hi => by simp (disch := omega) only [zM_PM, if_neg]) (by simp (disch := omega) only [zM_PM, if_neg]) (fun i hi => by simp (disch := omega) only [zM_PM, if_neg]) (fun _ q => by rw [K_eq (st := st) (by simp (disch := omega) only [zM_PM, if_neg])]; exact q)
  · refine n5.push a (by omega) (by rw [hk]; exact hf) ?_ (fun i hi => ?_) ?_ (fun i hi => ?_) ?_ ?_ (fun _ q => q) (hx) <;> rw [hk] at * <;> simp (disch := omega) only [zM_PM, if_neg, if_pos, and_self, if_true]
  · exact n6.cg (by simp (disch := omega) only [zM_PM, if_neg]) (fun i hi => by simp (disch := omega) only [zM_PM, if_neg]) (by simp (disch := omega) only [zM_PM, if_neg]) (fun i hi => by simp (disch := omega) only [zM_PM, if_neg]) (fun _ q => q)
  · exact n7.cg (by simp (disch := omega) only [zM_PM, if_neg]) (fun i hi => by simp (disch := omega) only [zM_PM, if_neg]) (by simp (disch := omega) only [zM_PM, if_neg]) (fun i hi => by simp (disch := omega) only [zM_PM, if_neg]) (fun _ q => q)
  · rw [K_eq (st := st) (by simp (disch := omega) only [zM_PM, if_neg])]
    intro i j hi hj he
    have hb := n3.1.2
    simp (disch := omega) only [zM_PM, if_neg] at he
    exact e1 i j hi hj he
theorem inv_zero13 {st : zS} (h : Inv st) : Inv (zPM (zPM st 13 1 (nI 0)) 40 4 (nI 0)) := by
  obtain ⟨hs, ⟨⟨⟨a1, a2⟩, a3⟩, ⟨⟨b1, b2⟩, b3⟩, c1, c2, n1, n2, n3, n4, n5, n6, n7, e1, e2, hh, e3, e4⟩, g3, g4, g5, gn⟩ := id h
  refine Inv.num h rfl rfl rfl (fun k j q1 q2 q3 => by simp (disch := omega) only [zM_PM, if_neg]) (fun j q1 => by simp (disch := omega) only [zM_PM, if_neg]) (by simp (disch := omega) only [zM_PM, if_neg]; exact c1) (by simp (disch := omega) only [zM_PM, if_neg]; exact c2) ?_ ?_ ?_ ?_ ?_ ?_ ?_ ?_
  · exact n1.cg (by simp (disch := omega) only [zM_PM, if_neg]) (fun i hi => by simp (disch := omega) only [zM_PM, if_neg]) (by simp (disch := omega) only [zM_PM, if_neg]) (fun i hi => by simp (disch := omega) only [zM_PM, if_neg]) (fun _ q => q)
  · exact n2.cg (by simp (disch := omega) only [zM_PM, if_neg]) (fun i hi => by simp (disch := omega) only [zM_PM, if_neg]) (by simp (disch := omega) only [zM_PM, if_neg]) (fun i hi => by simp (disch := omega) only [zM_PM, if_neg]) (fun _ q => q)
  · exact n3.cg (by simp (disch := omega) only [zM_PM, if_neg]) (fun i hi => by simp (disch := omega) only [zM_PM, if_neg]) (by simp (disch := omega) only [zM_PM, if_neg]) (fun i hi => by simp (disch := omega) only [zM_PM, if_neg]) (fun _ q => q)
  · exact n4.cg (by simp (disch := omega) only [zM_PM, if_neg]) (fun i hi => by simp (disch := omega) only [zM_PM, if_neg]) (by simp (disch := omega) only [zM_PM, if_neg]) (fun i hi => by simp (disch := omega) only [zM_PM, if_neg]) (fun _ q => by rw [K_eq (st := st) (by simp (disch := omega) only [zM_PM, if_neg])]; exact q)
  · exact NumR.zero (by simp (disch := omega) only [zM_PM, if_neg, if_pos, and_self, if_true]) (by simp (disch := omega) only [zM_PM, if_neg, if_pos, and_self, if_true])
  · exact n6.cg (by simp (disch := omega) only [zM_PM, if_neg]) (fun i hi => by simp (disch := omega) only [zM_PM, if_neg]) (by simp (disch := omega) only [zM_PM, if_neg]) (fun i hi => by simp (disch := omega) only [zM_PM, if_neg]) (fun _ q => q)
  · exact n7.cg (by simp (disch := omega) only [zM_PM, if_neg]) (fun i hi => by simp (disch := omega) only [zM_PM, if_neg]) (by simp (disch := omega) only [zM_PM, if_neg]) (fun i hi => by simp (disch := omega) only [zM_PM, if_neg]) (fun _ q => q)
  · rw [K_eq (st := st) (by simp (disch := omega) only [zM_PM, if_neg])]
    intro i j hi hj he
    have hb := n3.1.2
    simp (disch := omega) only [zM_PM, if_neg] at he
    exact e1 i j hi hj he
theorem inv_pushB {st : zS} (h : Inv st) {n : Nat} (hk : K st 40 5 = n) (hf : n < 8) (a w : Int32) (hx : Upto 40 a) (hw : WayE st 40 w) : Inv (zPM (zPM (zPM (zPM (zPM (zPM (zPM st 16 n a) 15 1 (nI (n + 1))) 18 n w) 17 1 (nI (n + 1))) 40 (112 + n) a) 40 (120 + n) w) 40 5 (nI (n + 1))) := by
  obtain ⟨hs, ⟨⟨⟨a1, a2⟩, a3⟩, ⟨⟨b1, b2⟩, b3⟩, c1, c2, n1, n2, n3, n4, n5, n6, n7, e1, e2, hh, e3, e4⟩, g3, g4, g5, gn⟩ := id h
  refine Inv.num h rfl rfl rfl (fun k j q1 q2 q3 => by simp (disch := omega) only [zM_PM, if_neg]) (fun j q1 => by simp (disch := omega) only [zM_PM, if_neg]) (by simp (disch := omega) only [zM_PM, if_neg]; exact c1) (by simp (disch := omega) only [zM_PM, if_neg]; exact c2) ?_ ?_ ?_ ?_ ?_ ?_ ?_ ?_
  · exact n1.cg (by simp (disch := omega) only [zM_PM, if_neg]) (fun i hi => by simp (disch := omega) only [zM_PM, if_neg]) (by simp (disch := omega) only [zM_PM, if_neg]) (fun i hi => by simp (disch := omega) only [zM_PM, if_neg]) (fun _ q => q)
  · exact n2.cg (by simp (disch := omega) only [zM_PM, if_neg]) (fun i hi => by simp (disch := omega) only [zM_PM, if_neg]) (by simp (disch := omega) only [zM_PM, if_neg]) (fun i hi => by simp (disch := omega) only [zM_PM, if_neg]) (fun _ q => q)
  · exact n3.cg (by simp (disch := omega) only [zM_PM, if_neg]) (fun i hi => by simp (disch := omega) only [zM_PM, if_neg]) (by simp (disch := omega) only [zM_PM, if_neg]) (fun i hi => by simp (disch := omega) only [zM_PM, if_neg]) (fun _ q => q)
  · exact n4.cg (by simp (disch := omega) only [zM_PM, if_neg]) (fun i hi => by simp (disch := omega) only [zM_PM, if_neg]) (by simp (disch := omega) only [zM_PM, if_neg]) (fun i hi => by simp (disch := omega) only [zM_PM, if_neg]) (fun _ q => by rw [K_eq (st := st) (by simp (disch := omega) only [zM_PM, if_neg])]; exact q)
  · exact n5.cg (by simp (disch := omega) only [zM_PM, if_neg]) (fun i hi => by simp (disch := omega) only [zM_PM, if_neg]) (by simp (disch := omega) only [zM_PM, if_neg]) (fun i hi => by simp (disch := omega) only [zM_PM, if_neg]) (fun _ q => q)
  · refine n6.push a (by omega) (by rw [hk]; exact hf) ?_ (fun i hi => ?_) ?_ (fun i hi => ?_) ?_ ?_ (fun _ q => q) hx <;> rw [hk] at * <;> simp (disch := omega) only [zM_PM, if_neg, if_pos, and_self, if_true]
  · refine n7.push w (by omega) (by rw [hk]; exact hf) ?_ (fun i hi => ?_) ?_ (fun i hi => ?_) ?_ ?_ (fun _ q => q) hw <;> rw [hk] at * <;> simp (disch := omega) only [zM_PM, if_neg, if_pos, and_self, if_true]
  · rw [K_eq (st := st) (by simp (disch := omega) only [zM_PM, if_neg])]
    intro i j hi hj he
    have hb := n3.1.2
    simp (disch := omega) only [zM_PM, if_neg] at he
    exact e1 i j hi hj he
theorem inv_zeroB {st : zS} (h : Inv st) : Inv (zPM (zPM (zPM st 15 1 (nI 0)) 17 1 (nI 0)) 40 5 (nI 0)) := by
  obtain ⟨hs, ⟨⟨⟨a1, a2⟩, a3⟩, ⟨⟨b1, b2⟩, b3⟩, c1, c2, n1, n2, n3, n4, n5, n6, n7, e1, e2, hh, e3, e4⟩, g3, g4, g5, gn⟩ := id h
  refine Inv.num h rfl rfl rfl (fun k j q1 q2 q3 => by simp (disch := omega) only [zM_PM, if_neg]) (fun j q1 => by simp (disch := omega) only [zM_PM, if_neg]) (by simp (disch := omega) only [zM_PM, if_neg]; exact c1) (by simp (disch := omega) only [zM_PM, if_neg]; exact c2) ?_ ?_ ?_ ?_ ?_ ?_ ?_ ?_
  · exact n1.cg (by simp (disch := omega) only [zM_PM, if_neg]) (fun i hi => by simp (disch := omega) only [zM_PM, if_neg]) (by simp (disch := omega) only [zM_PM, if_neg]) (fun i hi => by simp (disch := omega) only [zM_PM, if_neg]) (fun _ q => q)
  · exact n2.cg (by simp (disch := omega) only [zM_PM, if_neg]) (fun i hi => by simp (disch := omega) only [zM_PM, if_neg]) (by simp (disch := omega) only [zM_PM, if_neg]) (fun i hi => by simp (disch := omega) only [zM_PM, if_neg]) (fun _ q => q)
  · exact n3.cg (by simp (disch := omega) only [zM_PM, if_neg]) (fun i hi => by simp (disch := omega) only [zM_PM, if_neg]) (by simp (disch := omega) only [zM_PM, if_neg]) (fun i hi => by simp (disch := omega) only [zM_PM, if_neg]) (fun _ q => q)
  · exact n4.cg (by simp (disch := omega) only [zM_PM, if_neg]) (fun i hi => by simp (disch := omega) only [zM_PM, if_neg]) (by simp (disch := omega) only [zM_PM, if_neg]) (fun i hi => by simp (disch := omega) only [zM_PM, if_neg]) (fun _ q => by rw [K_eq (st := st) (by simp (disch := omega) only [zM_PM, if_neg])]; exact q)
  · exact n5.cg (by simp (disch := omega) only [zM_PM, if_neg]) (fun i hi => by simp (disch := omega) only [zM_PM, if_neg]) (by simp (disch := omega) only [zM_PM, if_neg]) (fun i hi => by simp (disch := omega) only [zM_PM, if_neg]) (fun _ q => q)
  · exact NumR.zero (by simp (disch := omega) only [zM_PM, if_neg, if_pos, and_self, if_true]) (by simp (disch := omega) only [zM_PM, if_neg, if_pos, and_self, if_true])
  · exact NumR.zero (by simp (disch := omega) only [zM_PM, if_neg, if_pos, and_self, if_true]) (by simp (disch := omega) only [zM_PM, if_neg, if_pos, and_self, if_true])
  · rw [K_eq (st := st) (by simp (disch := omega) only [zM_PM, if_neg])]
    intro i j hi hj he
    have hb := n3.1.2
    simp (disch := omega) only [zM_PM, if_neg] at he
    exact e1 i j hi hj he
theorem inv_tear {st : zS} (h : Inv st) : Inv (zPM (zPM (zPM (zPM (zPM (zPM (zPM (zPM st 7 1 (nI 0)) 11 1 (nI 0)) 1 6 (nI 0)) 1 7 (nI 0)) 40 8 (nI 0)) 40 9 (nI 0)) 40 10 (nI 0)) 40 3 (nI 0)) := by
  obtain ⟨hs, ⟨⟨⟨a1, a2⟩, a3⟩, ⟨⟨b1, b2⟩, b3⟩, c1, c2, n1, n2, n3, n4, n5, n6, n7, e1, e2, hh, e3, e4⟩, g3, g4, g5, gn⟩ := id h
  refine Inv.num h rfl rfl rfl (fun k j q1 q2 q3 => by simp (disch := omega) only [zM_PM, if_neg]) (fun j q1 => by simp (disch := omega) only [zM_PM, if_neg]) (by simp (disch := omega) only [zM_PM, if_neg, if_pos, and_self, if_true]) (by simp (disch := omega) only [zM_PM, if_neg, if_pos, and_self, if_true]) ?_ ?_ ?_ ?_ ?_ ?_ ?_ ?_
  · exact n1.cg (by simp (disch := omega) only [zM_PM, if_neg]) (fun i hi => by simp (disch := omega) only [zM_PM, if_neg]) (by simp (disch := omega) only [zM_PM, if_neg]) (fun i hi => by simp (disch := omega) only [zM_PM, if_neg]) (fun _ q => q)
  · exact NumR.zero (by simp (disch := omega) only [zM_PM, if_neg, if_pos, and_self, if_true]) (by simp (disch := omega) only [zM_PM, if_neg, if_pos, and_self, if_true])
  · exact n3.cg (by simp (disch := omega) only [zM_PM, if_neg]) (fun i hi => by simp (disch := omega) only [zM_PM, if_neg]) (by simp (disch := omega) only [zM_PM, if_neg]) (fun i hi => by simp (disch := omega) only [zM_PM, if_neg]) (fun _ q => q)
  · exact NumR.zero (by simp (disch := omega) only [zM_PM, if_neg, if_pos, and_self, if_true]) (by simp (disch := omega) only [zM_PM, if_neg, if_pos, and_self, if_true])
  · exact n5.cg (by simp (disch := omega) only [zM_PM, if_neg]) (fun i hi => by simp (disch := omega) only [zM_PM, if_neg]) (by simp (disch := omega) only [zM_PM, if_neg]) (fun i hi => by simp (disch := omega) only [zM_PM, if_neg]) (fun _ q => q)
  · exact n6.cg (by simp (disch := omega) only [zM_PM, if_neg]) (fun i hi => by simp (disch := omega) only [zM_PM, if_neg]) (by simp (disch := omega) only [zM_PM, if_neg]) (fun i hi => by simp (disch := omega) only [zM_PM, if_neg]) (fun _ q => q)
  · exact n7.cg (by simp (disch := omega) only [zM_PM, if_neg]) (fun i hi => by simp (disch := omega) only [zM_PM, if_neg]) (by simp (disch := omega) only [zM_PM, if_neg]) (fun i hi => by simp (disch := omega) only [zM_PM, if_neg]) (fun _ q => q)
  · rw [K_eq (st := st) (by simp (disch := omega) only [zM_PM, if_neg])]
    intro i j hi hj he
    have hb := n3.1.2
    simp (disch := omega) only [zM_PM, if_neg] at he
    exact e1 i j hi hj he
theorem upto_of {a : Int32} {n : Nat} (hn : n < 2147483648) (h : ¬ (a < 0 ∨ nI n < a)) : Upto (n + 1) a := by
  rcases i_neg a with z | ⟨j, hj, rfl⟩
  · exact absurd (Or.inl z) h
  · refine ⟨j, ?_, rfl⟩
    rw [n_lt (by omega) hj] at h
    omega
theorem s_feed {st : zS} (h : Inv st) {N : Nat} (hN : 3000 ≤ N) (a1 : Int32) : ∃ (r : Int32) (st1 st2 : zS), (f_X11_feed st 0 a1 = some (st1, r)) ∧ (f_X12_feed st1 39 a1 = some (st2, r)) ∧ Sh st1 ∧ Inv st2 := by
  have hs := h.1
  obtain ⟨⟨q1, q2⟩, q3, q4⟩ := h.2.1.2.2.2.2.1
  rw [x_feed hs (q3.trans q1) q2]
  by_cases hr : a1 < 0 ∨ nI 127 < a1
  · rw [if_pos hr]
    exact ⟨_, _, _, rfl, by rw [m_feed hs q1 q2, if_pos hr], hs, h⟩
  · rw [if_neg hr]
    by_cases hf : K st 40 6 < 100
    · rw [if_pos hf]
      refine ⟨_, _, _, rfl, ?_, (hs.pm _ _ _).pm _ _ _, inv_push5 h rfl hf a1 (upto_of (by omega) hr)⟩
      rw [m_feed ((hs.pm _ _ _).pm _ _ _) (n := K st 40 6) (by simp (disch := omega) only [zM_PM, if_neg]; exact q1) q2, if_neg hr, if_pos hf]
    · rw [if_neg hf]
      exact ⟨_, _, _, rfl, by rw [m_feed hs q1 q2, if_neg hr, if_neg hf], hs, h⟩
/-! wanted -/
theorem x_wanted {st : zS} (hs : Sh st) {n : Nat} (hn : zM st 13 1 = nI n) (hc : n ≤ 8) (a : Int32) : f_X11_wanted st 0 a = some (if a = -1 then (zPM st 13 1 (nI 0), nI 0) else if a < 0 ∨ nI 40 < a then (st, -2) else if n < 8 then (zPM (zPM st 14 n a) 13 1 (nI (n + 1)), nI (n + 1)) else (st, -4)) := by
  unfold f_X11_wanted
  by_cases h1 : a = -1
  · subst h1
    simp (disch := omega) only [if_true, t0 hs, r0_0 hs, t1 hs, r1_10 hs, t13 hs, List.mem_singleton, Option.bind_some, f_clear (ns13 hs)]
  · rcases i_neg a with h | ⟨j, hj, rfl⟩
    · simp (disch := omega) only [h1, h, if_true, if_false, true_or]
    · have hs2 : Sh (zPM (zPM st (13 + 1) n (nI j)) 13 1 (nI (n + 1))) := (hs.pm _ _ _).pm _ _ _
      by_cases h : j ≤ 40 <;> by_cases h2 : n < 8 <;>
        simp (disch := omega) only [h1, n_lt0, n_le, n_lt, false_or, if_pos, if_neg, t0 hs, r0_0 hs, t1 hs, r1_10 hs, t13 hs, f_add (ns13 hs) hn hc, zb, Option.bind_some, List.mem_singleton, n_eq0, t0 hs2, r0_0 hs2, t1 hs2, r1_10 hs2, t13 hs2, f_size (ns13 hs2), zM_PM, if_true, if_false, and_self, Nat.reduceAdd]
theorem m_wanted {st : zS} (hs : Sh st) {n : Nat} (hn : zM st 40 4 = nI n) (hc : n ≤ 8) (a : Int32) : f_X12_wanted st 39 a = some (if a = -1 then (zPM st 40 4 (nI 0), nI 0) else if a < 0 ∨ nI 40 < a then (st, -2) else if n < 8 then (zPM (zPM st 40 (104 + n) a) 40 4 (nI (n + 1)), nI (n + 1)) else (st, -4)) := by
  unfold f_X12_wanted
  by_cases h1 : a = -1
  · subst h1
    simp (disch := omega) only [if_true, t39 hs, r39_1 hs, t40 hs, l40 hs, List.mem_singleton, Option.bind_some, n_zin, n_nat, if_pos]
  · rcases i_neg a with h | ⟨j, hj, rfl⟩
    · simp (disch := omega) only [h1, h, f_in_neg h, if_true, if_false, true_or, Option.bind_some, n_eq0]
    · by_cases h : j ≤ 40 <;> by_cases h2 : n < 8 <;>
        simp (disch := omega) only [h1, f_in_nI, n_lt0, n_le, n_lt, n_eq, false_or, if_pos, if_neg, t39 hs, r39_1 hs, t40 hs, l40 hs, hn, Option.bind_some, List.mem_singleton, n_eq0, n_nat, n_zin, nI_add, zM_PM, zLn_PM, zTg_PM, zR_PM, if_true, if_false, and_self]
theorem s_wanted {st : zS} (h : Inv st) {N : Nat} (hN : 3000 ≤ N) (a1 : Int32) : ∃ (r : Int32) (st1 st2 : zS), (f_X11_wanted st 0 a1 = some (st1, r)) ∧ (f_X12_wanted st1 39 a1 = some (st2, r)) ∧ Sh st1 ∧ Inv st2 := by
  have hs := h.1
  obtain ⟨⟨q1, q2⟩, q3, q4⟩ := h.2.1.2.2.2.2.2.2.2.2.1
  rw [x_wanted hs (q3.trans q1) q2]
  by_cases h1 : a1 = -1
  · rw [if_pos h1]
    refine ⟨_, _, _, rfl, ?_, hs.pm _ _ _, inv_zero13 h⟩
    rw [m_wanted (hs.pm _ _ _) (n := K st 40 4) (by simp (disch := omega) only [zM_PM, if_neg]; exact q1) q2, if_pos h1]
  · rw [if_neg h1]
    by_cases hr : a1 < 0 ∨ nI 40 < a1
    · rw [if_pos hr]
      exact ⟨_, _, _, rfl, by rw [m_wanted hs q1 q2, if_neg h1, if_pos hr], hs, h⟩
    · rw [if_neg hr]
      by_cases hf : K st 40 4 < 8
      · rw [if_pos hf]
        refine ⟨_, _, _, rfl, ?_, (hs.pm _ _ _).pm _ _ _, inv_push13 h rfl hf a1 (upto_of (by omega) hr)⟩
        rw [m_wanted ((hs.pm _ _ _).pm _ _ _) (n := K st 40 4) (by simp (disch := omega) only [zM_PM, if_neg]; exact q1) q2, if_neg h1, if_neg hr, if_pos hf]
      · rw [if_neg hf]
        exact ⟨_, _, _, rfl, by rw [m_wanted hs q1 q2, if_neg h1, if_neg hr, if_neg hf], hs, h⟩
/-! tear -/
theorem s_tear {st : zS} (h : Inv st) {N : Nat} (hN : 3000 ≤ N) : ∃ (r : Int32) (st1 st2 : zS), (f_X11_tear st 0 = some (st1, r)) ∧ (f_X12_tear st1 39 = some (st2, r)) ∧ Sh st1 ∧ Inv st2 := by
  have hs := h.1
  obtain ⟨-, q3, -⟩ := h.2.1.2.2.2.2.2.1
  have hs2 : Sh (zPM st 7 1 (nI 0)) := hs.pm _ _ _
  have hs3 : Sh (zPM (zPM st 7 1 (nI 0)) 11 1 (nI 0)) := hs2.pm _ _ _
  have hs4 : Sh (zPM (zPM (zPM (zPM st 7 1 (nI 0)) 11 1 (nI 0)) 1 6 (nI 0)) 1 7 (nI 0)) := (hs3.pm _ _ _).pm _ _ _
  refine ⟨zM st 40 8, _, _, ?_, ?_, hs4, inv_tear h⟩
  · unfold f_X11_tear
    simp (disch := omega) only [t0 hs, r0_0 hs, t1 hs, r1_5 hs, t7 hs, f_size (ns7 hs), f_clear (ns7 hs), t0 hs2, r0_0 hs2, t1 hs2, r1_9 hs2, t11 hs2, f_clear (ns11 hs2), t0 hs3, r0_0 hs3, t1 hs3, List.mem_singleton, Option.bind_some, if_true]
    rw [show zM st 7 1 = zM st 40 8 from q3]
  · unfold f_X12_tear
    simp (disch := omega) only [t39 hs4, r39_1 hs4, t40 hs4, l40 hs4, List.mem_singleton, Option.bind_some, if_true, n_zin, n_nat, if_pos, if_neg, zl, zLn_PM, zM_PM]
    simp (disch := omega) only [if_pos, l40 hs]
