theorem lg_same (x : Int64) : lg_cmp x x = 0 := by
  unfold lg_cmp
  rw [if_neg (by simp [Int64.lt_iff_toInt_lt]), if_pos rfl]
theorem p_end {L i : Nat} (hL : L ≤ 3072) (hi : i ≤ L) (hc : ¬ nI L - nI 6 < nI i) : i + 6 ≤ L := by
  by_cases h : 6 ≤ L
  · rw [pk_sub h, n_lt (by omega) (by omega)] at hc
    omega
  · have h1 : nI L - nI 6 < 0 := pk_sneg (by omega) (by omega)
    exact absurd (by rw [m_gt h1 (by omega)]; trivial) hc
set_option maxHeartbeats 4000000 in
set_option maxRecDepth 100000 in
theorem p_loop {N L : Nat} (hN : 3000 ≤ N) (hL : L ≤ 3072) (xs : Nat → Int32) : ∀ (n i : Nat) (st : zS), Inv st → i ≤ L → L + 6 < i + 6 * n + 6 → f_L_law_18 N xs L n st 0 39 (nI i) = some 1 := by
  intro n
  induction n with
  | zero => intro i st h hi hn; exact absurd hn (by omega)
  | succ n ih =>
    intro i st h hi hn
    have hs := h.1
    unfold f_L_law_18
    by_cases hc : nI L - nI 6 < nI i
    · rw [if_pos hc]
    rw [if_neg hc]
    have hi6 : i + 6 ≤ L := p_end hL hi hc
    have z0 : zin (nI i) L := by rw [n_zin (by omega)]; omega
    rw [if_pos z0]
    have z1 : zin (nI i + nI 1) L := by rw [nI_add, n_zin (by omega)]; omega
    have z2 : zin (nI i + nI 2) L := by rw [nI_add, n_zin (by omega)]; omega
    have z3 : zin (nI i + nI 3) L := by rw [nI_add, n_zin (by omega)]; omega
    have z4 : zin (nI i + nI 4) L := by rw [nI_add, n_zin (by omega)]; omega
    have z5 : zin (nI i + nI 5) L := by rw [nI_add, n_zin (by omega)]; omega
    have hnx : ∀ st2 : zS, Inv st2 → f_L_law_1208 N xs L (f_L_law_18 N xs L n) st2 0 39 (nI i) = some 1 := by
      intro st2 h2
      unfold f_L_law_1208
      rw [nI_add]
      exact ih (i + 6) st2 h2 (by omega) (by omega)
    clear ih
    by_cases k0 : xs (nI i).toNatClampNeg &&& nI 63 = nI 0
    · rw [if_pos k0]
      obtain ⟨r, st1, st2, e1, e2, hs1, h2⟩ := s_feed h hN (xs (nI i + nI 1).toNatClampNeg)
      simp only [if_pos z0, if_pos z1, if_pos z2, if_pos z3, if_pos z4, if_pos z5, t0 hs, t39 hs1, List.mem_singleton, if_true, zb, Option.bind_some, e1, e2, lg_same]
      exact hnx _ h2
    rw [if_neg k0]
    clear k0
    by_cases k1 : xs (nI i).toNatClampNeg &&& nI 63 = nI 1
    · rw [if_pos k1]
      obtain ⟨r, st1, st2, e1, e2, hs1, h2⟩ := s_school h hN 
      simp only [if_pos z0, if_pos z1, if_pos z2, if_pos z3, if_pos z4, if_pos z5, t0 hs, t39 hs1, List.mem_singleton, if_true, zb, Option.bind_some, e1, e2, lg_same]
      exact hnx _ h2
    rw [if_neg k1]
    clear k1
    by_cases k2 : xs (nI i).toNatClampNeg &&& nI 63 = nI 2
    · rw [if_pos k2]
      obtain ⟨r, st1, st2, e1, e2, hs1, h2⟩ := s_way h hN (xs (nI i + nI 1).toNatClampNeg) (xs (nI i + nI 2).toNatClampNeg) (xs (nI i + nI 3).toNatClampNeg)
      simp only [if_pos z0, if_pos z1, if_pos z2, if_pos z3, if_pos z4, if_pos z5, t0 hs, t39 hs1, List.mem_singleton, if_true, zb, Option.bind_some, e1, e2, lg_same]
      exact hnx _ h2
    rw [if_neg k2]
    clear k2
    by_cases k3 : xs (nI i).toNatClampNeg &&& nI 63 = nI 3
    · rw [if_pos k3]
      obtain ⟨r, st1, st2, e1, e2, hs1, h2⟩ := s_of h hN (xs (nI i + nI 1).toNatClampNeg) (xs (nI i + nI 2).toNatClampNeg)
      obtain ⟨e1, rfl⟩ := e1
      obtain ⟨e2, rfl⟩ := e2
      simp only [if_pos z0, if_pos z1, if_pos z2, if_pos z3, if_pos z4, if_pos z5, t0 hs, t39 hs1, List.mem_singleton, if_true, zb, Option.bind_some, e1, e2, lg_same]
      exact hnx _ h2
    rw [if_neg k3]
    clear k3
    by_cases k4 : xs (nI i).toNatClampNeg &&& nI 63 = nI 4
    · rw [if_pos k4]
      obtain ⟨r, st1, st2, e1, e2, hs1, h2⟩ := s_row h hN (xs (nI i + nI 1).toNatClampNeg) (xs (nI i + nI 2).toNatClampNeg) (xs (nI i + nI 3).toNatClampNeg)
      simp only [if_pos z0, if_pos z1, if_pos z2, if_pos z3, if_pos z4, if_pos z5, t0 hs, t39 hs1, List.mem_singleton, if_true, zb, Option.bind_some, e1, e2, lg_same]
      exact hnx _ h2
    rw [if_neg k4]
    clear k4
    by_cases k5 : xs (nI i).toNatClampNeg &&& nI 63 = nI 5
    · rw [if_pos k5]
      obtain ⟨r, st1, st2, e1, e2, hs1, h2⟩ := s_write h hN (xs (nI i + nI 1).toNatClampNeg) (xs (nI i + nI 2).toNatClampNeg)
      simp only [if_pos z0, if_pos z1, if_pos z2, if_pos z3, if_pos z4, if_pos z5, t0 hs, t39 hs1, List.mem_singleton, if_true, zb, Option.bind_some, e1, e2, lg_same]
      exact hnx _ h2
    rw [if_neg k5]
    clear k5
    by_cases k6 : xs (nI i).toNatClampNeg &&& nI 63 = nI 6
    · rw [if_pos k6]
      obtain ⟨r, st1, st2, e1, e2, hs1, h2⟩ := s_tear h hN 
      simp only [if_pos z0, if_pos z1, if_pos z2, if_pos z3, if_pos z4, if_pos z5, t0 hs, t39 hs1, List.mem_singleton, if_true, zb, Option.bind_some, e1, e2, lg_same]
      exact hnx _ h2
    rw [if_neg k6]
    clear k6
    by_cases k7 : xs (nI i).toNatClampNeg &&& nI 63 = nI 7
    · rw [if_pos k7]
      obtain ⟨r, st1, st2, e1, e2, hs1, h2⟩ := s_line h hN (xs (nI i + nI 1).toNatClampNeg) (xs (nI i + nI 2).toNatClampNeg)
      obtain ⟨e1, rfl⟩ := e1
      simp only [if_pos z0, if_pos z1, if_pos z2, if_pos z3, if_pos z4, if_pos z5, t0 hs, t39 hs1, List.mem_singleton, if_true, zb, Option.bind_some, e1, e2, lg_same]
      exact hnx _ h2
    rw [if_neg k7]
    clear k7
    by_cases k8 : xs (nI i).toNatClampNeg &&& nI 63 = nI 8
    · rw [if_pos k8]
      obtain ⟨r, st1, st2, e1, e2, hs1, h2⟩ := s_told h hN (xs (nI i + nI 1).toNatClampNeg)
      obtain ⟨e1, rfl⟩ := e1
      simp only [if_pos z0, if_pos z1, if_pos z2, if_pos z3, if_pos z4, if_pos z5, t0 hs, t39 hs1, List.mem_singleton, if_true, zb, Option.bind_some, e1, e2, lg_same]
      exact hnx _ h2
    rw [if_neg k8]
    clear k8
    by_cases k9 : xs (nI i).toNatClampNeg &&& nI 63 = nI 9
    · rw [if_pos k9]
      obtain ⟨r, st1, st2, e1, e2, hs1, h2⟩ := s_cost h hN (xs (nI i + nI 1).toNatClampNeg) (xs (nI i + nI 2).toNatClampNeg) (xs (nI i + nI 3).toNatClampNeg)
      obtain ⟨e1, rfl⟩ := e1
      obtain ⟨e2, rfl⟩ := e2
      simp only [if_pos z0, if_pos z1, if_pos z2, if_pos z3, if_pos z4, if_pos z5, t0 hs, t39 hs1, List.mem_singleton, if_true, zb, Option.bind_some, e1, e2, lg_same]
      exact hnx _ h2
    rw [if_neg k9]
    clear k9
    by_cases k10 : xs (nI i).toNatClampNeg &&& nI 63 = nI 10
    · rw [if_pos k10]
      obtain ⟨r, st1, st2, e1, e2, hs1, h2⟩ := s_looks h hN (xs (nI i + nI 1).toNatClampNeg)
      simp only [if_pos z0, if_pos z1, if_pos z2, if_pos z3, if_pos z4, if_pos z5, t0 hs, t39 hs1, List.mem_singleton, if_true, zb, Option.bind_some, e1, e2, lg_same]
      exact hnx _ h2
    rw [if_neg k10]
    clear k10
    by_cases k11 : xs (nI i).toNatClampNeg &&& nI 63 = nI 11
    · rw [if_pos k11]
      obtain ⟨r, st1, st2, e1, e2, hs1, h2⟩ := s_safe h hN (xs (nI i + nI 1).toNatClampNeg)
      obtain ⟨e1, rfl⟩ := e1
      simp only [if_pos z0, if_pos z1, if_pos z2, if_pos z3, if_pos z4, if_pos z5, t0 hs, t39 hs1, List.mem_singleton, if_true, zb, Option.bind_some, e1, e2, lg_same]
      exact hnx _ h2
    rw [if_neg k11]
    clear k11
    by_cases k12 : xs (nI i).toNatClampNeg &&& nI 63 = nI 12
    · rw [if_pos k12]
      obtain ⟨r, st1, st2, e1, e2, hs1, h2⟩ := s_again h hN (xs (nI i + nI 1).toNatClampNeg)
      obtain ⟨e1, rfl⟩ := e1
      simp only [if_pos z0, if_pos z1, if_pos z2, if_pos z3, if_pos z4, if_pos z5, t0 hs, t39 hs1, List.mem_singleton, if_true, zb, Option.bind_some, e1, e2, lg_same]
      exact hnx _ h2
    rw [if_neg k12]
    clear k12
    by_cases k13 : xs (nI i).toNatClampNeg &&& nI 63 = nI 13
    · rw [if_pos k13]
      obtain ⟨r, st1, st2, e1, e2, hs1, h2⟩ := s_twice h hN (xs (nI i + nI 1).toNatClampNeg) (xs (nI i + nI 2).toNatClampNeg)
      obtain ⟨e1, rfl⟩ := e1
      simp only [if_pos z0, if_pos z1, if_pos z2, if_pos z3, if_pos z4, if_pos z5, t0 hs, t39 hs1, List.mem_singleton, if_true, zb, Option.bind_some, e1, e2, lg_same]
      exact hnx _ h2
    rw [if_neg k13]
    clear k13
    by_cases k14 : xs (nI i).toNatClampNeg &&& nI 63 = nI 14
    · rw [if_pos k14]
      obtain ⟨r, st1, st2, e1, e2, hs1, h2⟩ := s_quick h hN (xs (nI i + nI 1).toNatClampNeg) (xs (nI i + nI 2).toNatClampNeg) (xs (nI i + nI 3).toNatClampNeg)
      obtain ⟨e1, rfl⟩ := e1
      obtain ⟨e2, rfl⟩ := e2
      simp only [if_pos z0, if_pos z1, if_pos z2, if_pos z3, if_pos z4, if_pos z5, t0 hs, t39 hs1, List.mem_singleton, if_true, zb, Option.bind_some, e1, e2, lg_same]
      exact hnx _ h2
    rw [if_neg k14]
    clear k14
    by_cases k15 : xs (nI i).toNatClampNeg &&& nI 63 = nI 15
    · rw [if_pos k15]
      obtain ⟨r, st1, st2, e1, e2, hs1, h2⟩ := s_change h hN (xs (nI i + nI 1).toNatClampNeg) (xs (nI i + nI 2).toNatClampNeg) (xs (nI i + nI 3).toNatClampNeg)
      obtain ⟨e1, rfl⟩ := e1
      simp only [if_pos z0, if_pos z1, if_pos z2, if_pos z3, if_pos z4, if_pos z5, t0 hs, t39 hs1, List.mem_singleton, if_true, zb, Option.bind_some, e1, e2, lg_same]
      exact hnx _ h2
    rw [if_neg k15]
    clear k15
    by_cases k16 : xs (nI i).toNatClampNeg &&& nI 63 = nI 16
    · rw [if_pos k16]
      obtain ⟨r, st1, st2, e1, e2, hs1, h2⟩ := s_rests h hN (xs (nI i + nI 1).toNatClampNeg) (xs (nI i + nI 2).toNatClampNeg) (xs (nI i + nI 3).toNatClampNeg) (xs (nI i + nI 4).toNatClampNeg)
      obtain ⟨e1, rfl⟩ := e1
      obtain ⟨e2, rfl⟩ := e2
      simp only [if_pos z0, if_pos z1, if_pos z2, if_pos z3, if_pos z4, if_pos z5, t0 hs, t39 hs1, List.mem_singleton, if_true, zb, Option.bind_some, e1, e2, lg_same]
      exact hnx _ h2
    rw [if_neg k16]
    clear k16
    by_cases k17 : xs (nI i).toNatClampNeg &&& nI 63 = nI 17
    · rw [if_pos k17]
      obtain ⟨r, st1, st2, e1, e2, hs1, h2⟩ := s_mend h hN (xs (nI i + nI 1).toNatClampNeg)
      obtain ⟨e1, rfl⟩ := e1
      simp only [if_pos z0, if_pos z1, if_pos z2, if_pos z3, if_pos z4, if_pos z5, t0 hs, t39 hs1, List.mem_singleton, if_true, zb, Option.bind_some, e1, e2, lg_same]
      exact hnx _ h2
    rw [if_neg k17]
    clear k17
    by_cases k18 : xs (nI i).toNatClampNeg &&& nI 63 = nI 18
    · rw [if_pos k18]
      obtain ⟨r, st1, st2, e1, e2, hs1, h2⟩ := s_where h hN (xs (nI i + nI 1).toNatClampNeg)
      obtain ⟨e1, rfl⟩ := e1
      simp only [if_pos z0, if_pos z1, if_pos z2, if_pos z3, if_pos z4, if_pos z5, t0 hs, t39 hs1, List.mem_singleton, if_true, zb, Option.bind_some, e1, e2, lg_same]
      exact hnx _ h2
    rw [if_neg k18]
    clear k18
    by_cases k19 : xs (nI i).toNatClampNeg &&& nI 63 = nI 19
    · rw [if_pos k19]
      obtain ⟨r, st1, st2, e1, e2, hs1, h2⟩ := s_left h hN 
      obtain ⟨e1, rfl⟩ := e1
      simp only [if_pos z0, if_pos z1, if_pos z2, if_pos z3, if_pos z4, if_pos z5, t0 hs, t39 hs1, List.mem_singleton, if_true, zb, Option.bind_some, e1, e2, lg_same]
      exact hnx _ h2
    rw [if_neg k19]
    clear k19
    by_cases k20 : xs (nI i).toNatClampNeg &&& nI 63 = nI 20
    · rw [if_pos k20]
      obtain ⟨r, st1, st2, e1, e2, hs1, h2⟩ := s_longest h hN (xs (nI i + nI 1).toNatClampNeg)
      obtain ⟨e1, rfl⟩ := e1
      obtain ⟨e2, rfl⟩ := e2
      simp only [if_pos z0, if_pos z1, if_pos z2, if_pos z3, if_pos z4, if_pos z5, t0 hs, t39 hs1, List.mem_singleton, if_true, zb, Option.bind_some, e1, e2, lg_same]
      exact hnx _ h2
    rw [if_neg k20]
    clear k20
    by_cases k21 : xs (nI i).toNatClampNeg &&& nI 63 = nI 21
    · rw [if_pos k21]
      obtain ⟨r, st1, st2, e1, e2, hs1, h2⟩ := s_show h hN (xs (nI i + nI 1).toNatClampNeg)
      simp only [if_pos z0, if_pos z1, if_pos z2, if_pos z3, if_pos z4, if_pos z5, t0 hs, t39 hs1, List.mem_singleton, if_true, zb, Option.bind_some, e1, e2, lg_same]
      exact hnx _ h2
    rw [if_neg k21]
    clear k21
    by_cases k22 : xs (nI i).toNatClampNeg &&& nI 63 = nI 22
    · rw [if_pos k22]
      obtain ⟨r, st1, st2, e1, e2, hs1, h2⟩ := s_whose h hN 
      obtain ⟨e1, rfl⟩ := e1
      simp only [if_pos z0, if_pos z1, if_pos z2, if_pos z3, if_pos z4, if_pos z5, t0 hs, t39 hs1, List.mem_singleton, if_true, zb, Option.bind_some, e1, e2, lg_same]
      exact hnx _ h2
    rw [if_neg k22]
    clear k22
    by_cases k23 : xs (nI i).toNatClampNeg &&& nI 63 = nI 23
    · rw [if_pos k23]
      obtain ⟨r, st1, st2, e1, e2, hs1, h2⟩ := s_wanted h hN (xs (nI i + nI 1).toNatClampNeg)
      simp only [if_pos z0, if_pos z1, if_pos z2, if_pos z3, if_pos z4, if_pos z5, t0 hs, t39 hs1, List.mem_singleton, if_true, zb, Option.bind_some, e1, e2, lg_same]
      exact hnx _ h2
    rw [if_neg k23]
    clear k23
    by_cases k24 : xs (nI i).toNatClampNeg &&& nI 63 = nI 24
    · rw [if_pos k24]
      obtain ⟨r, st1, st2, e1, e2, hs1, h2⟩ := s_stock h hN (xs (nI i + nI 1).toNatClampNeg) (xs (nI i + nI 2).toNatClampNeg)
      obtain ⟨e1, rfl⟩ := e1
      simp only [if_pos z0, if_pos z1, if_pos z2, if_pos z3, if_pos z4, if_pos z5, t0 hs, t39 hs1, List.mem_singleton, if_true, zb, Option.bind_some, e1, e2, lg_same]
      exact hnx _ h2
    rw [if_neg k24]
    clear k24
    by_cases k25 : xs (nI i).toNatClampNeg &&& nI 63 = nI 25
    · rw [if_pos k25]
      obtain ⟨r, st1, st2, e1, e2, hs1, h2⟩ := s_mean h hN (xs (nI i + nI 1).toNatClampNeg) (xs (nI i + nI 2).toNatClampNeg) (xs (nI i + nI 3).toNatClampNeg)
      obtain ⟨e1, rfl⟩ := e1
      simp only [if_pos z0, if_pos z1, if_pos z2, if_pos z3, if_pos z4, if_pos z5, t0 hs, t39 hs1, List.mem_singleton, if_true, zb, Option.bind_some, e1, e2, lg_same]
      exact hnx _ h2
    rw [if_neg k25]
    clear k25
    by_cases k26 : xs (nI i).toNatClampNeg &&& nI 63 = nI 26
    · rw [if_pos k26]
      obtain ⟨r, st1, st2, e1, e2, hs1, h2⟩ := s_table h hN (xs (nI i + nI 1).toNatClampNeg) (xs (nI i + nI 2).toNatClampNeg) (xs (nI i + nI 3).toNatClampNeg) (xs (nI i + nI 4).toNatClampNeg) (xs (nI i + nI 5).toNatClampNeg)
      obtain ⟨e1, rfl⟩ := e1
      obtain ⟨e2, rfl⟩ := e2
      simp only [if_pos z0, if_pos z1, if_pos z2, if_pos z3, if_pos z4, if_pos z5, t0 hs, t39 hs1, List.mem_singleton, if_true, zb, Option.bind_some, e1, e2, lg_same]
      exact hnx _ h2
    rw [if_neg k26]
    clear k26
    by_cases k27 : xs (nI i).toNatClampNeg &&& nI 63 = nI 27
    · rw [if_pos k27]
      obtain ⟨r, st1, st2, e1, e2, hs1, h2⟩ := s_book h hN (xs (nI i + nI 1).toNatClampNeg) (xs (nI i + nI 2).toNatClampNeg)
      simp only [if_pos z0, if_pos z1, if_pos z2, if_pos z3, if_pos z4, if_pos z5, t0 hs, t39 hs1, List.mem_singleton, if_true, zb, Option.bind_some, e1, e2, lg_same]
      exact hnx _ h2
    rw [if_neg k27]
    clear k27
    by_cases k28 : xs (nI i).toNatClampNeg &&& nI 63 = nI 28
    · rw [if_pos k28]
      obtain ⟨r, st1, st2, e1, e2, hs1, h2⟩ := s_looked h hN 
      obtain ⟨e1, rfl⟩ := e1
      obtain ⟨e2, rfl⟩ := e2
      simp only [if_pos z0, if_pos z1, if_pos z2, if_pos z3, if_pos z4, if_pos z5, t0 hs, t39 hs1, List.mem_singleton, if_true, zb, Option.bind_some, e1, e2, lg_same]
      exact hnx _ h2
    rw [if_neg k28]
    clear k28
    by_cases k29 : xs (nI i).toNatClampNeg &&& nI 63 = nI 29
    · rw [if_pos k29]
      obtain ⟨r, st1, st2, e1, e2, hs1, h2⟩ := s_act h hN (xs (nI i + nI 1).toNatClampNeg) (xs (nI i + nI 2).toNatClampNeg) (xs (nI i + nI 3).toNatClampNeg)
      simp only [if_pos z0, if_pos z1, if_pos z2, if_pos z3, if_pos z4, if_pos z5, t0 hs, t39 hs1, List.mem_singleton, if_true, zb, Option.bind_some, e1, e2, lg_same]
      exact hnx _ h2
    rw [if_neg k29]
    clear k29
    by_cases k30 : xs (nI i).toNatClampNeg &&& nI 63 = nI 30
    · rw [if_pos k30]
      obtain ⟨r, st1, st2, e1, e2, hs1, h2⟩ := s_trace h hN (xs (nI i + nI 1).toNatClampNeg)
      obtain ⟨e1, rfl⟩ := e1
      obtain ⟨e2, rfl⟩ := e2
      simp only [if_pos z0, if_pos z1, if_pos z2, if_pos z3, if_pos z4, if_pos z5, t0 hs, t39 hs1, List.mem_singleton, if_true, zb, Option.bind_some, e1, e2, lg_same]
      exact hnx _ h2
    rw [if_neg k30]
    clear k30
    by_cases k31 : xs (nI i).toNatClampNeg &&& nI 63 = nI 31
    · rw [if_pos k31]
      obtain ⟨r, st1, st2, e1, e2, hs1, h2⟩ := s_as h hN (xs (nI i + nI 1).toNatClampNeg) (xs (nI i + nI 2).toNatClampNeg)
      obtain ⟨e1, rfl⟩ := e1
      obtain ⟨e2, rfl⟩ := e2
      simp only [if_pos z0, if_pos z1, if_pos z2, if_pos z3, if_pos z4, if_pos z5, t0 hs, t39 hs1, List.mem_singleton, if_true, zb, Option.bind_some, e1, e2, lg_same]
      exact hnx _ h2
    rw [if_neg k31]
    clear k31
    by_cases k32 : xs (nI i).toNatClampNeg &&& nI 63 = nI 32
    · rw [if_pos k32]
      obtain ⟨r, st1, st2, e1, e2, hs1, h2⟩ := s_image h hN 
      simp only [if_pos z0, if_pos z1, if_pos z2, if_pos z3, if_pos z4, if_pos z5, t0 hs, t39 hs1, List.mem_singleton, if_true, zb, Option.bind_some, e1, e2, lg_same]
      exact hnx _ h2
    rw [if_neg k32]
    clear k32
    by_cases k33 : xs (nI i).toNatClampNeg &&& nI 63 = nI 33
    · rw [if_pos k33]
      obtain ⟨r, st1, st2, e1, e2, hs1, h2⟩ := s_undo h hN 
      simp only [if_pos z0, if_pos z1, if_pos z2, if_pos z3, if_pos z4, if_pos z5, t0 hs, t39 hs1, List.mem_singleton, if_true, zb, Option.bind_some, e1, e2, lg_same]
      exact hnx _ h2
    rw [if_neg k33]
    clear k33
    by_cases k34 : xs (nI i).toNatClampNeg &&& nI 63 = nI 34
    · rw [if_pos k34]
      obtain ⟨r, st1, st2, e1, e2, hs1, h2⟩ := s_count h hN (xs (nI i + nI 1).toNatClampNeg)
      obtain ⟨e1, rfl⟩ := e1
      obtain ⟨e2, rfl⟩ := e2
      simp only [if_pos z0, if_pos z1, if_pos z2, if_pos z3, if_pos z4, if_pos z5, t0 hs, t39 hs1, List.mem_singleton, if_true, zb, Option.bind_some, e1, e2, lg_same]
      exact hnx _ h2
    rw [if_neg k34]
    clear k34
    exact hnx _ h
theorem pure_law (xs : Nat → Int32) (L : Nat) (hL : L ≤ 3072) : ∃ N n0 : Nat, n0 ≤ 600 ∧ f_L_law N xs L n0 zS0 = some 1 := by
  refine ⟨3000, 600, by omega, ?_⟩
  unfold f_L_law
  rw [e1I, Option.bind_some, e2I, Option.bind_some]
  have q : f_L_law_18 3000 xs L 600 stI 0 39 (nI 0) = some 1 := p_loop (by omega) hL xs 600 0 stI inv0 (by omega) (by omega)
  rw [n1I]
  exact q
