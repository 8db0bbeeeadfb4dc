def f_X4_init (st : zS) (o : Nat) (a1 : Int32) (a2 : Int32) (a3 : Int32) (a4 : Int32) : Option zS := (if zTg st o ∈ zLs then (some (zPM (zPM (zPM (zPM st o 0 a1) o 1 a2) o 2 a3) o 3 a4)) else none)
set_option maxHeartbeats 1000000 in
set_option maxRecDepth 100000 in
theorem c_X4_init (l : Launch) (G : zG) (st : zS) (o : Nat) (a1 : Int32) (a2 : Int32) (a3 : Int32) (a4 : Int32) {st' : zS} (h : f_X4_init st o a1 a2 a3 a4 = some st') : zMet l G yX4_init cX4_init 5 none 1 0 0 [.ref (G.2.2.2 + o), .int a1, .int a2, .int a3, .int a4] st none st' := by
  refine zMet_of (by decide +kernel) ?_
  intro p e s m args below meth c X
  obtain ⟨hx, hb, hr, hml, hown, hq, hlk, hK, -, hin, hW, hS⟩ := X
  have hown : s.vm.findClass RX4 = some m.cls := hown
  refine z_ent (by exact Nat.le_of_ble_eq_true rfl) (fun ls hl => ?_)
  have hl : lv_has ls 5 [(0, .ref (G.2.2.2 + o)), (1, .int a1), (2, .int a2), (3, .int a3), (4, .int a4)] := hl
  unfold f_X4_init at h
  refine lv_aload_n hx hb dX4_init_0 rfl (lv_at hl 0 rfl) ?_
  refine W.objInit hx hb hown (hq _ (zi zm374)) (hq _ (zi zm10)) (hq _ (zi zm11)) rfl (by rw [hml]; exact hl.1) rfl dX4_init_1 (Nat.le_of_ble_eq_true rfl) (Nat.le_of_ble_eq_true rfl) ?_
  refine W.eq (g2 := F0 m 4 ls []) rfl ?_
  refine lv_aload_n hx hb dX4_init_4 rfl (lv_at hl 0 rfl) ?_
  refine lv_iload_n hx hb dX4_init_5 rfl (lv_at hl 1 rfl) ?_
  obtain ⟨t1, h⟩ := zc_at h
  refine z_pI hx hb hq hown hK hW hS fp_RX4_7 t1 (fun _ => hin) rfl rfl dX4_init_6 (fun H locs hW hS => ?_)
  refine lv_aload_n hx hb dX4_init_9 rfl (lv_at hl 0 rfl) ?_
  refine lv_iload_n hx hb dX4_init_10 rfl (lv_at hl 2 rfl) ?_
  refine z_pI hx hb hq hown hK hW hS fp_RX4_13 t1 (fun _ => hin) rfl rfl dX4_init_11 (fun H locs hW hS => ?_)
  refine lv_aload_n hx hb dX4_init_14 rfl (lv_at hl 0 rfl) ?_
  refine lv_iload_n hx hb dX4_init_15 rfl (lv_at hl 3 rfl) ?_
  refine z_pI hx hb hq hown hK hW hS fp_RX4_16 t1 (fun _ => hin) rfl rfl dX4_init_16 (fun H locs hW hS => ?_)
  refine lv_aload_n hx hb dX4_init_19 rfl (lv_at hl 0 rfl) ?_
  refine lv_iload hx hb dX4_init_20 (lv_at hl 4 rfl) ?_
  refine z_pI hx hb hq hown hK hW hS fp_RX4_19 t1 (fun _ => hin) rfl rfl dX4_init_22 (fun H locs hW hS => ?_)
  obtain rfl := Option.some.inj h
  exact z_rv hx hb hr hlk hW hS (Nat.le_of_ble_eq_true rfl) (Nat.le_of_ble_eq_true rfl) dX4_init_25
def f_X0_init (st : zS) (o : Nat) (a1 : Int32) (a2 : Int32) (a3 : Int32) (a4 : Int32) : Option zS := (Option.bind (f_X4_init st o a1 a2 a3 a4) (fun st2 => (some st2)))
set_option maxHeartbeats 1000000 in
set_option maxRecDepth 100000 in
theorem c_X0_init (l : Launch) (G : zG) (st : zS) (o : Nat) (a1 : Int32) (a2 : Int32) (a3 : Int32) (a4 : Int32) {st' : zS} (h : f_X0_init st o a1 a2 a3 a4 = some st') : zMet l G yX0_init cX0_init 5 none 2 0 0 [.ref (G.2.2.2 + o), .int a1, .int a2, .int a3, .int a4] st none st' := by
  refine zMet_of (by decide +kernel) ?_
  intro p e s m args below meth c X
  obtain ⟨hx, hb, hr, hml, hown, hq, hlk, hK, -, hin, hW, hS⟩ := X
  have hown : s.vm.findClass RX0 = some m.cls := hown
  refine z_ent (by exact Nat.le_of_ble_eq_true rfl) (fun ls hl => ?_)
  have hl : lv_has ls 5 [(0, .ref (G.2.2.2 + o)), (1, .int a1), (2, .int a2), (3, .int a3), (4, .int a4)] := hl
  unfold f_X0_init at h
  refine lv_aload_n hx hb dX0_init_0 rfl (lv_at hl 0 rfl) ?_
  refine lv_iload_n hx hb dX0_init_1 rfl (lv_at hl 1 rfl) ?_
  refine lv_iload_n hx hb dX0_init_2 rfl (lv_at hl 2 rfl) ?_
  refine lv_iload_n hx hb dX0_init_3 rfl (lv_at hl 3 rfl) ?_
  refine lv_iload hx hb dX0_init_4 (lv_at hl 4 rfl) ?_
  obtain ⟨st2, c1, h⟩ := zd_at h
  refine z_cI hx hb hq hml hown hK hW hS [.int a1, .int a2, .int a3, .int a4] [] (c_X4_init l G st o a1 a2 a3 a4 c1) (zi zm382) (zi zm372) (zi zm367) (zi zm373) cal_X4_init rfl rfl hl.1 rfl (Nat.le_of_ble_eq_true rfl) (zR_ok (by omega) (by decide)) ⟨(Nat.le_of_ble_eq_true rfl), (Nat.le_of_ble_eq_true rfl)⟩ dX0_init_6 (fun H locs hW hS => ?_)
  refine W.eq (g2 := F0 m 9 ls []) rfl ?_
  obtain rfl := Option.some.inj h
  exact z_rv hx hb hr hlk hW hS (Nat.le_of_ble_eq_true rfl) (Nat.le_of_ble_eq_true rfl) dX0_init_9
def f_X0_seconds (st : zS) (o : Nat) (a1 : Int32) : Option Int32 := (if zTg st o ∈ [10, 11] then (some ((a1 * ((zM st o 3) / (nI 2))) + (zM st o 2))) else none)
set_option maxHeartbeats 1000000 in
set_option maxRecDepth 100000 in
theorem c_X0_seconds (l : Launch) (G : zG) (st : zS) (o : Nat) (a1 : Int32) {r : Int32} (h : f_X0_seconds st o a1 = some r) : zMet l G yX0_seconds cX0_seconds 2 (some .int) 0 0 0 [.ref (G.2.2.2 + o), .int a1] st (some (.int r)) st := by
  refine zMet_of (by decide +kernel) ?_
  intro p e s m args below meth c X
  obtain ⟨hx, hb, hr, hml, hown, hq, hlk, hK, -, hin, hW, hS⟩ := X
  have hown : s.vm.findClass RX0 = some m.cls := hown
  refine z_ent (by exact Nat.le_of_ble_eq_true rfl) (fun ls hl => ?_)
  have hl : lv_has ls 2 [(0, .ref (G.2.2.2 + o)), (1, .int a1)] := hl
  unfold f_X0_seconds at h
  refine lv_iload_n hx hb dX0_seconds_0 rfl (lv_at hl 1 rfl) ?_
  refine lv_aload_n hx hb dX0_seconds_1 rfl (lv_at hl 0 rfl) ?_
  obtain ⟨t1, h⟩ := zc_at h
  refine z_gI hx hb hq hown hK hW fs_RX0_7 t1 dX0_seconds_2 ?_
  refine lv_iconst (v := (nI 2)) hx hb dX0_seconds_5 (by decide) ?_
  refine lv_idiv hx hb dX0_seconds_6 (by decide) ?_
  refine lv_imul hx hb dX0_seconds_7 ?_
  refine lv_aload_n hx hb dX0_seconds_8 rfl (lv_at hl 0 rfl) ?_
  refine z_gI hx hb hq hown hK hW fs_RX0_13 t1 dX0_seconds_9 ?_
  refine lv_iadd hx hb dX0_seconds_12 ?_
  obtain rfl := Option.some.inj h
  exact z_ri hx hb hr hlk hW hS (Nat.le_of_ble_eq_true rfl) (Nat.le_of_ble_eq_true rfl) dX0_seconds_13
def f_X8_ran (st : zS) (o : Nat) (a1 : Int32) : Option zS := (if zTg st o ∈ [18] then (if (zM st o 1) < 0 then (some (zPM st o 1 ((zM st o 1) + (nI 1)))) else (Option.bind (zR st o 0) (fun b2 => (if zTg st b2 ∈ [1] then (if (nI (zLn st b2)) ≤ (zM st o 1) then (some (zPM st o 1 ((zM st o 1) + (nI 1)))) else (if zin (zM st o 1) (zLn st b2) then (some (zPM (zPM st b2 ((zM st o 1)).toNatClampNeg a1) o 1 ((zM (zPM st b2 ((zM st o 1)).toNatClampNeg a1) o 1) + (nI 1)))) else none)) else none)))) else none)
set_option maxHeartbeats 1000000 in
set_option maxRecDepth 100000 in
theorem c_X8_ran (l : Launch) (G : zG) (st : zS) (o : Nat) (a1 : Int32) {st' : zS} (h : f_X8_ran st o a1 = some st') : zMet l G yX8_ran cX8_ran 2 none 0 0 0 [.ref (G.2.2.2 + o), .int a1] st none st' := by
  refine zMet_of (by decide +kernel) ?_
  intro p e s m args below meth c X
  obtain ⟨hx, hb, hr, hml, hown, hq, hlk, hK, -, hin, hW, hS⟩ := X
  have hown : s.vm.findClass RX8 = some m.cls := hown
  refine z_ent (by exact Nat.le_of_ble_eq_true rfl) (fun ls hl => ?_)
  have hl : lv_has ls 2 [(0, .ref (G.2.2.2 + o)), (1, .int a1)] := hl
  unfold f_X8_ran at h
  refine lv_aload_n hx hb dX8_ran_0 rfl (lv_at hl 0 rfl) ?_
  obtain ⟨t1, h⟩ := zc_at h
  refine z_gI hx hb hq hown hK hW fs_RX8_15 t1 dX8_ran_1 ?_
  refine z_br (lv_if_lt (tgt := 29) hx hb dX8_ran_4 (by decide)) h (fun h => ?_) (fun h => ?_)
  · refine lv_aload_n hx hb dX8_ran_29 rfl (lv_at hl 0 rfl) ?_
    refine lv_dup hx hb dX8_ran_30 rfl ?_
    refine z_gI hx hb hq hown hK hW fs_RX8_15 t1 dX8_ran_31 ?_
    refine lv_iconst (v := (nI 1)) hx hb dX8_ran_34 (by decide) ?_
    refine lv_iadd hx hb dX8_ran_35 ?_
    refine z_pI hx hb hq hown hK hW hS fp_RX8_15 t1 (fun h => by cases h) rfl rfl dX8_ran_36 (fun H locs hW hS => ?_)
    obtain rfl := Option.some.inj h
    exact z_rv hx hb hr hlk hW hS (Nat.le_of_ble_eq_true rfl) (Nat.le_of_ble_eq_true rfl) dX8_ran_39
  · refine lv_aload_n hx hb dX8_ran_7 rfl (lv_at hl 0 rfl) ?_
    refine z_gI hx hb hq hown hK hW fs_RX8_15 t1 dX8_ran_8 ?_
    refine lv_aload_n hx hb dX8_ran_11 rfl (lv_at hl 0 rfl) ?_
    obtain ⟨b2, hb2, h⟩ := zd_at h
    refine z_gR hx hb hq hown hK hW fs_RX8_9 t1 hb2 dX8_ran_12 ?_
    obtain ⟨t3, h⟩ := zc_at h
    refine z_len hx hb hK hW (Or.inl (List.mem_singleton.mp t3)) dX8_ran_15 ?_
    refine z_br (lv_icmp_ge (tgt := 29) hx hb dX8_ran_16 (by decide)) h (fun h => ?_) (fun h => ?_)
    · refine lv_aload_n hx hb dX8_ran_29 rfl (lv_at hl 0 rfl) ?_
      refine lv_dup hx hb dX8_ran_30 rfl ?_
      refine z_gI hx hb hq hown hK hW fs_RX8_15 t1 dX8_ran_31 ?_
      refine lv_iconst (v := (nI 1)) hx hb dX8_ran_34 (by decide) ?_
      refine lv_iadd hx hb dX8_ran_35 ?_
      refine z_pI hx hb hq hown hK hW hS fp_RX8_15 t1 (fun h => by cases h) rfl rfl dX8_ran_36 (fun H locs hW hS => ?_)
      obtain rfl := Option.some.inj h
      exact z_rv hx hb hr hlk hW hS (Nat.le_of_ble_eq_true rfl) (Nat.le_of_ble_eq_true rfl) dX8_ran_39
    · refine lv_aload_n hx hb dX8_ran_19 rfl (lv_at hl 0 rfl) ?_
      refine z_gR hx hb hq hown hK hW fs_RX8_9 t1 hb2 dX8_ran_20 ?_
      refine lv_aload_n hx hb dX8_ran_23 rfl (lv_at hl 0 rfl) ?_
      refine z_gI hx hb hq hown hK hW fs_RX8_15 t1 dX8_ran_24 ?_
      refine lv_iload_n hx hb dX8_ran_27 rfl (lv_at hl 1 rfl) ?_
      obtain ⟨t4, h⟩ := zc_at h
      refine z_asI hx hb hK hW hS (List.mem_singleton.mp t3) t4 dX8_ran_28 (fun H locs hW hS => ?_)
      refine lv_aload_n hx hb dX8_ran_29 rfl (lv_at hl 0 rfl) ?_
      refine lv_dup hx hb dX8_ran_30 rfl ?_
      refine z_gI hx hb hq hown hK hW fs_RX8_15 t1 dX8_ran_31 ?_
      refine lv_iconst (v := (nI 1)) hx hb dX8_ran_34 (by decide) ?_
      refine lv_iadd hx hb dX8_ran_35 ?_
      refine z_pI hx hb hq hown hK hW hS fp_RX8_15 t1 (fun h => by cases h) rfl rfl dX8_ran_36 (fun H locs hW hS => ?_)
      obtain rfl := Option.some.inj h
      exact z_rv hx hb hr hlk hW hS (Nat.le_of_ble_eq_true rfl) (Nat.le_of_ble_eq_true rfl) dX8_ran_39
def f_X4_writes (st : zS) (o : Nat) (a1 : Int32) (a2 : Nat) : Option (zS × Int32) := (if zTg st a2 ∈ [18] then (Option.bind (f_X8_ran st a2 (nI 1)) (fun st3 => (if zTg st3 o ∈ zLs then (some (st3, (a1 + (zM st3 o 1)))) else none))) else none)
set_option maxHeartbeats 1000000 in
set_option maxRecDepth 100000 in
theorem c_X4_writes (l : Launch) (G : zG) (st : zS) (o : Nat) (a1 : Int32) (a2 : Nat) {st' : zS} {r : Int32} (h : f_X4_writes st o a1 a2 = some (st', r)) : zMet l G yX4_writes cX4_writes 3 (some .int) 1 0 0 [.ref (G.2.2.2 + o), .int a1, .ref (G.2.2.2 + a2)] st (some (.int r)) st' := by
  refine zMet_of (by decide +kernel) ?_
  intro p e s m args below meth c X
  obtain ⟨hx, hb, hr, hml, hown, hq, hlk, hK, -, hin, hW, hS⟩ := X
  have hown : s.vm.findClass RX4 = some m.cls := hown
  refine z_ent (by exact Nat.le_of_ble_eq_true rfl) (fun ls hl => ?_)
  have hl : lv_has ls 3 [(0, .ref (G.2.2.2 + o)), (1, .int a1), (2, .ref (G.2.2.2 + a2))] := hl
  unfold f_X4_writes at h
  refine lv_aload_n hx hb dX4_writes_0 rfl (lv_at hl 2 rfl) ?_
  refine lv_iconst (v := (nI 1)) hx hb dX4_writes_1 (by decide) ?_
  obtain ⟨t1, h⟩ := zc_at h
  obtain ⟨st3, c2, h⟩ := zd_at h
  refine z_cV hx hb hq hml hown hK hW hS 8 [.int ((nI 1))] [] rfl (List.mem_singleton.mp t1) (c_X8_ran l G st a2 (nI 1) c2) (zi zm975) (zi zm976) (zi zm977) (zi zm19) (zi zm978) cal_X8_ran rfl rfl hl.1 rfl (Nat.le_of_ble_eq_true rfl) (zR_ok (by omega) (by decide)) ⟨(Nat.le_of_ble_eq_true rfl), (Nat.le_of_ble_eq_true rfl)⟩ dX4_writes_2 (fun H locs hW hS => ?_)
  refine W.eq (g2 := F0 m 5 ls []) rfl ?_
  refine lv_iload_n hx hb dX4_writes_5 rfl (lv_at hl 1 rfl) ?_
  refine lv_aload_n hx hb dX4_writes_6 rfl (lv_at hl 0 rfl) ?_
  obtain ⟨t4, h⟩ := zc_at h
  refine z_gI hx hb hq hown hK hW fs_RX4_13 t4 dX4_writes_7 ?_
  refine lv_iadd hx hb dX4_writes_10 ?_
  obtain ⟨rfl, rfl⟩ := Prod.mk.inj (Option.some.inj h)
  exact z_ri hx hb hr hlk hW hS (Nat.le_of_ble_eq_true rfl) (Nat.le_of_ble_eq_true rfl) dX4_writes_11
def f_X1_writes (st : zS) (o : Nat) (a1 : Int32) (a2 : Nat) : Option (zS × Int32) := (if zTg st a2 ∈ [18] then (Option.bind (f_X8_ran st a2 (nI 51)) (fun st3 => (if zTg st3 o ∈ zLs then (zb (f_X4_writes st3 o a1 a2) (fun st6 r7 => (if zTg st6 o ∈ [11] then (some (st6, (r7 ^^^ (zM st6 o 1)))) else none))) else none))) else none)
set_option maxHeartbeats 1000000 in
set_option maxRecDepth 100000 in
theorem c_X1_writes (l : Launch) (G : zG) (st : zS) (o : Nat) (a1 : Int32) (a2 : Nat) {st' : zS} {r : Int32} (h : f_X1_writes st o a1 a2 = some (st', r)) : zMet l G yX1_writes cX1_writes 3 (some .int) 2 0 0 [.ref (G.2.2.2 + o), .int a1, .ref (G.2.2.2 + a2)] st (some (.int r)) st' := by
  refine zMet_of (by decide +kernel) ?_
  intro p e s m args below meth c X
  obtain ⟨hx, hb, hr, hml, hown, hq, hlk, hK, -, hin, hW, hS⟩ := X
  have hown : s.vm.findClass RX1 = some m.cls := hown
  refine z_ent (by exact Nat.le_of_ble_eq_true rfl) (fun ls hl => ?_)
  have hl : lv_has ls 3 [(0, .ref (G.2.2.2 + o)), (1, .int a1), (2, .ref (G.2.2.2 + a2))] := hl
  unfold f_X1_writes at h
  refine lv_aload_n hx hb dX1_writes_0 rfl (lv_at hl 2 rfl) ?_
  refine lv_bipush (v := (nI 51)) hx hb dX1_writes_1 (by decide) ?_
  obtain ⟨t1, h⟩ := zc_at h
  obtain ⟨st3, c2, h⟩ := zd_at h
  refine z_cV hx hb hq hml hown hK hW hS 8 [.int ((nI 51))] [] rfl (List.mem_singleton.mp t1) (c_X8_ran l G st a2 (nI 51) c2) (zi zm985) (zi zm976) (zi zm977) (zi zm19) (zi zm978) cal_X8_ran rfl rfl hl.1 rfl (Nat.le_of_ble_eq_true rfl) (zR_ok (by omega) (by decide)) ⟨(Nat.le_of_ble_eq_true rfl), (Nat.le_of_ble_eq_true rfl)⟩ dX1_writes_3 (fun H locs hW hS => ?_)
  refine W.eq (g2 := F0 m 6 ls []) rfl ?_
  refine lv_aload_n hx hb dX1_writes_6 rfl (lv_at hl 0 rfl) ?_
  refine lv_iload_n hx hb dX1_writes_7 rfl (lv_at hl 1 rfl) ?_
  refine lv_aload_n hx hb dX1_writes_8 rfl (lv_at hl 2 rfl) ?_
  obtain ⟨t4, h⟩ := zc_at h
  obtain ⟨st6, r7, c5, h⟩ := zb_at h
  refine z_cSX (x := ⟨"TwoPens$Column", "writes", "(ILTwoPens$Trace;)I"⟩) (owner := "TwoPens$Line") hx hb hq hml hown hK hW hS [.int a1, .ref (G.2.2.2 + a2)] [] t4 (c_X4_writes l G st3 o a1 a2 c5) zx1 zx2 (zi zm499) (zi zm1005) (zi zm973) (zi zm367) (zi zm974) cal_X4_writes (by decide) rfl hl.1 rfl (Nat.le_of_ble_eq_true rfl) (zR_ok (by omega) (by decide)) ⟨(Nat.le_of_ble_eq_true rfl), (Nat.le_of_ble_eq_true rfl)⟩ dX1_writes_9 (fun H locs hW hS => ?_)
  refine W.eq (g2 := F0 m 12 ls [.int r7]) rfl ?_
  refine lv_aload_n hx hb dX1_writes_12 rfl (lv_at hl 0 rfl) ?_
  obtain ⟨t8, h⟩ := zc_at h
  refine z_gI hx hb hq hown hK hW fs_RX1_21 t8 dX1_writes_13 ?_
  refine lv_ixor hx hb dX1_writes_16 ?_
  obtain ⟨rfl, rfl⟩ := Prod.mk.inj (Option.some.inj h)
  exact z_ri hx hb hr hlk hW hS (Nat.le_of_ble_eq_true rfl) (Nat.le_of_ble_eq_true rfl) dX1_writes_17
def f_X10_writes (st : zS) (o : Nat) (a1 : Int32) (a2 : Nat) : Option (zS × Int32) := (if zTg st a2 ∈ [18] then (Option.bind (f_X8_ran st a2 (nI 11)) (fun st3 => (if zTg st3 o ∈ zLs then (zb (f_X4_writes st3 o (a1 * (nI 3)) a2) (fun st6 r7 => (some (st6, r7)))) else none))) else none)
set_option maxHeartbeats 1000000 in
set_option maxRecDepth 100000 in
theorem c_X10_writes (l : Launch) (G : zG) (st : zS) (o : Nat) (a1 : Int32) (a2 : Nat) {st' : zS} {r : Int32} (h : f_X10_writes st o a1 a2 = some (st', r)) : zMet l G yX10_writes cX10_writes 3 (some .int) 2 0 0 [.ref (G.2.2.2 + o), .int a1, .ref (G.2.2.2 + a2)] st (some (.int r)) st' := by
  refine zMet_of (by decide +kernel) ?_
  intro p e s m args below meth c X
  obtain ⟨hx, hb, hr, hml, hown, hq, hlk, hK, -, hin, hW, hS⟩ := X
  have hown : s.vm.findClass RX10 = some m.cls := hown
  refine z_ent (by exact Nat.le_of_ble_eq_true rfl) (fun ls hl => ?_)
  have hl : lv_has ls 3 [(0, .ref (G.2.2.2 + o)), (1, .int a1), (2, .ref (G.2.2.2 + a2))] := hl
  unfold f_X10_writes at h
  refine lv_aload_n hx hb dX10_writes_0 rfl (lv_at hl 2 rfl) ?_
  refine lv_bipush (v := (nI 11)) hx hb dX10_writes_1 (by decide) ?_
  obtain ⟨t1, h⟩ := zc_at h
  obtain ⟨st3, c2, h⟩ := zd_at h
  refine z_cV hx hb hq hml hown hK hW hS 8 [.int ((nI 11))] [] rfl (List.mem_singleton.mp t1) (c_X8_ran l G st a2 (nI 11) c2) (zi zm993) (zi zm976) (zi zm977) (zi zm19) (zi zm978) cal_X8_ran rfl rfl hl.1 rfl (Nat.le_of_ble_eq_true rfl) (zR_ok (by omega) (by decide)) ⟨(Nat.le_of_ble_eq_true rfl), (Nat.le_of_ble_eq_true rfl)⟩ dX10_writes_3 (fun H locs hW hS => ?_)
  refine W.eq (g2 := F0 m 6 ls []) rfl ?_
  refine lv_aload_n hx hb dX10_writes_6 rfl (lv_at hl 0 rfl) ?_
  refine lv_iload_n hx hb dX10_writes_7 rfl (lv_at hl 1 rfl) ?_
  refine lv_iconst (v := (nI 3)) hx hb dX10_writes_8 (by decide) ?_
  refine lv_imul hx hb dX10_writes_9 ?_
  refine lv_aload_n hx hb dX10_writes_10 rfl (lv_at hl 2 rfl) ?_
  obtain ⟨t4, h⟩ := zc_at h
  obtain ⟨st6, r7, c5, h⟩ := zb_at h
  refine z_cSU hx hb hq hml hown hK hW hS [.int ((a1 * (nI 3))), .ref (G.2.2.2 + a2)] [] t4 (c_X4_writes l G st3 o (a1 * (nI 3)) a2 c5) (zi zm994) (zi zm971) (zi zm995) (zi zm973) (zi zm367) (zi zm974) cal_X4_writes (by decide) rfl hl.1 rfl (Nat.le_of_ble_eq_true rfl) (zR_ok (by omega) (by decide)) ⟨(Nat.le_of_ble_eq_true rfl), (Nat.le_of_ble_eq_true rfl)⟩ dX10_writes_11 (fun H locs hW hS => ?_)
  refine W.eq (g2 := F0 m 14 ls [.int r7]) rfl ?_
  obtain ⟨rfl, rfl⟩ := Prod.mk.inj (Option.some.inj h)
  exact z_ri hx hb hr hlk hW hS (Nat.le_of_ble_eq_true rfl) (Nat.le_of_ble_eq_true rfl) dX10_writes_14
def fv_Line_writes (st : zS) (o : Nat) (b0 : Int32) (b1 : Nat) : Option (zS × Int32) := (if zTg st o ∈ [10] then f_X4_writes st o b0 b1 else (if zTg st o ∈ [11] then f_X1_writes st o b0 b1 else (if zTg st o ∈ [13] then f_X4_writes st o b0 b1 else (if zTg st o ∈ [14] then f_X4_writes st o b0 b1 else (if zTg st o ∈ [17] then f_X4_writes st o b0 b1 else (if zTg st o ∈ [19] then f_X10_writes st o b0 b1 else (if zTg st o ∈ [20] then f_X10_writes st o b0 b1 else none)))))))
def f_X4_shows (st : zS) (o : Nat) (a1 : Int32) (a2 : Nat) : Option (zS × Int32) := (if zTg st a2 ∈ [18] then (Option.bind (f_X8_ran st a2 (nI 2)) (fun st3 => (zb (fv_Line_writes st3 o a1 a2) (fun st5 r6 => (if zTg st5 o ∈ zLs then (some (st5, (r6 - (zM st5 o 2)))) else none))))) else none)
theorem zv_RX4_28 {p : Program} {l : Launch} {e : Env} {R : Room} {s : State} {m : MethodId} {args : Array Value} {below : List Frame} {meth : Method} {c : Code} {H : Heap} {locs : List Loc} {cells slots : Nat} {Q : State → Prop} {cc : ByteArray} {pc nL : Nat} {ls : Array Slot} {G : zG} {st0 : List Value}
    (hx : p.tables.exec = Jvm.exec) (hb : c.code = cc) (hq : ∀ w ∈ zT, w.before args s = true) (hml : c.maxLocals = nL) (hown : s.vm.findClass RX4 = some m.cls) (hK : zKn G s) (st : zS) (hW : zWd G st H) (hS : va_S (zA G) s.heap H locs) (rest : List Value) (o : Nat) (b0 : Int32) (b1 : Nat) (st' : zS) (r : Int32)
    (h : fv_Line_writes st o b0 b1 = some (st', r)) (hsz : ls.size = nL) (hst : st0 = ([.int b0, .ref (G.2.2.2 + b1)] : List Value).reverse ++ .ref (G.2.2.2 + o) :: rest) (hcat : (rest.map fun v => v.category).sum ≤ 8) (hR : 2 + 1 ≤ R.frames ∧ 60 + 60 * 2 ≤ R.locals) (hf : cells ≤ R.cells ∧ slots ≤ R.slots) (hdg : decode cc pc = .ok (.invokevirtual 28, 3))
    (kk : ∀ (H1 : Heap) (locs1 : List Loc), zWd G st' H1 → va_S (zA G) s.heap H1 locs1 → W p l e R s m args below meth c H1 locs1 cells slots Q (F0 m (pc + 3) ls ((.int r) :: rest))) : W p l e R s m args below meth c H locs cells slots Q (F0 m pc ls st0) := by
  unfold fv_Line_writes at h
  rcases zi_at h with ⟨t, h⟩ | ⟨-, h⟩
  · exact z_cU (x := ⟨"TwoPens$Line", "writes", "(ILTwoPens$Trace;)I"⟩) (owner := "TwoPens$Line") hx hb hq hml hown hK hW hS 0 [.int b0, .ref (G.2.2.2 + b1)] rest rfl (List.mem_singleton.mp t) (c_X4_writes l G st o b0 b1 h) (zi zm1008) (zi zm971) (zi zm972) (zi zm973) (zi zm367) (zi zm974) (zi zm973) (zi zm974) cal_X4_writes rfl hsz hst hcat (zR_le hR (by omega) (by decide)) hf hdg kk
  rcases zi_at h with ⟨t, h⟩ | ⟨-, h⟩
  · exact z_cU (x := ⟨"TwoPens$Line", "writes", "(ILTwoPens$Trace;)I"⟩) (owner := "TwoPens$Line") hx hb hq hml hown hK hW hS 1 [.int b0, .ref (G.2.2.2 + b1)] rest rfl (List.mem_singleton.mp t) (c_X1_writes l G st o b0 b1 h) (zi zm1008) (zi zm971) (zi zm980) (zi zm981) (zi zm361) (zi zm982) (zi zm973) (zi zm974) cal_X4_writes rfl hsz hst hcat (zR_le hR (by omega) (by decide)) hf hdg kk
  rcases zi_at h with ⟨t, h⟩ | ⟨-, h⟩
  · exact z_cU (x := ⟨"TwoPens$Line", "writes", "(ILTwoPens$Trace;)I"⟩) (owner := "TwoPens$Line") hx hb hq hml hown hK hW hS 3 [.int b0, .ref (G.2.2.2 + b1)] rest rfl (List.mem_singleton.mp t) (c_X4_writes l G st o b0 b1 h) (zi zm1008) (zi zm971) (zi zm986) (zi zm973) (zi zm367) (zi zm974) (zi zm973) (zi zm974) cal_X4_writes rfl hsz hst hcat (zR_le hR (by omega) (by decide)) hf hdg kk
  rcases zi_at h with ⟨t, h⟩ | ⟨-, h⟩
  · exact z_cU (x := ⟨"TwoPens$Line", "writes", "(ILTwoPens$Trace;)I"⟩) (owner := "TwoPens$Line") hx hb hq hml hown hK hW hS 4 [.int b0, .ref (G.2.2.2 + b1)] rest rfl (List.mem_singleton.mp t) (c_X4_writes l G st o b0 b1 h) (zi zm1008) (zi zm971) (zi zm988) (zi zm973) (zi zm367) (zi zm974) (zi zm973) (zi zm974) cal_X4_writes rfl hsz hst hcat (zR_le hR (by omega) (by decide)) hf hdg kk
  rcases zi_at h with ⟨t, h⟩ | ⟨-, h⟩
  · exact z_cU (x := ⟨"TwoPens$Line", "writes", "(ILTwoPens$Trace;)I"⟩) (owner := "TwoPens$Line") hx hb hq hml hown hK hW hS 7 [.int b0, .ref (G.2.2.2 + b1)] rest rfl (List.mem_singleton.mp t) (c_X4_writes l G st o b0 b1 h) (zi zm1008) (zi zm971) (zi zm989) (zi zm973) (zi zm367) (zi zm974) (zi zm973) (zi zm974) cal_X4_writes rfl hsz hst hcat (zR_le hR (by omega) (by decide)) hf hdg kk
  rcases zi_at h with ⟨t, h⟩ | ⟨-, h⟩
  · exact z_cU (x := ⟨"TwoPens$Line", "writes", "(ILTwoPens$Trace;)I"⟩) (owner := "TwoPens$Line") hx hb hq hml hown hK hW hS 9 [.int b0, .ref (G.2.2.2 + b1)] rest rfl (List.mem_singleton.mp t) (c_X10_writes l G st o b0 b1 h) (zi zm1008) (zi zm971) (zi zm990) (zi zm991) (zi zm349) (zi zm992) (zi zm973) (zi zm974) cal_X4_writes rfl hsz hst hcat (zR_le hR (by omega) (by decide)) hf hdg kk
  rcases zi_at h with ⟨t, h⟩ | ⟨-, h⟩
  · exact z_cU (x := ⟨"TwoPens$Line", "writes", "(ILTwoPens$Trace;)I"⟩) (owner := "TwoPens$Line") hx hb hq hml hown hK hW hS 10 [.int b0, .ref (G.2.2.2 + b1)] rest rfl (List.mem_singleton.mp t) (c_X10_writes l G st o b0 b1 h) (zi zm1008) (zi zm971) (zi zm996) (zi zm991) (zi zm349) (zi zm992) (zi zm973) (zi zm974) cal_X4_writes rfl hsz hst hcat (zR_le hR (by omega) (by decide)) hf hdg kk
  cases h
set_option maxHeartbeats 1000000 in
set_option maxRecDepth 100000 in
theorem c_X4_shows (l : Launch) (G : zG) (st : zS) (o : Nat) (a1 : Int32) (a2 : Nat) {st' : zS} {r : Int32} (h : f_X4_shows st o a1 a2 = some (st', r)) : zMet l G yX4_shows cX4_shows 3 (some .int) 3 0 0 [.ref (G.2.2.2 + o), .int a1, .ref (G.2.2.2 + a2)] st (some (.int r)) st' := by
  refine zMet_of (by decide +kernel) ?_
  intro p e s m args below meth c X
  obtain ⟨hx, hb, hr, hml, hown, hq, hlk, hK, -, hin, hW, hS⟩ := X
  have hown : s.vm.findClass RX4 = some m.cls := hown
  refine z_ent (by exact Nat.le_of_ble_eq_true rfl) (fun ls hl => ?_)
  have hl : lv_has ls 3 [(0, .ref (G.2.2.2 + o)), (1, .int a1), (2, .ref (G.2.2.2 + a2))] := hl
  unfold f_X4_shows at h
  refine lv_aload_n hx hb dX4_shows_0 rfl (lv_at hl 2 rfl) ?_
  refine lv_iconst (v := (nI 2)) hx hb dX4_shows_1 (by decide) ?_
  obtain ⟨t1, h⟩ := zc_at h
  obtain ⟨st3, c2, h⟩ := zd_at h
  refine z_cV hx hb hq hml hown hK hW hS 8 [.int ((nI 2))] [] rfl (List.mem_singleton.mp t1) (c_X8_ran l G st a2 (nI 2) c2) (zi zm975) (zi zm976) (zi zm977) (zi zm19) (zi zm978) cal_X8_ran rfl rfl hl.1 rfl (Nat.le_of_ble_eq_true rfl) (zR_ok (by omega) (by decide)) ⟨(Nat.le_of_ble_eq_true rfl), (Nat.le_of_ble_eq_true rfl)⟩ dX4_shows_2 (fun H locs hW hS => ?_)
  refine W.eq (g2 := F0 m 5 ls []) rfl ?_
  refine lv_aload_n hx hb dX4_shows_5 rfl (lv_at hl 0 rfl) ?_
  refine lv_iload_n hx hb dX4_shows_6 rfl (lv_at hl 1 rfl) ?_
  refine lv_aload_n hx hb dX4_shows_7 rfl (lv_at hl 2 rfl) ?_
  obtain ⟨st5, r6, c4, h⟩ := zb_at h
  refine zv_RX4_28 hx hb hq hml hown hK st3 hW hS [] o a1 a2 _ _ c4 hl.1 rfl (Nat.le_of_ble_eq_true rfl) (zR_v (by omega)) ⟨(Nat.le_of_ble_eq_true rfl), (Nat.le_of_ble_eq_true rfl)⟩ dX4_shows_8 (fun H locs hW hS => ?_)
  refine W.eq (g2 := F0 m 11 ls [.int r6]) rfl ?_
  refine lv_aload_n hx hb dX4_shows_11 rfl (lv_at hl 0 rfl) ?_
  obtain ⟨t7, h⟩ := zc_at h
  refine z_gI hx hb hq hown hK hW fs_RX4_16 t7 dX4_shows_12 ?_
  refine lv_isub hx hb dX4_shows_15 ?_
  obtain ⟨rfl, rfl⟩ := Prod.mk.inj (Option.some.inj h)
  exact z_ri hx hb hr hlk hW hS (Nat.le_of_ble_eq_true rfl) (Nat.le_of_ble_eq_true rfl) dX4_shows_16
def f_X0_shows (st : zS) (o : Nat) (a1 : Int32) (a2 : Nat) : Option (zS × Int32) := (if zTg st a2 ∈ [18] then (Option.bind (f_X8_ran st a2 (nI 21)) (fun st3 => (if zTg st3 o ∈ zLs then (zb (f_X4_shows st3 o a1 a2) (fun st6 r7 => (some (st6, (-r7))))) else none))) else none)
set_option maxHeartbeats 1000000 in
set_option maxRecDepth 100000 in
theorem c_X0_shows (l : Launch) (G : zG) (st : zS) (o : Nat) (a1 : Int32) (a2 : Nat) {st' : zS} {r : Int32} (h : f_X0_shows st o a1 a2 = some (st', r)) : zMet l G yX0_shows cX0_shows 3 (some .int) 4 0 0 [.ref (G.2.2.2 + o), .int a1, .ref (G.2.2.2 + a2)] st (some (.int r)) st' := by
  refine zMet_of (by decide +kernel) ?_
  intro p e s m args below meth c X
  obtain ⟨hx, hb, hr, hml, hown, hq, hlk, hK, -, hin, hW, hS⟩ := X
  have hown : s.vm.findClass RX0 = some m.cls := hown
  refine z_ent (by exact Nat.le_of_ble_eq_true rfl) (fun ls hl => ?_)
  have hl : lv_has ls 3 [(0, .ref (G.2.2.2 + o)), (1, .int a1), (2, .ref (G.2.2.2 + a2))] := hl
  unfold f_X0_shows at h
  refine lv_aload_n hx hb dX0_shows_0 rfl (lv_at hl 2 rfl) ?_
  refine lv_bipush (v := (nI 21)) hx hb dX0_shows_1 (by decide) ?_
  obtain ⟨t1, h⟩ := zc_at h
  obtain ⟨st3, c2, h⟩ := zd_at h
  refine z_cV hx hb hq hml hown hK hW hS 8 [.int ((nI 21))] [] rfl (List.mem_singleton.mp t1) (c_X8_ran l G st a2 (nI 21) c2) (zi zm1003) (zi zm976) (zi zm977) (zi zm19) (zi zm978) cal_X8_ran rfl rfl hl.1 rfl (Nat.le_of_ble_eq_true rfl) (zR_ok (by omega) (by decide)) ⟨(Nat.le_of_ble_eq_true rfl), (Nat.le_of_ble_eq_true rfl)⟩ dX0_shows_3 (fun H locs hW hS => ?_)
  refine W.eq (g2 := F0 m 6 ls []) rfl ?_
  refine lv_aload_n hx hb dX0_shows_6 rfl (lv_at hl 0 rfl) ?_
  refine lv_iload_n hx hb dX0_shows_7 rfl (lv_at hl 1 rfl) ?_
  refine lv_aload_n hx hb dX0_shows_8 rfl (lv_at hl 2 rfl) ?_
  obtain ⟨t4, h⟩ := zc_at h
  obtain ⟨st6, r7, c5, h⟩ := zb_at h
  refine z_cSU hx hb hq hml hown hK hW hS [.int a1, .ref (G.2.2.2 + a2)] [] t4 (c_X4_shows l G st3 o a1 a2 c5) (zi zm1004) (zi zm998) (zi zm1005) (zi zm999) (zi zm367) (zi zm1007) cal_X4_shows (by decide) rfl hl.1 rfl (Nat.le_of_ble_eq_true rfl) (zR_ok (by omega) (by decide)) ⟨(Nat.le_of_ble_eq_true rfl), (Nat.le_of_ble_eq_true rfl)⟩ dX0_shows_9 (fun H locs hW hS => ?_)
  refine W.eq (g2 := F0 m 12 ls [.int r7]) rfl ?_
  refine lv_ineg hx hb dX0_shows_12 ?_
  obtain ⟨rfl, rfl⟩ := Prod.mk.inj (Option.some.inj h)
  exact z_ri hx hb hr hlk hW hS (Nat.le_of_ble_eq_true rfl) (Nat.le_of_ble_eq_true rfl) dX0_shows_13
def f_X1_init (st : zS) (o : Nat) (a1 : Int32) (a2 : Int32) (a3 : Int32) : Option zS := (Option.bind (f_X0_init st o (nI 5) a1 a2 a3) (fun st2 => (some st2)))
set_option maxHeartbeats 1000000 in
set_option maxRecDepth 100000 in
theorem c_X1_init (l : Launch) (G : zG) (st : zS) (o : Nat) (a1 : Int32) (a2 : Int32) (a3 : Int32) {st' : zS} (h : f_X1_init st o a1 a2 a3 = some st') : zMet l G yX1_init cX1_init 4 none 3 0 0 [.ref (G.2.2.2 + o), .int a1, .int a2, .int a3] st none st' := by
  refine zMet_of (by decide +kernel) ?_
  intro p e s m args below meth c X
  obtain ⟨hx, hb, hr, hml, hown, hq, hlk, hK, -, hin, hW, hS⟩ := X
  have hown : s.vm.findClass RX1 = some m.cls := hown
  refine z_ent (by exact Nat.le_of_ble_eq_true rfl) (fun ls hl => ?_)
  have hl : lv_has ls 4 [(0, .ref (G.2.2.2 + o)), (1, .int a1), (2, .int a2), (3, .int a3)] := hl
  unfold f_X1_init at h
  refine lv_aload_n hx hb dX1_init_0 rfl (lv_at hl 0 rfl) ?_
  refine lv_iconst (v := (nI 5)) hx hb dX1_init_1 (by decide) ?_
  refine lv_iload_n hx hb dX1_init_2 rfl (lv_at hl 1 rfl) ?_
  refine lv_iload_n hx hb dX1_init_3 rfl (lv_at hl 2 rfl) ?_
  refine lv_iload_n hx hb dX1_init_4 rfl (lv_at hl 3 rfl) ?_
  obtain ⟨st2, c1, h⟩ := zd_at h
  refine z_cI hx hb hq hml hown hK hW hS [.int ((nI 5)), .int a1, .int a2, .int a3] [] (c_X0_init l G st o (nI 5) a1 a2 a3 c1) (zi zm394) (zi zm380) (zi zm352) (zi zm381) cal_X0_init rfl rfl hl.1 rfl (Nat.le_of_ble_eq_true rfl) (zR_ok (by omega) (by decide)) ⟨(Nat.le_of_ble_eq_true rfl), (Nat.le_of_ble_eq_true rfl)⟩ dX1_init_5 (fun H locs hW hS => ?_)
  refine W.eq (g2 := F0 m 8 ls []) rfl ?_
  obtain rfl := Option.some.inj h
  exact z_rv hx hb hr hlk hW hS (Nat.le_of_ble_eq_true rfl) (Nat.le_of_ble_eq_true rfl) dX1_init_8
def f_X1_seconds (st : zS) (o : Nat) (a1 : Int32) : Option Int32 := (if zTg st o ∈ zLs then (Option.bind (f_X0_seconds st o ((a1 + (nI 1)) / (nI 2))) (fun r3 => (some (r3 + (a1 / (nI 2)))))) else none)
set_option maxHeartbeats 1000000 in
set_option maxRecDepth 100000 in
theorem c_X1_seconds (l : Launch) (G : zG) (st : zS) (o : Nat) (a1 : Int32) {r : Int32} (h : f_X1_seconds st o a1 = some r) : zMet l G yX1_seconds cX1_seconds 2 (some .int) 1 0 0 [.ref (G.2.2.2 + o), .int a1] st (some (.int r)) st := by
  refine zMet_of (by decide +kernel) ?_
  intro p e s m args below meth c X
  obtain ⟨hx, hb, hr, hml, hown, hq, hlk, hK, -, hin, hW, hS⟩ := X
  have hown : s.vm.findClass RX1 = some m.cls := hown
  refine z_ent (by exact Nat.le_of_ble_eq_true rfl) (fun ls hl => ?_)
  have hl : lv_has ls 2 [(0, .ref (G.2.2.2 + o)), (1, .int a1)] := hl
  unfold f_X1_seconds at h
  refine lv_aload_n hx hb dX1_seconds_0 rfl (lv_at hl 0 rfl) ?_
  refine lv_iload_n hx hb dX1_seconds_1 rfl (lv_at hl 1 rfl) ?_
  refine lv_iconst (v := (nI 1)) hx hb dX1_seconds_2 (by decide) ?_
  refine lv_iadd hx hb dX1_seconds_3 ?_
  refine lv_iconst (v := (nI 2)) hx hb dX1_seconds_4 (by decide) ?_
  refine lv_idiv hx hb dX1_seconds_5 (by decide) ?_
  obtain ⟨t1, h⟩ := zc_at h
  obtain ⟨r3, c2, h⟩ := zd_at h
  refine z_cSU hx hb hq hml hown hK hW hS [.int (((a1 + (nI 1)) / (nI 2)))] [] t1 (c_X0_seconds l G st o ((a1 + (nI 1)) / (nI 2)) c2) (zi zm497) (zi zm498) (zi zm499) (zi zm487) (zi zm352) (zi zm488) cal_X0_seconds (by decide) rfl hl.1 rfl (Nat.le_of_ble_eq_true rfl) (zR_ok (by omega) (by decide)) ⟨(Nat.le_of_ble_eq_true rfl), (Nat.le_of_ble_eq_true rfl)⟩ dX1_seconds_6 (fun H locs hW hS => ?_)
  refine W.eq (g2 := F0 m 9 ls [.int r3]) rfl ?_
  refine lv_iload_n hx hb dX1_seconds_9 rfl (lv_at hl 1 rfl) ?_
  refine lv_iconst (v := (nI 2)) hx hb dX1_seconds_10 (by decide) ?_
  refine lv_idiv hx hb dX1_seconds_11 (by decide) ?_
  refine lv_iadd hx hb dX1_seconds_12 ?_
  obtain rfl := Option.some.inj h
  exact z_ri hx hb hr hlk hW hS (Nat.le_of_ble_eq_true rfl) (Nat.le_of_ble_eq_true rfl) dX1_seconds_13
def f_X6_init (st : zS) (o : Nat) : Option zS := (if zTg st o ∈ [16] then (if zTg (zNw (zPM (zPM st o 0 (nI 20)) o 1 (nI 3)) 1 100) o ∈ [16] then (some (zPR (zNw (zPM (zPM st o 0 (nI 20)) o 1 (nI 3)) 1 100) o 3 (some ((zPM (zPM st o 0 (nI 20)) o 1 (nI 3))).1))) else none) else none)
set_option maxHeartbeats 1000000 in
set_option maxRecDepth 100000 in
theorem c_X6_init (l : Launch) (G : zG) (st : zS) (o : Nat) {st' : zS} (h : f_X6_init st o = some st') : zMet l G yX6_init cX6_init 1 none 1 1 100 [.ref (G.2.2.2 + o)] st none st' := by
  refine zMet_of (by decide +kernel) ?_
  intro p e s m args below meth c X
  obtain ⟨hx, hb, hr, hml, hown, hq, hlk, hK, -, hin, hW, hS⟩ := X
  have hown : s.vm.findClass RX6 = some m.cls := hown
  refine z_ent (by exact Nat.le_of_ble_eq_true rfl) (fun ls hl => ?_)
  have hl : lv_has ls 1 [(0, .ref (G.2.2.2 + o))] := hl
  unfold f_X6_init at h
  refine lv_aload_n hx hb dX6_init_0 rfl (lv_at hl 0 rfl) ?_
  refine W.objInit hx hb hown (hq _ (zi zm42)) (hq _ (zi zm10)) (hq _ (zi zm11)) rfl (by rw [hml]; exact hl.1) rfl dX6_init_1 (Nat.le_of_ble_eq_true rfl) (Nat.le_of_ble_eq_true rfl) ?_
  refine W.eq (g2 := F0 m 4 ls []) rfl ?_
  refine lv_aload_n hx hb dX6_init_4 rfl (lv_at hl 0 rfl) ?_
  refine lv_bipush (v := (nI 20)) hx hb dX6_init_5 (by decide) ?_
  obtain ⟨t1, h⟩ := zc_at h
  refine z_pI hx hb hq hown hK hW hS fp_RX6_9 t1 (fun h => by cases h) rfl rfl dX6_init_7 (fun H locs hW hS => ?_)
  refine lv_aload_n hx hb dX6_init_10 rfl (lv_at hl 0 rfl) ?_
  refine lv_iconst (v := (nI 3)) hx hb dX6_init_11 (by decide) ?_
  refine z_pI hx hb hq hown hK hW hS fp_RX6_15 t1 (fun h => by cases h) rfl rfl dX6_init_12 (fun H locs hW hS => ?_)
  refine lv_aload_n hx hb dX6_init_15 rfl (lv_at hl 0 rfl) ?_
  refine lv_bipush (v := (nI 100)) hx hb dX6_init_16 (by decide) ?_
  refine z_nwI (N := 100) hx hb hq hK hW hS (zi zm45) (by decide) (by decide) (by decide) (Nat.le_of_ble_eq_true rfl) (Nat.le_of_ble_eq_true rfl) dX6_init_18 (fun H hW hS => ?_)
  obtain ⟨t2, h⟩ := zc_at h
  refine z_pR hx hb hq hown hK hW hS fp_RX6_18 t2 (fun _ => hin) (fun _ => rfl) (fun _ => rfl) dX6_init_20 (fun H locs hW hS => ?_)
  obtain rfl := Option.some.inj h
  exact z_rv hx hb hr hlk hW hS (Nat.le_of_ble_eq_true rfl) (Nat.le_of_ble_eq_true rfl) dX6_init_23
def f_X5_init (st : zS) (o : Nat) (a1 : Int32) : Option zS := (if ¬ (if (nI 0) < a1 then a1 else (nI 0)) < 0 ∧ ((if (nI 0) < a1 then a1 else (nI 0))).toNatClampNeg ≤ 100 then (if zTg (zNw st 1 ((if (nI 0) < a1 then a1 else (nI 0))).toNatClampNeg) o ∈ [15] then (some (zPR (zNw st 1 ((if (nI 0) < a1 then a1 else (nI 0))).toNatClampNeg) o 0 (some (st).1))) else none) else none)
set_option maxHeartbeats 1000000 in
set_option maxRecDepth 100000 in
theorem c_X5_init (l : Launch) (G : zG) (st : zS) (o : Nat) (a1 : Int32) {st' : zS} (h : f_X5_init st o a1 = some st') : zMet l G yX5_init cX5_init 2 none 1 1 100 [.ref (G.2.2.2 + o), .int a1] st none st' := by
  refine zMet_of (by decide +kernel) ?_
  intro p e s m args below meth c X
  obtain ⟨hx, hb, hr, hml, hown, hq, hlk, hK, -, hin, hW, hS⟩ := X
  have hown : s.vm.findClass RX5 = some m.cls := hown
  refine z_ent (by exact Nat.le_of_ble_eq_true rfl) (fun ls hl => ?_)
  have hl : lv_has ls 2 [(0, .ref (G.2.2.2 + o)), (1, .int a1)] := hl
  unfold f_X5_init at h
  refine lv_aload_n hx hb dX5_init_0 rfl (lv_at hl 0 rfl) ?_
  refine W.objInit hx hb hown (hq _ (zi zm50)) (hq _ (zi zm10)) (hq _ (zi zm11)) rfl (by rw [hml]; exact hl.1) rfl dX5_init_1 (Nat.le_of_ble_eq_true rfl) (Nat.le_of_ble_eq_true rfl) ?_
  refine W.eq (g2 := F0 m 4 ls []) rfl ?_
  refine lv_aload_n hx hb dX5_init_4 rfl (lv_at hl 0 rfl) ?_
  refine lv_iconst (v := (nI 0)) hx hb dX5_init_5 (by decide) ?_
  refine lv_iload_n hx hb dX5_init_6 rfl (lv_at hl 1 rfl) ?_
  refine va_mmax hx hb (hml.trans hl.1.symm) hown (hq _ (zi zm51)) (hq _ (zi zm52)) (hq _ (zi zm53)) (hq _ (zi zm54)) (Nat.le_of_ble_eq_true rfl) (by show _ ≤ 60 * _; exact (Nat.le_of_ble_eq_true rfl)) (Nat.le_of_ble_eq_true rfl) (Nat.le_of_ble_eq_true rfl) dX5_init_7 ?_
  obtain ⟨⟨t1a, t1b⟩, h⟩ := zc_at h
  refine z_nwI (N := ((if (nI 0) < a1 then a1 else (nI 0))).toNatClampNeg) hx hb hq hK hW hS (zi zm45) t1a rfl (Nat.le_trans t1b (by decide)) (Nat.le_of_ble_eq_true rfl) (Nat.le_trans (Nat.add_le_add_left t1b _) (Nat.le_of_ble_eq_true rfl)) dX5_init_10 (fun H hW hS => ?_)
  refine W.widen (k := 1) (n := 100) (Nat.le_refl _) (Nat.add_le_add_left t1b _) ?_
  obtain ⟨t2, h⟩ := zc_at h
  refine z_pR hx hb hq hown hK hW hS fp_RX5_13 t2 (fun _ => hin) (fun _ => rfl) (fun _ => rfl) dX5_init_12 (fun H locs hW hS => ?_)
  obtain rfl := Option.some.inj h
  exact z_rv hx hb hr hlk hW hS (Nat.le_of_ble_eq_true rfl) (Nat.le_of_ble_eq_true rfl) dX5_init_15
def f_X2_init (st : zS) (o : Nat) : Option zS := (if zTg (zNw st 3 6) o ∈ [12] then (Option.bind (f_X6_init (zNw (zPR (zNw st 3 6) o 0 (some (st).1)) 16 0) (((zPR (zNw st 3 6) o 0 (some (st).1))).1)) (fun st3 => (if zTg st3 o ∈ [12] then (Option.bind (f_X5_init (zNw (zPR st3 o 2 (some ((zPR (zNw st 3 6) o 0 (some (st).1))).1)) 15 0) (((zPR st3 o 2 (some ((zPR (zNw st 3 6) o 0 (some (st).1))).1))).1) (nI 100)) (fun st6 => (if zTg st6 o ∈ [12] then (Option.bind (f_X5_init (zNw (zPR st6 o 4 (some ((zPR st3 o 2 (some ((zPR (zNw st 3 6) o 0 (some (st).1))).1))).1)) 15 0) (((zPR st6 o 4 (some ((zPR st3 o 2 (some ((zPR (zNw st 3 6) o 0 (some (st).1))).1))).1))).1) (nI 40)) (fun st9 => (if zTg st9 o ∈ [12] then (Option.bind (f_X5_init (zNw (zPR st9 o 5 (some ((zPR st6 o 4 (some ((zPR st3 o 2 (some ((zPR (zNw st 3 6) o 0 (some (st).1))).1))).1))).1)) 15 0) (((zPR st9 o 5 (some ((zPR st6 o 4 (some ((zPR st3 o 2 (some ((zPR (zNw st 3 6) o 0 (some (st).1))).1))).1))).1))).1) (nI 5)) (fun st12 => (if zTg st12 o ∈ [12] then (Option.bind (f_X5_init (zNw (zPR st12 o 8 (some ((zPR st9 o 5 (some ((zPR st6 o 4 (some ((zPR st3 o 2 (some ((zPR (zNw st 3 6) o 0 (some (st).1))).1))).1))).1))).1)) 15 0) (((zPR st12 o 8 (some ((zPR st9 o 5 (some ((zPR st6 o 4 (some ((zPR st3 o 2 (some ((zPR (zNw st 3 6) o 0 (some (st).1))).1))).1))).1))).1))).1) (nI 6)) (fun st15 => (if zTg st15 o ∈ [12] then (Option.bind (f_X5_init (zNw (zPR st15 o 9 (some ((zPR st12 o 8 (some ((zPR st9 o 5 (some ((zPR st6 o 4 (some ((zPR st3 o 2 (some ((zPR (zNw st 3 6) o 0 (some (st).1))).1))).1))).1))).1))).1)) 15 0) (((zPR st15 o 9 (some ((zPR st12 o 8 (some ((zPR st9 o 5 (some ((zPR st6 o 4 (some ((zPR st3 o 2 (some ((zPR (zNw st 3 6) o 0 (some (st).1))).1))).1))).1))).1))).1))).1) (nI 8)) (fun st18 => (if zTg st18 o ∈ [12] then (Option.bind (f_X5_init (zNw (zPR st18 o 10 (some ((zPR st15 o 9 (some ((zPR st12 o 8 (some ((zPR st9 o 5 (some ((zPR st6 o 4 (some ((zPR st3 o 2 (some ((zPR (zNw st 3 6) o 0 (some (st).1))).1))).1))).1))).1))).1))).1)) 15 0) (((zPR st18 o 10 (some ((zPR st15 o 9 (some ((zPR st12 o 8 (some ((zPR st9 o 5 (some ((zPR st6 o 4 (some ((zPR st3 o 2 (some ((zPR (zNw st 3 6) o 0 (some (st).1))).1))).1))).1))).1))).1))).1))).1) (nI 8)) (fun st21 => (if zTg st21 o ∈ [12] then (Option.bind (f_X5_init (zNw (zPR st21 o 11 (some ((zPR st18 o 10 (some ((zPR st15 o 9 (some ((zPR st12 o 8 (some ((zPR st9 o 5 (some ((zPR st6 o 4 (some ((zPR st3 o 2 (some ((zPR (zNw st 3 6) o 0 (some (st).1))).1))).1))).1))).1))).1))).1))).1)) 15 0) (((zPR st21 o 11 (some ((zPR st18 o 10 (some ((zPR st15 o 9 (some ((zPR st12 o 8 (some ((zPR st9 o 5 (some ((zPR st6 o 4 (some ((zPR st3 o 2 (some ((zPR (zNw st 3 6) o 0 (some (st).1))).1))).1))).1))).1))).1))).1))).1))).1) (nI 8)) (fun st24 => (if zTg st24 o ∈ [12] then (some (zPR st24 o 12 (some ((zPR st21 o 11 (some ((zPR st18 o 10 (some ((zPR st15 o 9 (some ((zPR st12 o 8 (some ((zPR st9 o 5 (some ((zPR st6 o 4 (some ((zPR st3 o 2 (some ((zPR (zNw st 3 6) o 0 (some (st).1))).1))).1))).1))).1))).1))).1))).1))).1))) else none))) else none))) else none))) else none))) else none))) else none))) else none))) else none))) else none)
set_option maxHeartbeats 1000000 in
set_option maxRecDepth 100000 in
theorem c_X2_init (l : Launch) (G : zG) (st : zS) (o : Nat) {st' : zS} (h : f_X2_init st o = some st') : zMet l G yX2_init cX2_init 1 none 2 17 825 [.ref (G.2.2.2 + o)] st none st' := by
  refine zMet_of (by decide +kernel) ?_
  intro p e s m args below meth c X
  obtain ⟨hx, hb, hr, hml, hown, hq, hlk, hK, -, hin, hW, hS⟩ := X
  have hown : s.vm.findClass RX2 = some m.cls := hown
  refine z_ent (by exact Nat.le_of_ble_eq_true rfl) (fun ls hl => ?_)
  have hl : lv_has ls 1 [(0, .ref (G.2.2.2 + o))] := hl
  unfold f_X2_init at h
  refine lv_aload_n hx hb dX2_init_0 rfl (lv_at hl 0 rfl) ?_
  refine W.objInit hx hb hown (hq _ (zi zm23)) (hq _ (zi zm10)) (hq _ (zi zm11)) rfl (by rw [hml]; exact hl.1) rfl dX2_init_1 (Nat.le_of_ble_eq_true rfl) (Nat.le_of_ble_eq_true rfl) ?_
  refine W.eq (g2 := F0 m 4 ls []) rfl ?_
  refine lv_aload_n hx hb dX2_init_4 rfl (lv_at hl 0 rfl) ?_
  refine lv_bipush (v := (nI 6)) hx hb dX2_init_5 (by decide) ?_
  refine z_nwL (N := 6) hx hb hq hown hK hW hS (zi zm24) (by decide) (by decide) (by decide) (Nat.le_of_ble_eq_true rfl) (Nat.le_of_ble_eq_true rfl) dX2_init_7 (fun H hW hS => ?_)
  obtain ⟨t1, h⟩ := zc_at h
  refine z_pR hx hb hq hown hK hW hS fp_RX2_11 t1 (fun _ => hin) (fun _ => rfl) (fun _ => rfl) dX2_init_10 (fun H locs hW hS => ?_)
  refine lv_aload_n hx hb dX2_init_13 rfl (lv_at hl 0 rfl) ?_
  refine z_new (ci := 6) hx hb hq hown hK hW hS rfl (zi zm26) (zi zm27) (zi zm28) df_X6 (Nat.le_of_ble_eq_true rfl) (Nat.le_of_ble_eq_true rfl) dX2_init_14 (fun H hW hS => ?_)
  refine lv_dup hx hb dX2_init_17 rfl ?_
  obtain ⟨st3, c2, h⟩ := zd_at h
  refine z_cIN (host := "TwoPens") hx hb hq hml hown hK hW hS [] [.ref (G.2.2.2 + ((zPR (zNw st 3 6) o 0 (some (st).1))).1), .ref (G.2.2.2 + o)] (c_X6_init l G (zNw (zPR (zNw st 3 6) o 0 (some (st).1)) 16 0) (((zPR (zNw st 3 6) o 0 (some (st).1))).1) c2) (by decide +kernel) (zi zm40) (zi zm28) (zi zm41) cal_X6_init rfl rfl hl.1 rfl (Nat.le_of_ble_eq_true rfl) (zR_ok (by omega) (by decide)) ⟨(Nat.le_of_ble_eq_true rfl), (Nat.le_of_ble_eq_true rfl)⟩ dX2_init_18 (fun H locs hW hS => ?_)
  refine W.eq (g2 := F0 m 21 ls [.ref (G.2.2.2 + ((zPR (zNw st 3 6) o 0 (some (st).1))).1), .ref (G.2.2.2 + o)]) rfl ?_
  obtain ⟨t4, h⟩ := zc_at h
  refine z_pR hx hb hq hown hK hW hS fp_RX2_20 t4 (fun h => by cases h) (fun _ => rfl) (fun _ => rfl) dX2_init_21 (fun H locs hW hS => ?_)
  refine lv_aload_n hx hb dX2_init_24 rfl (lv_at hl 0 rfl) ?_
  refine z_new (ci := 5) hx hb hq hown hK hW hS rfl (zi zm30) (zi zm31) (zi zm32) df_X5 (Nat.le_of_ble_eq_true rfl) (Nat.le_of_ble_eq_true rfl) dX2_init_25 (fun H hW hS => ?_)
  refine lv_dup hx hb dX2_init_28 rfl ?_
  refine lv_bipush (v := (nI 100)) hx hb dX2_init_29 (by decide) ?_
  obtain ⟨st6, c5, h⟩ := zd_at h
  refine z_cI hx hb hq hml hown hK hW hS [.int ((nI 100))] [.ref (G.2.2.2 + ((zPR st3 o 2 (some ((zPR (zNw st 3 6) o 0 (some (st).1))).1))).1), .ref (G.2.2.2 + o)] (c_X5_init l G (zNw (zPR st3 o 2 (some ((zPR (zNw st 3 6) o 0 (some (st).1))).1)) 15 0) (((zPR st3 o 2 (some ((zPR (zNw st 3 6) o 0 (some (st).1))).1))).1) (nI 100) c5) (zi zm47) (zi zm48) (zi zm32) (zi zm49) cal_X5_init rfl rfl hl.1 rfl (Nat.le_of_ble_eq_true rfl) (zR_ok (by omega) (by decide)) ⟨(Nat.le_of_ble_eq_true rfl), (Nat.le_of_ble_eq_true rfl)⟩ dX2_init_31 (fun H locs hW hS => ?_)
  refine W.eq (g2 := F0 m 34 ls [.ref (G.2.2.2 + ((zPR st3 o 2 (some ((zPR (zNw st 3 6) o 0 (some (st).1))).1))).1), .ref (G.2.2.2 + o)]) rfl ?_
  obtain ⟨t7, h⟩ := zc_at h
  refine z_pR hx hb hq hown hK hW hS fp_RX2_29 t7 (fun _ => hin) (fun _ => rfl) (fun _ => rfl) dX2_init_34 (fun H locs hW hS => ?_)
  refine lv_aload_n hx hb dX2_init_37 rfl (lv_at hl 0 rfl) ?_
  refine z_new (ci := 5) hx hb hq hown hK hW hS rfl (zi zm30) (zi zm31) (zi zm32) df_X5 (Nat.le_of_ble_eq_true rfl) (Nat.le_of_ble_eq_true rfl) dX2_init_38 (fun H hW hS => ?_)
  refine lv_dup hx hb dX2_init_41 rfl ?_
  refine lv_bipush (v := (nI 40)) hx hb dX2_init_42 (by decide) ?_
  obtain ⟨st9, c8, h⟩ := zd_at h
  refine z_cI hx hb hq hml hown hK hW hS [.int ((nI 40))] [.ref (G.2.2.2 + ((zPR st6 o 4 (some ((zPR st3 o 2 (some ((zPR (zNw st 3 6) o 0 (some (st).1))).1))).1))).1), .ref (G.2.2.2 + o)] (c_X5_init l G (zNw (zPR st6 o 4 (some ((zPR st3 o 2 (some ((zPR (zNw st 3 6) o 0 (some (st).1))).1))).1)) 15 0) (((zPR st6 o 4 (some ((zPR st3 o 2 (some ((zPR (zNw st 3 6) o 0 (some (st).1))).1))).1))).1) (nI 40) c8) (zi zm47) (zi zm48) (zi zm32) (zi zm49) cal_X5_init rfl rfl hl.1 rfl (Nat.le_of_ble_eq_true rfl) (zR_ok (by omega) (by decide)) ⟨(Nat.le_of_ble_eq_true rfl), (Nat.le_of_ble_eq_true rfl)⟩ dX2_init_44 (fun H locs hW hS => ?_)
  refine W.eq (g2 := F0 m 47 ls [.ref (G.2.2.2 + ((zPR st6 o 4 (some ((zPR st3 o 2 (some ((zPR (zNw st 3 6) o 0 (some (st).1))).1))).1))).1), .ref (G.2.2.2 + o)]) rfl ?_
  obtain ⟨t10, h⟩ := zc_at h
  refine z_pR hx hb hq hown hK hW hS fp_RX2_33 t10 (fun _ => hin) (fun _ => rfl) (fun _ => rfl) dX2_init_47 (fun H locs hW hS => ?_)
  refine lv_aload_n hx hb dX2_init_50 rfl (lv_at hl 0 rfl) ?_
  refine z_new (ci := 5) hx hb hq hown hK hW hS rfl (zi zm30) (zi zm31) (zi zm32) df_X5 (Nat.le_of_ble_eq_true rfl) (Nat.le_of_ble_eq_true rfl) dX2_init_51 (fun H hW hS => ?_)
  refine lv_dup hx hb dX2_init_54 rfl ?_
  refine lv_iconst (v := (nI 5)) hx hb dX2_init_55 (by decide) ?_
  obtain ⟨st12, c11, h⟩ := zd_at h
  refine z_cI hx hb hq hml hown hK hW hS [.int ((nI 5))] [.ref (G.2.2.2 + ((zPR st9 o 5 (some ((zPR st6 o 4 (some ((zPR st3 o 2 (some ((zPR (zNw st 3 6) o 0 (some (st).1))).1))).1))).1))).1), .ref (G.2.2.2 + o)] (c_X5_init l G (zNw (zPR st9 o 5 (some ((zPR st6 o 4 (some ((zPR st3 o 2 (some ((zPR (zNw st 3 6) o 0 (some (st).1))).1))).1))).1)) 15 0) (((zPR st9 o 5 (some ((zPR st6 o 4 (some ((zPR st3 o 2 (some ((zPR (zNw st 3 6) o 0 (some (st).1))).1))).1))).1))).1) (nI 5) c11) (zi zm47) (zi zm48) (zi zm32) (zi zm49) cal_X5_init rfl rfl hl.1 rfl (Nat.le_of_ble_eq_true rfl) (zR_ok (by omega) (by decide)) ⟨(Nat.le_of_ble_eq_true rfl), (Nat.le_of_ble_eq_true rfl)⟩ dX2_init_56 (fun H locs hW hS => ?_)
  refine W.eq (g2 := F0 m 59 ls [.ref (G.2.2.2 + ((zPR st9 o 5 (some ((zPR st6 o 4 (some ((zPR st3 o 2 (some ((zPR (zNw st 3 6) o 0 (some (st).1))).1))).1))).1))).1), .ref (G.2.2.2 + o)]) rfl ?_
  obtain ⟨t13, h⟩ := zc_at h
  refine z_pR hx hb hq hown hK hW hS fp_RX2_36 t13 (fun _ => hin) (fun _ => rfl) (fun _ => rfl) dX2_init_59 (fun H locs hW hS => ?_)
  refine lv_aload_n hx hb dX2_init_62 rfl (lv_at hl 0 rfl) ?_
  refine z_new (ci := 5) hx hb hq hown hK hW hS rfl (zi zm30) (zi zm31) (zi zm32) df_X5 (Nat.le_of_ble_eq_true rfl) (Nat.le_of_ble_eq_true rfl) dX2_init_63 (fun H hW hS => ?_)
  refine lv_dup hx hb dX2_init_66 rfl ?_
  refine lv_bipush (v := (nI 6)) hx hb dX2_init_67 (by decide) ?_
  obtain ⟨st15, c14, h⟩ := zd_at h
  refine z_cI hx hb hq hml hown hK hW hS [.int ((nI 6))] [.ref (G.2.2.2 + ((zPR st12 o 8 (some ((zPR st9 o 5 (some ((zPR st6 o 4 (some ((zPR st3 o 2 (some ((zPR (zNw st 3 6) o 0 (some (st).1))).1))).1))).1))).1))).1), .ref (G.2.2.2 + o)] (c_X5_init l G (zNw (zPR st12 o 8 (some ((zPR st9 o 5 (some ((zPR st6 o 4 (some ((zPR st3 o 2 (some ((zPR (zNw st 3 6) o 0 (some (st).1))).1))).1))).1))).1)) 15 0) (((zPR st12 o 8 (some ((zPR st9 o 5 (some ((zPR st6 o 4 (some ((zPR st3 o 2 (some ((zPR (zNw st 3 6) o 0 (some (st).1))).1))).1))).1))).1))).1) (nI 6) c14) (zi zm47) (zi zm48) (zi zm32) (zi zm49) cal_X5_init rfl rfl hl.1 rfl (Nat.le_of_ble_eq_true rfl) (zR_ok (by omega) (by decide)) ⟨(Nat.le_of_ble_eq_true rfl), (Nat.le_of_ble_eq_true rfl)⟩ dX2_init_69 (fun H locs hW hS => ?_)
  refine W.eq (g2 := F0 m 72 ls [.ref (G.2.2.2 + ((zPR st12 o 8 (some ((zPR st9 o 5 (some ((zPR st6 o 4 (some ((zPR st3 o 2 (some ((zPR (zNw st 3 6) o 0 (some (st).1))).1))).1))).1))).1))).1), .ref (G.2.2.2 + o)]) rfl ?_
  obtain ⟨t16, h⟩ := zc_at h
  refine z_pR hx hb hq hown hK hW hS fp_RX2_39 t16 (fun _ => hin) (fun _ => rfl) (fun _ => rfl) dX2_init_72 (fun H locs hW hS => ?_)
  refine lv_aload_n hx hb dX2_init_75 rfl (lv_at hl 0 rfl) ?_
  refine z_new (ci := 5) hx hb hq hown hK hW hS rfl (zi zm30) (zi zm31) (zi zm32) df_X5 (Nat.le_of_ble_eq_true rfl) (Nat.le_of_ble_eq_true rfl) dX2_init_76 (fun H hW hS => ?_)
  refine lv_dup hx hb dX2_init_79 rfl ?_
  refine lv_bipush (v := (nI 8)) hx hb dX2_init_80 (by decide) ?_
  obtain ⟨st18, c17, h⟩ := zd_at h
  refine z_cI hx hb hq hml hown hK hW hS [.int ((nI 8))] [.ref (G.2.2.2 + ((zPR st15 o 9 (some ((zPR st12 o 8 (some ((zPR st9 o 5 (some ((zPR st6 o 4 (some ((zPR st3 o 2 (some ((zPR (zNw st 3 6) o 0 (some (st).1))).1))).1))).1))).1))).1))).1), .ref (G.2.2.2 + o)] (c_X5_init l G (zNw (zPR st15 o 9 (some ((zPR st12 o 8 (some ((zPR st9 o 5 (some ((zPR st6 o 4 (some ((zPR st3 o 2 (some ((zPR (zNw st 3 6) o 0 (some (st).1))).1))).1))).1))).1))).1)) 15 0) (((zPR st15 o 9 (some ((zPR st12 o 8 (some ((zPR st9 o 5 (some ((zPR st6 o 4 (some ((zPR st3 o 2 (some ((zPR (zNw st 3 6) o 0 (some (st).1))).1))).1))).1))).1))).1))).1) (nI 8) c17) (zi zm47) (zi zm48) (zi zm32) (zi zm49) cal_X5_init rfl rfl hl.1 rfl (Nat.le_of_ble_eq_true rfl) (zR_ok (by omega) (by decide)) ⟨(Nat.le_of_ble_eq_true rfl), (Nat.le_of_ble_eq_true rfl)⟩ dX2_init_82 (fun H locs hW hS => ?_)
  refine W.eq (g2 := F0 m 85 ls [.ref (G.2.2.2 + ((zPR st15 o 9 (some ((zPR st12 o 8 (some ((zPR st9 o 5 (some ((zPR st6 o 4 (some ((zPR st3 o 2 (some ((zPR (zNw st 3 6) o 0 (some (st).1))).1))).1))).1))).1))).1))).1), .ref (G.2.2.2 + o)]) rfl ?_
  obtain ⟨t19, h⟩ := zc_at h
  refine z_pR hx hb hq hown hK hW hS fp_RX2_42 t19 (fun _ => hin) (fun _ => rfl) (fun _ => rfl) dX2_init_85 (fun H locs hW hS => ?_)
  refine lv_aload_n hx hb dX2_init_88 rfl (lv_at hl 0 rfl) ?_
  refine z_new (ci := 5) hx hb hq hown hK hW hS rfl (zi zm30) (zi zm31) (zi zm32) df_X5 (Nat.le_of_ble_eq_true rfl) (Nat.le_of_ble_eq_true rfl) dX2_init_89 (fun H hW hS => ?_)
  refine lv_dup hx hb dX2_init_92 rfl ?_
  refine lv_bipush (v := (nI 8)) hx hb dX2_init_93 (by decide) ?_
  obtain ⟨st21, c20, h⟩ := zd_at h
  refine z_cI hx hb hq hml hown hK hW hS [.int ((nI 8))] [.ref (G.2.2.2 + ((zPR st18 o 10 (some ((zPR st15 o 9 (some ((zPR st12 o 8 (some ((zPR st9 o 5 (some ((zPR st6 o 4 (some ((zPR st3 o 2 (some ((zPR (zNw st 3 6) o 0 (some (st).1))).1))).1))).1))).1))).1))).1))).1), .ref (G.2.2.2 + o)] (c_X5_init l G (zNw (zPR st18 o 10 (some ((zPR st15 o 9 (some ((zPR st12 o 8 (some ((zPR st9 o 5 (some ((zPR st6 o 4 (some ((zPR st3 o 2 (some ((zPR (zNw st 3 6) o 0 (some (st).1))).1))).1))).1))).1))).1))).1)) 15 0) (((zPR st18 o 10 (some ((zPR st15 o 9 (some ((zPR st12 o 8 (some ((zPR st9 o 5 (some ((zPR st6 o 4 (some ((zPR st3 o 2 (some ((zPR (zNw st 3 6) o 0 (some (st).1))).1))).1))).1))).1))).1))).1))).1) (nI 8) c20) (zi zm47) (zi zm48) (zi zm32) (zi zm49) cal_X5_init rfl rfl hl.1 rfl (Nat.le_of_ble_eq_true rfl) (zR_ok (by omega) (by decide)) ⟨(Nat.le_of_ble_eq_true rfl), (Nat.le_of_ble_eq_true rfl)⟩ dX2_init_95 (fun H locs hW hS => ?_)
  refine W.eq (g2 := F0 m 98 ls [.ref (G.2.2.2 + ((zPR st18 o 10 (some ((zPR st15 o 9 (some ((zPR st12 o 8 (some ((zPR st9 o 5 (some ((zPR st6 o 4 (some ((zPR st3 o 2 (some ((zPR (zNw st 3 6) o 0 (some (st).1))).1))).1))).1))).1))).1))).1))).1), .ref (G.2.2.2 + o)]) rfl ?_
  obtain ⟨t22, h⟩ := zc_at h
  refine z_pR hx hb hq hown hK hW hS fp_RX2_45 t22 (fun _ => hin) (fun _ => rfl) (fun _ => rfl) dX2_init_98 (fun H locs hW hS => ?_)
  refine lv_aload_n hx hb dX2_init_101 rfl (lv_at hl 0 rfl) ?_
  refine z_new (ci := 5) hx hb hq hown hK hW hS rfl (zi zm30) (zi zm31) (zi zm32) df_X5 (Nat.le_of_ble_eq_true rfl) (Nat.le_of_ble_eq_true rfl) dX2_init_102 (fun H hW hS => ?_)
  refine lv_dup hx hb dX2_init_105 rfl ?_
  refine lv_bipush (v := (nI 8)) hx hb dX2_init_106 (by decide) ?_
  obtain ⟨st24, c23, h⟩ := zd_at h
  refine z_cI hx hb hq hml hown hK hW hS [.int ((nI 8))] [.ref (G.2.2.2 + ((zPR st21 o 11 (some ((zPR st18 o 10 (some ((zPR st15 o 9 (some ((zPR st12 o 8 (some ((zPR st9 o 5 (some ((zPR st6 o 4 (some ((zPR st3 o 2 (some ((zPR (zNw st 3 6) o 0 (some (st).1))).1))).1))).1))).1))).1))).1))).1))).1), .ref (G.2.2.2 + o)] (c_X5_init l G (zNw (zPR st21 o 11 (some ((zPR st18 o 10 (some ((zPR st15 o 9 (some ((zPR st12 o 8 (some ((zPR st9 o 5 (some ((zPR st6 o 4 (some ((zPR st3 o 2 (some ((zPR (zNw st 3 6) o 0 (some (st).1))).1))).1))).1))).1))).1))).1))).1)) 15 0) (((zPR st21 o 11 (some ((zPR st18 o 10 (some ((zPR st15 o 9 (some ((zPR st12 o 8 (some ((zPR st9 o 5 (some ((zPR st6 o 4 (some ((zPR st3 o 2 (some ((zPR (zNw st 3 6) o 0 (some (st).1))).1))).1))).1))).1))).1))).1))).1))).1) (nI 8) c23) (zi zm47) (zi zm48) (zi zm32) (zi zm49) cal_X5_init rfl rfl hl.1 rfl (Nat.le_of_ble_eq_true rfl) (zR_ok (by omega) (by decide)) ⟨(Nat.le_of_ble_eq_true rfl), (Nat.le_of_ble_eq_true rfl)⟩ dX2_init_108 (fun H locs hW hS => ?_)
  refine W.eq (g2 := F0 m 111 ls [.ref (G.2.2.2 + ((zPR st21 o 11 (some ((zPR st18 o 10 (some ((zPR st15 o 9 (some ((zPR st12 o 8 (some ((zPR st9 o 5 (some ((zPR st6 o 4 (some ((zPR st3 o 2 (some ((zPR (zNw st 3 6) o 0 (some (st).1))).1))).1))).1))).1))).1))).1))).1))).1), .ref (G.2.2.2 + o)]) rfl ?_
  obtain ⟨t25, h⟩ := zc_at h
  refine z_pR hx hb hq hown hK hW hS fp_RX2_48 t25 (fun _ => hin) (fun _ => rfl) (fun _ => rfl) dX2_init_111 (fun H locs hW hS => ?_)
  obtain rfl := Option.some.inj h
  exact z_rv hx hb hr hlk hW hS (Nat.le_of_ble_eq_true rfl) (Nat.le_of_ble_eq_true rfl) dX2_init_114
def f_X5_clear (st : zS) (o : Nat) : Option zS := (if zTg st o ∈ [15] then (some (zPM st o 1 (nI 0))) else none)
set_option maxHeartbeats 1000000 in
set_option maxRecDepth 100000 in
theorem c_X5_clear (l : Launch) (G : zG) (st : zS) (o : Nat) {st' : zS} (h : f_X5_clear st o = some st') : zMet l G yX5_clear cX5_clear 1 none 0 0 0 [.ref (G.2.2.2 + o)] st none st' := by
  refine zMet_of (by decide +kernel) ?_
  intro p e s m args below meth c X
  obtain ⟨hx, hb, hr, hml, hown, hq, hlk, hK, -, hin, hW, hS⟩ := X
  have hown : s.vm.findClass RX5 = some m.cls := hown
  refine z_ent (by exact Nat.le_of_ble_eq_true rfl) (fun ls hl => ?_)
  have hl : lv_has ls 1 [(0, .ref (G.2.2.2 + o))] := hl
  unfold f_X5_clear at h
  refine lv_aload_n hx hb dX5_clear_0 rfl (lv_at hl 0 rfl) ?_
  refine lv_iconst (v := (nI 0)) hx hb dX5_clear_1 (by decide) ?_
  obtain ⟨t1, h⟩ := zc_at h
  refine z_pI hx hb hq hown hK hW hS fp_RX5_19 t1 (fun h => by cases h) rfl rfl dX5_clear_2 (fun H locs hW hS => ?_)
  obtain rfl := Option.some.inj h
  exact z_rv hx hb hr hlk hW hS (Nat.le_of_ble_eq_true rfl) (Nat.le_of_ble_eq_true rfl) dX5_clear_5
def f_X5_get (st : zS) (o : Nat) (a1 : Int32) : Option Int32 := (if a1 < 0 then (some (-1 : Int32)) else (if zTg st o ∈ [15] then (if (zM st o 1) ≤ a1 then (some (-1 : Int32)) else (Option.bind (zR st o 0) (fun b2 => (if zTg st b2 ∈ [1] then (if (nI (zLn st b2)) ≤ a1 then (some (-1 : Int32)) else (if zin a1 (zLn st b2) then (some (zM st b2 (a1).toNatClampNeg)) else none)) else none)))) else none))
set_option maxHeartbeats 1000000 in
set_option maxRecDepth 100000 in
theorem c_X5_get (l : Launch) (G : zG) (st : zS) (o : Nat) (a1 : Int32) {r : Int32} (h : f_X5_get st o a1 = some r) : zMet l G yX5_get cX5_get 2 (some .int) 0 0 0 [.ref (G.2.2.2 + o), .int a1] st (some (.int r)) st := by
  refine zMet_of (by decide +kernel) ?_
  intro p e s m args below meth c X
  obtain ⟨hx, hb, hr, hml, hown, hq, hlk, hK, -, hin, hW, hS⟩ := X
  have hown : s.vm.findClass RX5 = some m.cls := hown
  refine z_ent (by exact Nat.le_of_ble_eq_true rfl) (fun ls hl => ?_)
  have hl : lv_has ls 2 [(0, .ref (G.2.2.2 + o)), (1, .int a1)] := hl
  unfold f_X5_get at h
  refine lv_iload_n hx hb dX5_get_0 rfl (lv_at hl 1 rfl) ?_
  refine z_br (lv_if_lt (tgt := 30) hx hb dX5_get_1 (by decide)) h (fun h => ?_) (fun h => ?_)
  · refine lv_iconst (v := (-1)) hx hb dX5_get_30 (by decide) ?_
    obtain rfl := Option.some.inj h
    exact z_ri hx hb hr hlk hW hS (Nat.le_of_ble_eq_true rfl) (Nat.le_of_ble_eq_true rfl) dX5_get_31
  · refine lv_iload_n hx hb dX5_get_4 rfl (lv_at hl 1 rfl) ?_
    refine lv_aload_n hx hb dX5_get_5 rfl (lv_at hl 0 rfl) ?_
    obtain ⟨t1, h⟩ := zc_at h
    refine z_gI hx hb hq hown hK hW fs_RX5_19 t1 dX5_get_6 ?_
    refine z_br (lv_icmp_ge (tgt := 30) hx hb dX5_get_9 (by decide)) h (fun h => ?_) (fun h => ?_)
    · refine lv_iconst (v := (-1)) hx hb dX5_get_30 (by decide) ?_
      obtain rfl := Option.some.inj h
      exact z_ri hx hb hr hlk hW hS (Nat.le_of_ble_eq_true rfl) (Nat.le_of_ble_eq_true rfl) dX5_get_31
    · refine lv_iload_n hx hb dX5_get_12 rfl (lv_at hl 1 rfl) ?_
      refine lv_aload_n hx hb dX5_get_13 rfl (lv_at hl 0 rfl) ?_
      obtain ⟨b2, hb2, h⟩ := zd_at h
      refine z_gR hx hb hq hown hK hW fs_RX5_13 t1 hb2 dX5_get_14 ?_
      obtain ⟨t3, h⟩ := zc_at h
      refine z_len hx hb hK hW (Or.inl (List.mem_singleton.mp t3)) dX5_get_17 ?_
      refine z_br (lv_icmp_ge (tgt := 30) hx hb dX5_get_18 (by decide)) h (fun h => ?_) (fun h => ?_)
      · refine lv_iconst (v := (-1)) hx hb dX5_get_30 (by decide) ?_
        obtain rfl := Option.some.inj h
        exact z_ri hx hb hr hlk hW hS (Nat.le_of_ble_eq_true rfl) (Nat.le_of_ble_eq_true rfl) dX5_get_31
      · refine lv_aload_n hx hb dX5_get_21 rfl (lv_at hl 0 rfl) ?_
        refine z_gR hx hb hq hown hK hW fs_RX5_13 t1 hb2 dX5_get_22 ?_
        refine lv_iload_n hx hb dX5_get_25 rfl (lv_at hl 1 rfl) ?_
        obtain ⟨t4, h⟩ := zc_at h
        refine z_alI hx hb hK hW (List.mem_singleton.mp t3) t4 dX5_get_26 ?_
        refine lv_goto (tgt := 31) hx hb dX5_get_27 (by decide) ?_
        obtain rfl := Option.some.inj h
        exact z_ri hx hb hr hlk hW hS (Nat.le_of_ble_eq_true rfl) (Nat.le_of_ble_eq_true rfl) dX5_get_31
def f_X5_add (st : zS) (o : Nat) (a1 : Int32) : Option (zS × Int32) := (if zTg st o ∈ [15] then (if (zM st o 1) < 0 then (some (st, (nI 0))) else (Option.bind (zR st o 0) (fun b2 => (if zTg st b2 ∈ [1] then (if (zM st o 1) < (nI (zLn st b2)) then (if zin (zM st o 1) (zLn st b2) then (some ((zPM (zPM st b2 ((zM st o 1)).toNatClampNeg a1) o 1 ((zM (zPM st b2 ((zM st o 1)).toNatClampNeg a1) o 1) + (nI 1))), (nI 1))) else none) else (some (st, (nI 0)))) else none)))) else none)
set_option maxHeartbeats 1000000 in
set_option maxRecDepth 100000 in
theorem c_X5_add (l : Launch) (G : zG) (st : zS) (o : Nat) (a1 : Int32) {st' : zS} {r : Int32} (h : f_X5_add st o a1 = some (st', r)) : zMet l G yX5_add cX5_add 2 (some .boolean) 0 0 0 [.ref (G.2.2.2 + o), .int a1] st (some (.int r)) st' := by
  refine zMet_of (by decide +kernel) ?_
  intro p e s m args below meth c X
  obtain ⟨hx, hb, hr, hml, hown, hq, hlk, hK, -, hin, hW, hS⟩ := X
  have hown : s.vm.findClass RX5 = some m.cls := hown
  refine z_ent (by exact Nat.le_of_ble_eq_true rfl) (fun ls hl => ?_)
  have hl : lv_has ls 2 [(0, .ref (G.2.2.2 + o)), (1, .int a1)] := hl
  unfold f_X5_add at h
  refine lv_aload_n hx hb dX5_add_0 rfl (lv_at hl 0 rfl) ?_
  obtain ⟨t1, h⟩ := zc_at h
  refine z_gI hx hb hq hown hK hW fs_RX5_19 t1 dX5_add_1 ?_
  refine z_br (lv_if_lt (tgt := 19) hx hb dX5_add_4 (by decide)) h (fun h => ?_) (fun h => ?_)
  · refine lv_iconst (v := (nI 0)) hx hb dX5_add_19 (by decide) ?_
    obtain ⟨rfl, rfl⟩ := Prod.mk.inj (Option.some.inj h)
    exact z_rz hx hb hr hlk rfl hW hS (Nat.le_of_ble_eq_true rfl) (Nat.le_of_ble_eq_true rfl) dX5_add_20
  · refine lv_aload_n hx hb dX5_add_7 rfl (lv_at hl 0 rfl) ?_
    refine z_gI hx hb hq hown hK hW fs_RX5_19 t1 dX5_add_8 ?_
    refine lv_aload_n hx hb dX5_add_11 rfl (lv_at hl 0 rfl) ?_
    obtain ⟨b2, hb2, h⟩ := zd_at h
    refine z_gR hx hb hq hown hK hW fs_RX5_13 t1 hb2 dX5_add_12 ?_
    obtain ⟨t3, h⟩ := zc_at h
    refine z_len hx hb hK hW (Or.inl (List.mem_singleton.mp t3)) dX5_add_15 ?_
    refine z_br (lv_icmp_lt (tgt := 21) hx hb dX5_add_16 (by decide)) h (fun h => ?_) (fun h => ?_)
    · refine lv_aload_n hx hb dX5_add_21 rfl (lv_at hl 0 rfl) ?_
      refine z_gR hx hb hq hown hK hW fs_RX5_13 t1 hb2 dX5_add_22 ?_
      refine lv_aload_n hx hb dX5_add_25 rfl (lv_at hl 0 rfl) ?_
      refine z_gI hx hb hq hown hK hW fs_RX5_19 t1 dX5_add_26 ?_
      refine lv_iload_n hx hb dX5_add_29 rfl (lv_at hl 1 rfl) ?_
      obtain ⟨t4, h⟩ := zc_at h
      refine z_asI hx hb hK hW hS (List.mem_singleton.mp t3) t4 dX5_add_30 (fun H locs hW hS => ?_)
      refine lv_aload_n hx hb dX5_add_31 rfl (lv_at hl 0 rfl) ?_
      refine lv_dup hx hb dX5_add_32 rfl ?_
      refine z_gI hx hb hq hown hK hW fs_RX5_19 t1 dX5_add_33 ?_
      refine lv_iconst (v := (nI 1)) hx hb dX5_add_36 (by decide) ?_
      refine lv_iadd hx hb dX5_add_37 ?_
      refine z_pI hx hb hq hown hK hW hS fp_RX5_19 t1 (fun h => by cases h) rfl rfl dX5_add_38 (fun H locs hW hS => ?_)
      refine lv_iconst (v := (nI 1)) hx hb dX5_add_41 (by decide) ?_
      obtain ⟨rfl, rfl⟩ := Prod.mk.inj (Option.some.inj h)
      exact z_rz hx hb hr hlk rfl hW hS (Nat.le_of_ble_eq_true rfl) (Nat.le_of_ble_eq_true rfl) dX5_add_42
    · refine lv_iconst (v := (nI 0)) hx hb dX5_add_19 (by decide) ?_
      obtain ⟨rfl, rfl⟩ := Prod.mk.inj (Option.some.inj h)
      exact z_rz hx hb hr hlk rfl hW hS (Nat.le_of_ble_eq_true rfl) (Nat.le_of_ble_eq_true rfl) dX5_add_20
def f_X5_copy_6 (N : Nat) (o : Nat) (a1 : Nat)  : Nat → zS → Int32 → Option zS
  | 0, _, _ => none
  | n6 + 1, st, x2 => (if zTg st a1 ∈ [15] then (if (zM st a1 1) ≤ x2 then (some st) else (Option.bind (f_X5_get st a1 x2) (fun r6 => (if zTg st o ∈ [15] then (zb (f_X5_add st o r6) (fun st9 r10 => ((f_X5_copy_6 N o a1 n6) st9 (x2 + (nI 1))))) else none)))) else none)
def f_X5_copy (N : Nat) (st : zS) (o : Nat) (a1 : Nat) : Option zS := (if zTg st o ∈ [15] then (Option.bind (f_X5_clear st o) (fun st3 => (f_X5_copy_6 N o a1 N st3 (nI 0)))) else none)
set_option maxHeartbeats 1000000 in
set_option maxRecDepth 100000 in
theorem c_X5_copy (l : Launch) (G : zG) (N : Nat) (st : zS) (o : Nat) (a1 : Nat) {st' : zS} (h : f_X5_copy N st o a1 = some st') : zMet l G yX5_copy cX5_copy 3 none 1 0 0 [.ref (G.2.2.2 + o), .ref (G.2.2.2 + a1)] st none st' := by
  refine zMet_of (by decide +kernel) ?_
  intro p e s m args below meth c X
  obtain ⟨hx, hb, hr, hml, hown, hq, hlk, hK, -, hin, hW, hS⟩ := X
  have hown : s.vm.findClass RX5 = some m.cls := hown
  refine z_ent (by exact Nat.le_of_ble_eq_true rfl) (fun ls hl => ?_)
  have hl : lv_has ls 3 [(0, .ref (G.2.2.2 + o)), (1, .ref (G.2.2.2 + a1))] := hl
  unfold f_X5_copy at h
  have B6 : ∀ (n6 : Nat) (st : zS) (x2 : Int32) (H : Heap) (locs : List Loc) (ls : Array Slot), f_X5_copy_6 N o a1 n6 st x2 = some st' → zWd G st H → va_S (zA G) s.heap H locs → lv_has ls 3 [(0, .ref (G.2.2.2 + o)), (1, .ref (G.2.2.2 + a1)), (2, .int x2)] → W p l e (zRm 1 0 0) s m args below meth c H locs 0 0 (MQ below (zQ G none st') args s 0 0 (zA G)) (F0 m 6 ls []) := by
    intro n6
    induction n6 with
    | zero =>
      intro st x2 H locs ls h
      unfold f_X5_copy_6 at h
      cases h
    | succ n6 ih6 =>
      intro st x2 H locs ls h hW hS hl
      unfold f_X5_copy_6 at h
      refine lv_iload_n hx hb dX5_copy_6 rfl (lv_at hl 2 rfl) ?_
      refine lv_aload_n hx hb dX5_copy_7 rfl (lv_at hl 1 rfl) ?_
      obtain ⟨t4, h⟩ := zc_at h
      refine z_gI hx hb hq hown hK hW fs_RX5_19 t4 dX5_copy_8 ?_
      refine z_br (lv_icmp_ge (tgt := 30) hx hb dX5_copy_11 (by decide)) h (fun h => ?_) (fun h => ?_)
      · obtain rfl := Option.some.inj h
        exact z_rv hx hb hr hlk hW hS (Nat.le_of_ble_eq_true rfl) (Nat.le_of_ble_eq_true rfl) dX5_copy_30
      · refine lv_aload_n hx hb dX5_copy_14 rfl (lv_at hl 0 rfl) ?_
        refine lv_aload_n hx hb dX5_copy_15 rfl (lv_at hl 1 rfl) ?_
        refine lv_iload_n hx hb dX5_copy_16 rfl (lv_at hl 2 rfl) ?_
        obtain ⟨r6, c5, h⟩ := zd_at h
        refine z_cV hx hb hq hml hown hK hW hS 5 [.int x2] [.ref (G.2.2.2 + o)] rfl (List.mem_singleton.mp t4) (c_X5_get l G st a1 x2 c5) (zi zm425) (zi zm109) (zi zm110) (zi zm32) (zi zm111) cal_X5_get rfl rfl hl.1 rfl (Nat.le_of_ble_eq_true rfl) (zR_ok (by omega) (by decide)) ⟨(Nat.le_of_ble_eq_true rfl), (Nat.le_of_ble_eq_true rfl)⟩ dX5_copy_17 (fun H locs hW hS => ?_)
        refine W.eq (g2 := F0 m 20 ls [.int r6, .ref (G.2.2.2 + o)]) rfl ?_
        obtain ⟨t7, h⟩ := zc_at h
        obtain ⟨st9, r10, c8, h⟩ := zb_at h
        refine z_cV hx hb hq hml hown hK hW hS 5 [.int r6] [] rfl (List.mem_singleton.mp t7) (c_X5_add l G st o r6 c8) (zi zm1130) (zi zm78) (zi zm79) (zi zm32) (zi zm80) cal_X5_add rfl rfl hl.1 rfl (Nat.le_of_ble_eq_true rfl) (zR_ok (by omega) (by decide)) ⟨(Nat.le_of_ble_eq_true rfl), (Nat.le_of_ble_eq_true rfl)⟩ dX5_copy_20 (fun H locs hW hS => ?_)
        refine W.eq (g2 := F0 m 23 ls [.int r10]) rfl ?_
        refine lv_pop hx hb dX5_copy_23 rfl ?_
        refine lv_iinc (v := (x2 + (nI 1))) (lv' := [(2, .int ((x2 + (nI 1)))), (0, .ref (G.2.2.2 + o)), (1, .ref (G.2.2.2 + a1))]) hx hb dX5_copy_24 hl (k := 2) rfl rfl (by decide) rfl (fun ls hl => ?_)
        refine lv_goto (tgt := 6) hx hb dX5_copy_27 (by decide) ?_
        exact ih6 st9 (x2 + (nI 1)) _ _ _ h hW hS (lv_sub hl [1, 2, 0] rfl)
  refine lv_aload_n hx hb dX5_copy_0 rfl (lv_at hl 0 rfl) ?_
  obtain ⟨t1, h⟩ := zc_at h
  obtain ⟨st3, c2, h⟩ := zd_at h
  refine z_cV hx hb hq hml hown hK hW hS 5 [] [] rfl (List.mem_singleton.mp t1) (c_X5_clear l G st o c2) (zi zm1129) (zi zm274) (zi zm275) (zi zm32) (zi zm276) cal_X5_clear rfl rfl hl.1 rfl (Nat.le_of_ble_eq_true rfl) (zR_ok (by omega) (by decide)) ⟨(Nat.le_of_ble_eq_true rfl), (Nat.le_of_ble_eq_true rfl)⟩ dX5_copy_1 (fun H locs hW hS => ?_)
  refine W.eq (g2 := F0 m 4 ls []) rfl ?_
  refine lv_iconst (v := (nI 0)) hx hb dX5_copy_4 (by decide) ?_
  refine lv_istore_n (lv' := [(2, .int ((nI 0))), (0, .ref (G.2.2.2 + o)), (1, .ref (G.2.2.2 + a1))]) hx hb dX5_copy_5 rfl hl (by decide) rfl (fun ls hl => ?_)
  exact B6 N st3 (nI 0) _ _ _ h hW hS (lv_sub hl [1, 2, 0] rfl)
def f_X2_copyAll_38 (N : Nat) (o : Nat) (a1 : Nat)  (st : zS) : Option zS := (if zTg st a1 ∈ [12] then (if zTg st o ∈ [12] then (Option.bind (zR (zPM st o 1 (zM st a1 1)) a1 2) (fun b6 => (Option.bind (zR (zPM (zPR (zPM st o 1 (zM st a1 1)) o 2 (some b6)) o 3 (zM (zPR (zPM st o 1 (zM st a1 1)) o 2 (some b6)) a1 3)) o 4) (fun b7 => (Option.bind (zR (zPM (zPR (zPM st o 1 (zM st a1 1)) o 2 (some b6)) o 3 (zM (zPR (zPM st o 1 (zM st a1 1)) o 2 (some b6)) a1 3)) a1 4) (fun b8 => (if zTg (zPM (zPR (zPM st o 1 (zM st a1 1)) o 2 (some b6)) o 3 (zM (zPR (zPM st o 1 (zM st a1 1)) o 2 (some b6)) a1 3)) b7 ∈ [15] then (Option.bind (f_X5_copy N (zPM (zPR (zPM st o 1 (zM st a1 1)) o 2 (some b6)) o 3 (zM (zPR (zPM st o 1 (zM st a1 1)) o 2 (some b6)) a1 3)) b7 b8) (fun st11 => (if zTg st11 o ∈ [12] then (Option.bind (zR st11 o 5) (fun b13 => (if zTg st11 a1 ∈ [12] then (Option.bind (zR st11 a1 5) (fun b15 => (if zTg st11 b13 ∈ [15] then (Option.bind (f_X5_copy N st11 b13 b15) (fun st18 => (if zTg st18 a1 ∈ [12] then (if zTg st18 o ∈ [12] then (Option.bind (zR (zPM (zPM st18 o 6 (zM st18 a1 6)) o 7 (zM (zPM st18 o 6 (zM st18 a1 6)) a1 7)) o 8) (fun b21 => (Option.bind (zR (zPM (zPM st18 o 6 (zM st18 a1 6)) o 7 (zM (zPM st18 o 6 (zM st18 a1 6)) a1 7)) a1 8) (fun b22 => (if zTg (zPM (zPM st18 o 6 (zM st18 a1 6)) o 7 (zM (zPM st18 o 6 (zM st18 a1 6)) a1 7)) b21 ∈ [15] then (Option.bind (f_X5_copy N (zPM (zPM st18 o 6 (zM st18 a1 6)) o 7 (zM (zPM st18 o 6 (zM st18 a1 6)) a1 7)) b21 b22) (fun st25 => (if zTg st25 o ∈ [12] then (Option.bind (zR st25 o 9) (fun b27 => (if zTg st25 a1 ∈ [12] then (Option.bind (zR st25 a1 9) (fun b29 => (if zTg st25 b27 ∈ [15] then (Option.bind (f_X5_copy N st25 b27 b29) (fun st32 => (if zTg st32 o ∈ [12] then (Option.bind (zR st32 o 10) (fun b34 => (if zTg st32 a1 ∈ [12] then (Option.bind (zR st32 a1 10) (fun b36 => (if zTg st32 b34 ∈ [15] then (Option.bind (f_X5_copy N st32 b34 b36) (fun st39 => (if zTg st39 o ∈ [12] then (Option.bind (zR st39 o 11) (fun b41 => (if zTg st39 a1 ∈ [12] then (Option.bind (zR st39 a1 11) (fun b43 => (if zTg st39 b41 ∈ [15] then (Option.bind (f_X5_copy N st39 b41 b43) (fun st46 => (if zTg st46 o ∈ [12] then (Option.bind (zR st46 o 12) (fun b48 => (if zTg st46 a1 ∈ [12] then (Option.bind (zR st46 a1 12) (fun b50 => (if zTg st46 b48 ∈ [15] then (Option.bind (f_X5_copy N st46 b48 b50) (fun st53 => (some st53))) else none))) else none))) else none))) else none))) else none))) else none))) else none))) else none))) else none))) else none))) else none))) else none))) else none))))) else none) else none))) else none))) else none))) else none))) else none))))))) else none) else none)
def f_X2_copyAll_2 (N : Nat) (o : Nat) (a1 : Nat)  : Nat → zS → Int32 → Option zS
  | 0, _, _ => none
  | n2 + 1, st, x2 => (if zTg st o ∈ [12] then (Option.bind (zR st o 0) (fun b2 => (if zTg st b2 ∈ [3] then (if (nI (zLn st b2)) ≤ x2 then (f_X2_copyAll_38 N o a1 st) else (if zTg st a1 ∈ [12] then (Option.bind (zR st a1 0) (fun b55 => (if zTg st b55 ∈ [3] then (if (nI (zLn st b55)) ≤ x2 then (f_X2_copyAll_38 N o a1 st) else (if zin x2 (zLn st b55) then (if zin x2 (zLn st b2) then (if zlOk st (zR st b55 (x2).toNatClampNeg) then ((f_X2_copyAll_2 N o a1 n2) (zPR st b2 (x2).toNatClampNeg (zR st b55 (x2).toNatClampNeg)) (x2 + (nI 1))) else none) else none) else none)) else none))) else none)) else none))) else none)
def f_X2_copyAll (N : Nat) (st : zS) (o : Nat) (a1 : Nat) : Option zS := (f_X2_copyAll_2 N o a1 N st (nI 0))
set_option maxHeartbeats 1000000 in
set_option maxRecDepth 100000 in
theorem c_X2_copyAll (l : Launch) (G : zG) (N : Nat) (st : zS) (o : Nat) (a1 : Nat) {st' : zS} (h : f_X2_copyAll N st o a1 = some st') : zMet l G yX2_copyAll cX2_copyAll 3 none 2 0 0 [.ref (G.2.2.2 + o), .ref (G.2.2.2 + a1)] st none st' := by
  refine zMet_of (by decide +kernel) ?_
  intro p e s m args below meth c X
  obtain ⟨hx, hb, hr, hml, hown, hq, hlk, hK, -, hin, hW, hS⟩ := X
  have hown : s.vm.findClass RX2 = some m.cls := hown
  refine z_ent (by exact Nat.le_of_ble_eq_true rfl) (fun ls hl => ?_)
  have hl : lv_has ls 3 [(0, .ref (G.2.2.2 + o)), (1, .ref (G.2.2.2 + a1))] := hl
  unfold f_X2_copyAll at h
  have B38 : ∀ (st : zS) (H : Heap) (locs : List Loc) (ls : Array Slot), f_X2_copyAll_38 N o a1 st = some st' → zWd G st H → va_S (zA G) s.heap H locs → lv_has ls 3 [(0, .ref (G.2.2.2 + o)), (1, .ref (G.2.2.2 + a1))] → W p l e (zRm 2 0 0) s m args below meth c H locs 0 0 (MQ below (zQ G none st') args s 0 0 (zA G)) (F0 m 38 ls []) := by
    intro st H locs ls h hW hS hl
    unfold f_X2_copyAll_38 at h
    refine lv_aload_n hx hb dX2_copyAll_38 rfl (lv_at hl 0 rfl) ?_
    refine lv_aload_n hx hb dX2_copyAll_39 rfl (lv_at hl 1 rfl) ?_
    obtain ⟨t4, h⟩ := zc_at h
    refine z_gI hx hb hq hown hK hW fs_RX2_51 t4 dX2_copyAll_40 ?_
    obtain ⟨t5, h⟩ := zc_at h
    refine z_pI hx hb hq hown hK hW hS fp_RX2_51 t5 (fun h => by cases h) rfl rfl dX2_copyAll_43 (fun H locs hW hS => ?_)
    refine lv_aload_n hx hb dX2_copyAll_46 rfl (lv_at hl 0 rfl) ?_
    refine lv_aload_n hx hb dX2_copyAll_47 rfl (lv_at hl 1 rfl) ?_
    obtain ⟨b6, hb6, h⟩ := zd_at h
    refine z_gR hx hb hq hown hK hW fs_RX2_20 t4 hb6 dX2_copyAll_48 ?_
    refine z_pR hx hb hq hown hK hW hS fp_RX2_20 t5 (fun h => by cases h) (fun _ => rfl) (fun _ => rfl) dX2_copyAll_51 (fun H locs hW hS => ?_)
    refine lv_aload_n hx hb dX2_copyAll_54 rfl (lv_at hl 0 rfl) ?_
    refine lv_aload_n hx hb dX2_copyAll_55 rfl (lv_at hl 1 rfl) ?_
    refine z_gI hx hb hq hown hK hW fs_RX2_55 t4 dX2_copyAll_56 ?_
    refine z_pI hx hb hq hown hK hW hS fp_RX2_55 t5 (fun h => by cases h) rfl rfl dX2_copyAll_59 (fun H locs hW hS => ?_)
    refine lv_aload_n hx hb dX2_copyAll_62 rfl (lv_at hl 0 rfl) ?_
    obtain ⟨b7, hb7, h⟩ := zd_at h
    refine z_gR hx hb hq hown hK hW fs_RX2_29 t5 hb7 dX2_copyAll_63 ?_
    refine lv_aload_n hx hb dX2_copyAll_66 rfl (lv_at hl 1 rfl) ?_
    obtain ⟨b8, hb8, h⟩ := zd_at h
    refine z_gR hx hb hq hown hK hW fs_RX2_29 t4 hb8 dX2_copyAll_67 ?_
    obtain ⟨t9, h⟩ := zc_at h
    obtain ⟨st11, c10, h⟩ := zd_at h
    refine z_cV hx hb hq hml hown hK hW hS 5 [.ref (G.2.2.2 + b8)] [] rfl (List.mem_singleton.mp t9) (c_X5_copy l G N (zPM (zPR (zPM st o 1 (zM st a1 1)) o 2 (some b6)) o 3 (zM (zPR (zPM st o 1 (zM st a1 1)) o 2 (some b6)) a1 3)) b7 b8 c10) (zi zm1125) (zi zm1126) (zi zm1127) (zi zm32) (zi zm1128) cal_X5_copy rfl rfl hl.1 rfl (Nat.le_of_ble_eq_true rfl) (zR_ok (by omega) (by decide)) ⟨(Nat.le_of_ble_eq_true rfl), (Nat.le_of_ble_eq_true rfl)⟩ dX2_copyAll_70 (fun H locs hW hS => ?_)
    refine W.eq (g2 := F0 m 73 ls []) rfl ?_
    refine lv_aload_n hx hb dX2_copyAll_73 rfl (lv_at hl 0 rfl) ?_
    obtain ⟨t12, h⟩ := zc_at h
    obtain ⟨b13, hb13, h⟩ := zd_at h
    refine z_gR hx hb hq hown hK hW fs_RX2_33 t12 hb13 dX2_copyAll_74 ?_
    refine lv_aload_n hx hb dX2_copyAll_77 rfl (lv_at hl 1 rfl) ?_
    obtain ⟨t14, h⟩ := zc_at h
    obtain ⟨b15, hb15, h⟩ := zd_at h
    refine z_gR hx hb hq hown hK hW fs_RX2_33 t14 hb15 dX2_copyAll_78 ?_
    obtain ⟨t16, h⟩ := zc_at h
    obtain ⟨st18, c17, h⟩ := zd_at h
    refine z_cV hx hb hq hml hown hK hW hS 5 [.ref (G.2.2.2 + b15)] [] rfl (List.mem_singleton.mp t16) (c_X5_copy l G N st11 b13 b15 c17) (zi zm1125) (zi zm1126) (zi zm1127) (zi zm32) (zi zm1128) cal_X5_copy rfl rfl hl.1 rfl (Nat.le_of_ble_eq_true rfl) (zR_ok (by omega) (by decide)) ⟨(Nat.le_of_ble_eq_true rfl), (Nat.le_of_ble_eq_true rfl)⟩ dX2_copyAll_81 (fun H locs hW hS => ?_)
    refine W.eq (g2 := F0 m 84 ls []) rfl ?_
    refine lv_aload_n hx hb dX2_copyAll_84 rfl (lv_at hl 0 rfl) ?_
    refine lv_aload_n hx hb dX2_copyAll_85 rfl (lv_at hl 1 rfl) ?_
    obtain ⟨t19, h⟩ := zc_at h
    refine z_gI hx hb hq hown hK hW fs_RX2_62 t19 dX2_copyAll_86 ?_
    obtain ⟨t20, h⟩ := zc_at h
    refine z_pI hx hb hq hown hK hW hS fp_RX2_62 t20 (fun h => by cases h) rfl rfl dX2_copyAll_89 (fun H locs hW hS => ?_)
    refine lv_aload_n hx hb dX2_copyAll_92 rfl (lv_at hl 0 rfl) ?_
    refine lv_aload_n hx hb dX2_copyAll_93 rfl (lv_at hl 1 rfl) ?_
    refine z_gI hx hb hq hown hK hW fs_RX2_65 t19 dX2_copyAll_94 ?_
    refine z_pI hx hb hq hown hK hW hS fp_RX2_65 t20 (fun h => by cases h) rfl rfl dX2_copyAll_97 (fun H locs hW hS => ?_)
    refine lv_aload_n hx hb dX2_copyAll_100 rfl (lv_at hl 0 rfl) ?_
    obtain ⟨b21, hb21, h⟩ := zd_at h
    refine z_gR hx hb hq hown hK hW fs_RX2_36 t20 hb21 dX2_copyAll_101 ?_
    refine lv_aload_n hx hb dX2_copyAll_104 rfl (lv_at hl 1 rfl) ?_
    obtain ⟨b22, hb22, h⟩ := zd_at h
    refine z_gR hx hb hq hown hK hW fs_RX2_36 t19 hb22 dX2_copyAll_105 ?_
    obtain ⟨t23, h⟩ := zc_at h
    obtain ⟨st25, c24, h⟩ := zd_at h
    refine z_cV hx hb hq hml hown hK hW hS 5 [.ref (G.2.2.2 + b22)] [] rfl (List.mem_singleton.mp t23) (c_X5_copy l G N (zPM (zPM st18 o 6 (zM st18 a1 6)) o 7 (zM (zPM st18 o 6 (zM st18 a1 6)) a1 7)) b21 b22 c24) (zi zm1125) (zi zm1126) (zi zm1127) (zi zm32) (zi zm1128) cal_X5_copy rfl rfl hl.1 rfl (Nat.le_of_ble_eq_true rfl) (zR_ok (by omega) (by decide)) ⟨(Nat.le_of_ble_eq_true rfl), (Nat.le_of_ble_eq_true rfl)⟩ dX2_copyAll_108 (fun H locs hW hS => ?_)
    refine W.eq (g2 := F0 m 111 ls []) rfl ?_
    refine lv_aload_n hx hb dX2_copyAll_111 rfl (lv_at hl 0 rfl) ?_
    obtain ⟨t26, h⟩ := zc_at h
    obtain ⟨b27, hb27, h⟩ := zd_at h
    refine z_gR hx hb hq hown hK hW fs_RX2_39 t26 hb27 dX2_copyAll_112 ?_
    refine lv_aload_n hx hb dX2_copyAll_115 rfl (lv_at hl 1 rfl) ?_
    obtain ⟨t28, h⟩ := zc_at h
    obtain ⟨b29, hb29, h⟩ := zd_at h
    refine z_gR hx hb hq hown hK hW fs_RX2_39 t28 hb29 dX2_copyAll_116 ?_
    obtain ⟨t30, h⟩ := zc_at h
    obtain ⟨st32, c31, h⟩ := zd_at h
    refine z_cV hx hb hq hml hown hK hW hS 5 [.ref (G.2.2.2 + b29)] [] rfl (List.mem_singleton.mp t30) (c_X5_copy l G N st25 b27 b29 c31) (zi zm1125) (zi zm1126) (zi zm1127) (zi zm32) (zi zm1128) cal_X5_copy rfl rfl hl.1 rfl (Nat.le_of_ble_eq_true rfl) (zR_ok (by omega) (by decide)) ⟨(Nat.le_of_ble_eq_true rfl), (Nat.le_of_ble_eq_true rfl)⟩ dX2_copyAll_119 (fun H locs hW hS => ?_)
    refine W.eq (g2 := F0 m 122 ls []) rfl ?_
    refine lv_aload_n hx hb dX2_copyAll_122 rfl (lv_at hl 0 rfl) ?_
    obtain ⟨t33, h⟩ := zc_at h
    obtain ⟨b34, hb34, h⟩ := zd_at h
    refine z_gR hx hb hq hown hK hW fs_RX2_42 t33 hb34 dX2_copyAll_123 ?_
    refine lv_aload_n hx hb dX2_copyAll_126 rfl (lv_at hl 1 rfl) ?_
    obtain ⟨t35, h⟩ := zc_at h
    obtain ⟨b36, hb36, h⟩ := zd_at h
    refine z_gR hx hb hq hown hK hW fs_RX2_42 t35 hb36 dX2_copyAll_127 ?_
    obtain ⟨t37, h⟩ := zc_at h
    obtain ⟨st39, c38, h⟩ := zd_at h
    refine z_cV hx hb hq hml hown hK hW hS 5 [.ref (G.2.2.2 + b36)] [] rfl (List.mem_singleton.mp t37) (c_X5_copy l G N st32 b34 b36 c38) (zi zm1125) (zi zm1126) (zi zm1127) (zi zm32) (zi zm1128) cal_X5_copy rfl rfl hl.1 rfl (Nat.le_of_ble_eq_true rfl) (zR_ok (by omega) (by decide)) ⟨(Nat.le_of_ble_eq_true rfl), (Nat.le_of_ble_eq_true rfl)⟩ dX2_copyAll_130 (fun H locs hW hS => ?_)
    refine W.eq (g2 := F0 m 133 ls []) rfl ?_
    refine lv_aload_n hx hb dX2_copyAll_133 rfl (lv_at hl 0 rfl) ?_
    obtain ⟨t40, h⟩ := zc_at h
    obtain ⟨b41, hb41, h⟩ := zd_at h
    refine z_gR hx hb hq hown hK hW fs_RX2_45 t40 hb41 dX2_copyAll_134 ?_
    refine lv_aload_n hx hb dX2_copyAll_137 rfl (lv_at hl 1 rfl) ?_
    obtain ⟨t42, h⟩ := zc_at h
    obtain ⟨b43, hb43, h⟩ := zd_at h
    refine z_gR hx hb hq hown hK hW fs_RX2_45 t42 hb43 dX2_copyAll_138 ?_
    obtain ⟨t44, h⟩ := zc_at h
    obtain ⟨st46, c45, h⟩ := zd_at h
    refine z_cV hx hb hq hml hown hK hW hS 5 [.ref (G.2.2.2 + b43)] [] rfl (List.mem_singleton.mp t44) (c_X5_copy l G N st39 b41 b43 c45) (zi zm1125) (zi zm1126) (zi zm1127) (zi zm32) (zi zm1128) cal_X5_copy rfl rfl hl.1 rfl (Nat.le_of_ble_eq_true rfl) (zR_ok (by omega) (by decide)) ⟨(Nat.le_of_ble_eq_true rfl), (Nat.le_of_ble_eq_true rfl)⟩ dX2_copyAll_141 (fun H locs hW hS => ?_)
    refine W.eq (g2 := F0 m 144 ls []) rfl ?_
    refine lv_aload_n hx hb dX2_copyAll_144 rfl (lv_at hl 0 rfl) ?_
    obtain ⟨t47, h⟩ := zc_at h
    obtain ⟨b48, hb48, h⟩ := zd_at h
    refine z_gR hx hb hq hown hK hW fs_RX2_48 t47 hb48 dX2_copyAll_145 ?_
    refine lv_aload_n hx hb dX2_copyAll_148 rfl (lv_at hl 1 rfl) ?_
    obtain ⟨t49, h⟩ := zc_at h
    obtain ⟨b50, hb50, h⟩ := zd_at h
    refine z_gR hx hb hq hown hK hW fs_RX2_48 t49 hb50 dX2_copyAll_149 ?_
    obtain ⟨t51, h⟩ := zc_at h
    obtain ⟨st53, c52, h⟩ := zd_at h
    refine z_cV hx hb hq hml hown hK hW hS 5 [.ref (G.2.2.2 + b50)] [] rfl (List.mem_singleton.mp t51) (c_X5_copy l G N st46 b48 b50 c52) (zi zm1125) (zi zm1126) (zi zm1127) (zi zm32) (zi zm1128) cal_X5_copy rfl rfl hl.1 rfl (Nat.le_of_ble_eq_true rfl) (zR_ok (by omega) (by decide)) ⟨(Nat.le_of_ble_eq_true rfl), (Nat.le_of_ble_eq_true rfl)⟩ dX2_copyAll_152 (fun H locs hW hS => ?_)
    refine W.eq (g2 := F0 m 155 ls []) rfl ?_
    obtain rfl := Option.some.inj h
    exact z_rv hx hb hr hlk hW hS (Nat.le_of_ble_eq_true rfl) (Nat.le_of_ble_eq_true rfl) dX2_copyAll_155
  have B2 : ∀ (n2 : Nat) (st : zS) (x2 : Int32) (H : Heap) (locs : List Loc) (ls : Array Slot), f_X2_copyAll_2 N o a1 n2 st x2 = some st' → zWd G st H → va_S (zA G) s.heap H locs → lv_has ls 3 [(0, .ref (G.2.2.2 + o)), (1, .ref (G.2.2.2 + a1)), (2, .int x2)] → W p l e (zRm 2 0 0) s m args below meth c H locs 0 0 (MQ below (zQ G none st') args s 0 0 (zA G)) (F0 m 2 ls []) := by
    intro n2
    induction n2 with
    | zero =>
      intro st x2 H locs ls h
      unfold f_X2_copyAll_2 at h
      cases h
    | succ n2 ih2 =>
      intro st x2 H locs ls h hW hS hl
      unfold f_X2_copyAll_2 at h
      refine lv_iload_n hx hb dX2_copyAll_2 rfl (lv_at hl 2 rfl) ?_
      refine lv_aload_n hx hb dX2_copyAll_3 rfl (lv_at hl 0 rfl) ?_
      obtain ⟨t1, h⟩ := zc_at h
      obtain ⟨b2, hb2, h⟩ := zd_at h
      refine z_gR hx hb hq hown hK hW fs_RX2_11 t1 hb2 dX2_copyAll_4 ?_
      obtain ⟨t3, h⟩ := zc_at h
      refine z_len hx hb hK hW (Or.inr (Or.inr (List.mem_singleton.mp t3))) dX2_copyAll_7 ?_
      refine z_br (lv_icmp_ge (tgt := 38) hx hb dX2_copyAll_8 (by decide)) h (fun h => ?_) (fun h => ?_)
      · exact B38 st _ _ _ h hW hS (lv_sub hl [0, 1] rfl)
      · refine lv_iload_n hx hb dX2_copyAll_11 rfl (lv_at hl 2 rfl) ?_
        refine lv_aload_n hx hb dX2_copyAll_12 rfl (lv_at hl 1 rfl) ?_
        obtain ⟨t54, h⟩ := zc_at h
        obtain ⟨b55, hb55, h⟩ := zd_at h
        refine z_gR hx hb hq hown hK hW fs_RX2_11 t54 hb55 dX2_copyAll_13 ?_
        obtain ⟨t56, h⟩ := zc_at h
        refine z_len hx hb hK hW (Or.inr (Or.inr (List.mem_singleton.mp t56))) dX2_copyAll_16 ?_
        refine z_br (lv_icmp_ge (tgt := 38) hx hb dX2_copyAll_17 (by decide)) h (fun h => ?_) (fun h => ?_)
        · exact B38 st _ _ _ h hW hS (lv_sub hl [0, 1] rfl)
        · refine lv_aload_n hx hb dX2_copyAll_20 rfl (lv_at hl 0 rfl) ?_
          refine z_gR hx hb hq hown hK hW fs_RX2_11 t1 hb2 dX2_copyAll_21 ?_
          refine lv_iload_n hx hb dX2_copyAll_24 rfl (lv_at hl 2 rfl) ?_
          refine lv_aload_n hx hb dX2_copyAll_25 rfl (lv_at hl 1 rfl) ?_
          refine z_gR hx hb hq hown hK hW fs_RX2_11 t54 hb55 dX2_copyAll_26 ?_
          refine lv_iload_n hx hb dX2_copyAll_29 rfl (lv_at hl 2 rfl) ?_
          obtain ⟨t57, h⟩ := zc_at h
          refine z_alL hx hb hK hW (List.mem_singleton.mp t56) t57 dX2_copyAll_30 ?_
          obtain ⟨t58, h⟩ := zc_at h
          obtain ⟨t59, h⟩ := zc_at h
          refine z_asX hx hb hK hW hS (List.mem_singleton.mp t3) t59 t58 dX2_copyAll_31 (fun H locs hW hS => ?_)
          refine lv_iinc (v := (x2 + (nI 1))) (lv' := [(2, .int ((x2 + (nI 1)))), (0, .ref (G.2.2.2 + o)), (1, .ref (G.2.2.2 + a1))]) hx hb dX2_copyAll_32 hl (k := 2) rfl rfl (by decide) rfl (fun ls hl => ?_)
          refine lv_goto (tgt := 2) hx hb dX2_copyAll_35 (by decide) ?_
          exact ih2 (zPR st b2 (x2).toNatClampNeg (zR st b55 (x2).toNatClampNeg)) (x2 + (nI 1)) _ _ _ h hW hS (lv_sub hl [1, 2, 0] rfl)
  refine lv_iconst (v := (nI 0)) hx hb dX2_copyAll_0 (by decide) ?_
  refine lv_istore_n (lv' := [(2, .int ((nI 0))), (0, .ref (G.2.2.2 + o)), (1, .ref (G.2.2.2 + a1))]) hx hb dX2_copyAll_1 rfl hl (by decide) rfl (fun ls hl => ?_)
  exact B2 N st (nI 0) _ _ _ h hW hS (lv_sub hl [1, 2, 0] rfl)
def f_X2_wayCount (st : zS) (o : Nat) : Option Int32 := (if zTg st o ∈ [12] then (some (zM st o 1)) else none)
set_option maxHeartbeats 1000000 in
set_option maxRecDepth 100000 in
theorem c_X2_wayCount (l : Launch) (G : zG) (st : zS) (o : Nat) {r : Int32} (h : f_X2_wayCount st o = some r) : zMet l G yX2_wayCount cX2_wayCount 1 (some .int) 0 0 0 [.ref (G.2.2.2 + o)] st (some (.int r)) st := by
  refine zMet_of (by decide +kernel) ?_
  intro p e s m args below meth c X
  obtain ⟨hx, hb, hr, hml, hown, hq, hlk, hK, -, hin, hW, hS⟩ := X
  have hown : s.vm.findClass RX2 = some m.cls := hown
  refine z_ent (by exact Nat.le_of_ble_eq_true rfl) (fun ls hl => ?_)
  have hl : lv_has ls 1 [(0, .ref (G.2.2.2 + o))] := hl
  unfold f_X2_wayCount at h
  refine lv_aload_n hx hb dX2_wayCount_0 rfl (lv_at hl 0 rfl) ?_
  obtain ⟨t1, h⟩ := zc_at h
  refine z_gI hx hb hq hown hK hW fs_RX2_51 t1 dX2_wayCount_1 ?_
  obtain rfl := Option.some.inj h
  exact z_ri hx hb hr hlk hW hS (Nat.le_of_ble_eq_true rfl) (Nat.le_of_ble_eq_true rfl) dX2_wayCount_4
def f_X2_wayOf (st : zS) (o : Nat) (a1 : Int32) : Option (Option Nat) := (if a1 < 0 then (some (none : Option Nat)) else (if zTg st o ∈ [12] then (if (zM st o 1) ≤ a1 then (some (none : Option Nat)) else (Option.bind (zR st o 0) (fun b2 => (if zTg st b2 ∈ [3] then (if (nI (zLn st b2)) ≤ a1 then (some (none : Option Nat)) else (if zin a1 (zLn st b2) then (some ((zR st b2 (a1).toNatClampNeg) : Option Nat)) else none)) else none)))) else none))
set_option maxHeartbeats 1000000 in
set_option maxRecDepth 100000 in
theorem c_X2_wayOf (l : Launch) (G : zG) (st : zS) (o : Nat) (a1 : Int32) {r : Option Nat} (h : f_X2_wayOf st o a1 = some r) : zMet l G yX2_wayOf cX2_wayOf 2 (some (.object "TwoPens$Line")) 0 0 0 [.ref (G.2.2.2 + o), .int a1] st (some (zrf G.2.2.2 r)) st := by
  refine zMet_of (by decide +kernel) ?_
  intro p e s m args below meth c X
  obtain ⟨hx, hb, hr, hml, hown, hq, hlk, hK, -, hin, hW, hS⟩ := X
  have hown : s.vm.findClass RX2 = some m.cls := hown
  refine z_ent (by exact Nat.le_of_ble_eq_true rfl) (fun ls hl => ?_)
  have hl : lv_has ls 2 [(0, .ref (G.2.2.2 + o)), (1, .int a1)] := hl
  unfold f_X2_wayOf at h
  refine lv_iload_n hx hb dX2_wayOf_0 rfl (lv_at hl 1 rfl) ?_
  refine z_br (lv_if_lt (tgt := 30) hx hb dX2_wayOf_1 (by decide)) h (fun h => ?_) (fun h => ?_)
  · refine lv_null hx hb dX2_wayOf_30 ?_
    obtain rfl := Option.some.inj h
    exact z_ra (r := none) hx hb hr hlk hW hS (Nat.le_of_ble_eq_true rfl) (Nat.le_of_ble_eq_true rfl) dX2_wayOf_31
  · refine lv_iload_n hx hb dX2_wayOf_4 rfl (lv_at hl 1 rfl) ?_
    refine lv_aload_n hx hb dX2_wayOf_5 rfl (lv_at hl 0 rfl) ?_
    obtain ⟨t1, h⟩ := zc_at h
    refine z_gI hx hb hq hown hK hW fs_RX2_51 t1 dX2_wayOf_6 ?_
    refine z_br (lv_icmp_ge (tgt := 30) hx hb dX2_wayOf_9 (by decide)) h (fun h => ?_) (fun h => ?_)
    · refine lv_null hx hb dX2_wayOf_30 ?_
      obtain rfl := Option.some.inj h
      exact z_ra (r := none) hx hb hr hlk hW hS (Nat.le_of_ble_eq_true rfl) (Nat.le_of_ble_eq_true rfl) dX2_wayOf_31
    · refine lv_iload_n hx hb dX2_wayOf_12 rfl (lv_at hl 1 rfl) ?_
      refine lv_aload_n hx hb dX2_wayOf_13 rfl (lv_at hl 0 rfl) ?_
      obtain ⟨b2, hb2, h⟩ := zd_at h
      refine z_gR hx hb hq hown hK hW fs_RX2_11 t1 hb2 dX2_wayOf_14 ?_
      obtain ⟨t3, h⟩ := zc_at h
      refine z_len hx hb hK hW (Or.inr (Or.inr (List.mem_singleton.mp t3))) dX2_wayOf_17 ?_
      refine z_br (lv_icmp_ge (tgt := 30) hx hb dX2_wayOf_18 (by decide)) h (fun h => ?_) (fun h => ?_)
      · refine lv_null hx hb dX2_wayOf_30 ?_
        obtain rfl := Option.some.inj h
        exact z_ra (r := none) hx hb hr hlk hW hS (Nat.le_of_ble_eq_true rfl) (Nat.le_of_ble_eq_true rfl) dX2_wayOf_31
      · refine lv_aload_n hx hb dX2_wayOf_21 rfl (lv_at hl 0 rfl) ?_
        refine z_gR hx hb hq hown hK hW fs_RX2_11 t1 hb2 dX2_wayOf_22 ?_
        refine lv_iload_n hx hb dX2_wayOf_25 rfl (lv_at hl 1 rfl) ?_
        obtain ⟨t4, h⟩ := zc_at h
        refine z_alL hx hb hK hW (List.mem_singleton.mp t3) t4 dX2_wayOf_26 ?_
        refine lv_goto (tgt := 31) hx hb dX2_wayOf_27 (by decide) ?_
        obtain rfl := Option.some.inj h
        exact z_ra (r := (zR st b2 (a1).toNatClampNeg)) hx hb hr hlk hW hS (Nat.le_of_ble_eq_true rfl) (Nat.le_of_ble_eq_true rfl) dX2_wayOf_31
def f_X2_addWay (st : zS) (o : Nat) (a1 : Nat) : Option (zS × Int32) := (if zTg st o ∈ [12] then (if (zM st o 1) < 0 then (some (st, (nI 0))) else (Option.bind (zR st o 0) (fun b2 => (if zTg st b2 ∈ [3] then (if (zM st o 1) < (nI (zLn st b2)) then (if zin (zM st o 1) (zLn st b2) then (if zTg st a1 ∈ zLs then (some ((zPM (zPR st b2 ((zM st o 1)).toNatClampNeg (some a1)) o 1 ((zM (zPR st b2 ((zM st o 1)).toNatClampNeg (some a1)) o 1) + (nI 1))), (nI 1))) else none) else none) else (some (st, (nI 0)))) else none)))) else none)
set_option maxHeartbeats 1000000 in
set_option maxRecDepth 100000 in
theorem c_X2_addWay (l : Launch) (G : zG) (st : zS) (o : Nat) (a1 : Nat) {st' : zS} {r : Int32} (h : f_X2_addWay st o a1 = some (st', r)) : zMet l G yX2_addWay cX2_addWay 2 (some .boolean) 0 0 0 [.ref (G.2.2.2 + o), .ref (G.2.2.2 + a1)] st (some (.int r)) st' := by
  refine zMet_of (by decide +kernel) ?_
  intro p e s m args below meth c X
  obtain ⟨hx, hb, hr, hml, hown, hq, hlk, hK, -, hin, hW, hS⟩ := X
  have hown : s.vm.findClass RX2 = some m.cls := hown
  refine z_ent (by exact Nat.le_of_ble_eq_true rfl) (fun ls hl => ?_)
  have hl : lv_has ls 2 [(0, .ref (G.2.2.2 + o)), (1, .ref (G.2.2.2 + a1))] := hl
  unfold f_X2_addWay at h
  refine lv_aload_n hx hb dX2_addWay_0 rfl (lv_at hl 0 rfl) ?_
  obtain ⟨t1, h⟩ := zc_at h
  refine z_gI hx hb hq hown hK hW fs_RX2_51 t1 dX2_addWay_1 ?_
  refine z_br (lv_if_lt (tgt := 19) hx hb dX2_addWay_4 (by decide)) h (fun h => ?_) (fun h => ?_)
  · refine lv_iconst (v := (nI 0)) hx hb dX2_addWay_19 (by decide) ?_
    obtain ⟨rfl, rfl⟩ := Prod.mk.inj (Option.some.inj h)
    exact z_rz hx hb hr hlk rfl hW hS (Nat.le_of_ble_eq_true rfl) (Nat.le_of_ble_eq_true rfl) dX2_addWay_20
  · refine lv_aload_n hx hb dX2_addWay_7 rfl (lv_at hl 0 rfl) ?_
    refine z_gI hx hb hq hown hK hW fs_RX2_51 t1 dX2_addWay_8 ?_
    refine lv_aload_n hx hb dX2_addWay_11 rfl (lv_at hl 0 rfl) ?_
    obtain ⟨b2, hb2, h⟩ := zd_at h
    refine z_gR hx hb hq hown hK hW fs_RX2_11 t1 hb2 dX2_addWay_12 ?_
    obtain ⟨t3, h⟩ := zc_at h
    refine z_len hx hb hK hW (Or.inr (Or.inr (List.mem_singleton.mp t3))) dX2_addWay_15 ?_
    refine z_br (lv_icmp_lt (tgt := 21) hx hb dX2_addWay_16 (by decide)) h (fun h => ?_) (fun h => ?_)
    · refine lv_aload_n hx hb dX2_addWay_21 rfl (lv_at hl 0 rfl) ?_
      refine z_gR hx hb hq hown hK hW fs_RX2_11 t1 hb2 dX2_addWay_22 ?_
      refine lv_aload_n hx hb dX2_addWay_25 rfl (lv_at hl 0 rfl) ?_
      refine z_gI hx hb hq hown hK hW fs_RX2_51 t1 dX2_addWay_26 ?_
      refine lv_aload_n hx hb dX2_addWay_29 rfl (lv_at hl 1 rfl) ?_
      obtain ⟨t4, h⟩ := zc_at h
      obtain ⟨t5, h⟩ := zc_at h
      refine z_asL hx hb hK hW hS (List.mem_singleton.mp t3) t5 t4 dX2_addWay_30 (fun H locs hW hS => ?_)
      refine lv_aload_n hx hb dX2_addWay_31 rfl (lv_at hl 0 rfl) ?_
      refine lv_dup hx hb dX2_addWay_32 rfl ?_
      refine z_gI hx hb hq hown hK hW fs_RX2_51 t1 dX2_addWay_33 ?_
      refine lv_iconst (v := (nI 1)) hx hb dX2_addWay_36 (by decide) ?_
      refine lv_iadd hx hb dX2_addWay_37 ?_
      refine z_pI hx hb hq hown hK hW hS fp_RX2_51 t1 (fun h => by cases h) rfl rfl dX2_addWay_38 (fun H locs hW hS => ?_)
      refine lv_iconst (v := (nI 1)) hx hb dX2_addWay_41 (by decide) ?_
      obtain ⟨rfl, rfl⟩ := Prod.mk.inj (Option.some.inj h)
      exact z_rz hx hb hr hlk rfl hW hS (Nat.le_of_ble_eq_true rfl) (Nat.le_of_ble_eq_true rfl) dX2_addWay_42
    · refine lv_iconst (v := (nI 0)) hx hb dX2_addWay_19 (by decide) ?_
      obtain ⟨rfl, rfl⟩ := Prod.mk.inj (Option.some.inj h)
      exact z_rz hx hb hr hlk rfl hW hS (Nat.le_of_ble_eq_true rfl) (Nat.le_of_ble_eq_true rfl) dX2_addWay_20
def f_X2_putWay (st : zS) (o : Nat) (a1 : Int32) (a2 : Nat) : Option zS := (if a1 < 0 then (some st) else (if zTg st o ∈ [12] then (if (zM st o 1) ≤ a1 then (some st) else (Option.bind (zR st o 0) (fun b2 => (if zTg st b2 ∈ [3] then (if (nI (zLn st b2)) ≤ a1 then (some st) else (if zin a1 (zLn st b2) then (if zTg st a2 ∈ zLs then (some (zPR st b2 (a1).toNatClampNeg (some a2))) else none) else none)) else none)))) else none))
set_option maxHeartbeats 1000000 in
set_option maxRecDepth 100000 in
theorem c_X2_putWay (l : Launch) (G : zG) (st : zS) (o : Nat) (a1 : Int32) (a2 : Nat) {st' : zS} (h : f_X2_putWay st o a1 a2 = some st') : zMet l G yX2_putWay cX2_putWay 3 none 0 0 0 [.ref (G.2.2.2 + o), .int a1, .ref (G.2.2.2 + a2)] st none st' := by
  refine zMet_of (by decide +kernel) ?_
  intro p e s m args below meth c X
  obtain ⟨hx, hb, hr, hml, hown, hq, hlk, hK, -, hin, hW, hS⟩ := X
  have hown : s.vm.findClass RX2 = some m.cls := hown
  refine z_ent (by exact Nat.le_of_ble_eq_true rfl) (fun ls hl => ?_)
  have hl : lv_has ls 3 [(0, .ref (G.2.2.2 + o)), (1, .int a1), (2, .ref (G.2.2.2 + a2))] := hl
  unfold f_X2_putWay at h
  refine lv_iload_n hx hb dX2_putWay_0 rfl (lv_at hl 1 rfl) ?_
  refine z_br (lv_if_lt (tgt := 28) hx hb dX2_putWay_1 (by decide)) h (fun h => ?_) (fun h => ?_)
  · obtain rfl := Option.some.inj h
    exact z_rv hx hb hr hlk hW hS (Nat.le_of_ble_eq_true rfl) (Nat.le_of_ble_eq_true rfl) dX2_putWay_28
  · refine lv_iload_n hx hb dX2_putWay_4 rfl (lv_at hl 1 rfl) ?_
    refine lv_aload_n hx hb dX2_putWay_5 rfl (lv_at hl 0 rfl) ?_
    obtain ⟨t1, h⟩ := zc_at h
    refine z_gI hx hb hq hown hK hW fs_RX2_51 t1 dX2_putWay_6 ?_
    refine z_br (lv_icmp_ge (tgt := 28) hx hb dX2_putWay_9 (by decide)) h (fun h => ?_) (fun h => ?_)
    · obtain rfl := Option.some.inj h
      exact z_rv hx hb hr hlk hW hS (Nat.le_of_ble_eq_true rfl) (Nat.le_of_ble_eq_true rfl) dX2_putWay_28
    · refine lv_iload_n hx hb dX2_putWay_12 rfl (lv_at hl 1 rfl) ?_
      refine lv_aload_n hx hb dX2_putWay_13 rfl (lv_at hl 0 rfl) ?_
      obtain ⟨b2, hb2, h⟩ := zd_at h
      refine z_gR hx hb hq hown hK hW fs_RX2_11 t1 hb2 dX2_putWay_14 ?_
      obtain ⟨t3, h⟩ := zc_at h
      refine z_len hx hb hK hW (Or.inr (Or.inr (List.mem_singleton.mp t3))) dX2_putWay_17 ?_
      refine z_br (lv_icmp_ge (tgt := 28) hx hb dX2_putWay_18 (by decide)) h (fun h => ?_) (fun h => ?_)
      · obtain rfl := Option.some.inj h
        exact z_rv hx hb hr hlk hW hS (Nat.le_of_ble_eq_true rfl) (Nat.le_of_ble_eq_true rfl) dX2_putWay_28
      · refine lv_aload_n hx hb dX2_putWay_21 rfl (lv_at hl 0 rfl) ?_
        refine z_gR hx hb hq hown hK hW fs_RX2_11 t1 hb2 dX2_putWay_22 ?_
        refine lv_iload_n hx hb dX2_putWay_25 rfl (lv_at hl 1 rfl) ?_
        refine lv_aload_n hx hb dX2_putWay_26 rfl (lv_at hl 2 rfl) ?_
        obtain ⟨t4, h⟩ := zc_at h
        obtain ⟨t5, h⟩ := zc_at h
        refine z_asL hx hb hK hW hS (List.mem_singleton.mp t3) t5 t4 dX2_putWay_27 (fun H locs hW hS => ?_)
        obtain rfl := Option.some.inj h
        exact z_rv hx hb hr hlk hW hS (Nat.le_of_ble_eq_true rfl) (Nat.le_of_ble_eq_true rfl) dX2_putWay_28
def f_X3_seconds (o : Nat) (a1 : Int32) : Option Int32 := (some (nI 0))
set_option maxHeartbeats 1000000 in
set_option maxRecDepth 100000 in
theorem c_X3_seconds (l : Launch) (G : zG) (st : zS) (o : Nat) (a1 : Int32) {r : Int32} (h : f_X3_seconds o a1 = some r) : zMet l G yX3_seconds cX3_seconds 2 (some .int) 0 0 0 [.ref (G.2.2.2 + o), .int a1] st (some (.int r)) st := by
  refine zMet_of (by decide +kernel) ?_
  intro p e s m args below meth c X
  obtain ⟨hx, hb, hr, hml, hown, hq, hlk, hK, -, hin, hW, hS⟩ := X
  have hown : s.vm.findClass RX3 = some m.cls := hown
  refine z_ent (by exact Nat.le_of_ble_eq_true rfl) (fun ls hl => ?_)
  have hl : lv_has ls 2 [(0, .ref (G.2.2.2 + o)), (1, .int a1)] := hl
  unfold f_X3_seconds at h
  refine lv_iconst (v := (nI 0)) hx hb dX3_seconds_0 (by decide) ?_
  obtain rfl := Option.some.inj h
  exact z_ri hx hb hr hlk hW hS (Nat.le_of_ble_eq_true rfl) (Nat.le_of_ble_eq_true rfl) dX3_seconds_1
def f_X4_seconds (st : zS) (o : Nat) (a1 : Int32) : Option Int32 := (zl (a1 / (nI 10)) (fun v1 => (zl (((nI 10) * ((v1 * (v1 - (nI 1))) / (nI 2))) + ((a1 - a1 / (nI 10) * (nI 10)) * v1)) (fun v2 => (if zTg st o ∈ zLs then (some ((a1 * (zM st o 3)) + (v2 * (zM st o 2)))) else none)))))
set_option maxHeartbeats 1000000 in
set_option maxRecDepth 100000 in
theorem c_X4_seconds (l : Launch) (G : zG) (st : zS) (o : Nat) (a1 : Int32) {r : Int32} (h : f_X4_seconds st o a1 = some r) : zMet l G yX4_seconds cX4_seconds 4 (some .int) 0 0 0 [.ref (G.2.2.2 + o), .int a1] st (some (.int r)) st := by
  refine zMet_of (by decide +kernel) ?_
  intro p e s m args below meth c X
  obtain ⟨hx, hb, hr, hml, hown, hq, hlk, hK, -, hin, hW, hS⟩ := X
  have hown : s.vm.findClass RX4 = some m.cls := hown
  refine z_ent (by exact Nat.le_of_ble_eq_true rfl) (fun ls hl => ?_)
  have hl : lv_has ls 4 [(0, .ref (G.2.2.2 + o)), (1, .int a1)] := hl
  unfold f_X4_seconds at h
  refine lv_iload_n hx hb dX4_seconds_0 rfl (lv_at hl 1 rfl) ?_
  refine lv_bipush (v := (nI 10)) hx hb dX4_seconds_1 (by decide) ?_
  refine lv_idiv hx hb dX4_seconds_3 (by decide) ?_
  refine lv_topi (fun v1 ev1 => ?_)
  have h := zl_at ev1 h
  refine lv_istore_n (lv' := [(2, .int v1), (0, .ref (G.2.2.2 + o)), (1, .int a1)]) hx hb dX4_seconds_4 rfl hl (by decide) rfl (fun ls hl => ?_)
  refine lv_bipush (v := (nI 10)) hx hb dX4_seconds_5 (by decide) ?_
  refine lv_iload_n hx hb dX4_seconds_7 rfl (lv_at hl 0 rfl) ?_
  refine lv_iload_n hx hb dX4_seconds_8 rfl (lv_at hl 0 rfl) ?_
  refine lv_iconst (v := (nI 1)) hx hb dX4_seconds_9 (by decide) ?_
  refine lv_isub hx hb dX4_seconds_10 ?_
  refine lv_imul hx hb dX4_seconds_11 ?_
  refine lv_iconst (v := (nI 2)) hx hb dX4_seconds_12 (by decide) ?_
  refine lv_idiv hx hb dX4_seconds_13 (by decide) ?_
  refine lv_imul hx hb dX4_seconds_14 ?_
  refine lv_iload_n hx hb dX4_seconds_15 rfl (lv_at hl 2 rfl) ?_
  refine lv_bipush (v := (nI 10)) hx hb dX4_seconds_16 (by decide) ?_
  refine lv_irem hx hb dX4_seconds_18 (by decide) ?_
  refine lv_iload_n hx hb dX4_seconds_19 rfl (lv_at hl 0 rfl) ?_
  refine lv_imul hx hb dX4_seconds_20 ?_
  refine lv_iadd hx hb dX4_seconds_21 ?_
  refine lv_topi (fun v2 ev2 => ?_)
  have h := zl_at ev2 h
  refine lv_istore_n (lv' := [(3, .int v2), (2, .int v1), (0, .ref (G.2.2.2 + o)), (1, .int a1)]) hx hb dX4_seconds_22 rfl hl (by decide) rfl (fun ls hl => ?_)
  refine lv_iload_n hx hb dX4_seconds_23 rfl (lv_at hl 3 rfl) ?_
  refine lv_aload_n hx hb dX4_seconds_24 rfl (lv_at hl 2 rfl) ?_
  obtain ⟨t3, h⟩ := zc_at h
  refine z_gI hx hb hq hown hK hW fs_RX4_19 t3 dX4_seconds_25 ?_
  refine lv_imul hx hb dX4_seconds_28 ?_
  refine lv_iload_n hx hb dX4_seconds_29 rfl (lv_at hl 0 rfl) ?_
  refine lv_aload_n hx hb dX4_seconds_30 rfl (lv_at hl 2 rfl) ?_
  refine z_gI hx hb hq hown hK hW fs_RX4_16 t3 dX4_seconds_31 ?_
  refine lv_imul hx hb dX4_seconds_34 ?_
  refine lv_iadd hx hb dX4_seconds_35 ?_
  obtain rfl := Option.some.inj h
  exact z_ri hx hb hr hlk hW hS (Nat.le_of_ble_eq_true rfl) (Nat.le_of_ble_eq_true rfl) dX4_seconds_36
def f_X7_rowAt (st : zS) (o : Nat) (a1 : Int32) : Option Int32 := (if a1 < 0 then (some (nI 0)) else (if zTg st o ∈ [17] then (Option.bind (zR st o 4) (fun b2 => (if zTg st b2 ∈ [1] then (if (nI (zLn st b2)) ≤ a1 then (some (nI 0)) else (if zin a1 (zLn st b2) then (some (zM st b2 (a1).toNatClampNeg)) else none)) else none))) else none))
set_option maxHeartbeats 1000000 in
set_option maxRecDepth 100000 in
theorem c_X7_rowAt (l : Launch) (G : zG) (st : zS) (o : Nat) (a1 : Int32) {r : Int32} (h : f_X7_rowAt st o a1 = some r) : zMet l G yX7_rowAt cX7_rowAt 2 (some .int) 0 0 0 [.ref (G.2.2.2 + o), .int a1] st (some (.int r)) st := by
  refine zMet_of (by decide +kernel) ?_
  intro p e s m args below meth c X
  obtain ⟨hx, hb, hr, hml, hown, hq, hlk, hK, -, hin, hW, hS⟩ := X
  have hown : s.vm.findClass RX7 = some m.cls := hown
  refine z_ent (by exact Nat.le_of_ble_eq_true rfl) (fun ls hl => ?_)
  have hl : lv_has ls 2 [(0, .ref (G.2.2.2 + o)), (1, .int a1)] := hl
  unfold f_X7_rowAt at h
  refine lv_iload_n hx hb dX7_rowAt_0 rfl (lv_at hl 1 rfl) ?_
  refine z_br (lv_if_lt (tgt := 22) hx hb dX7_rowAt_1 (by decide)) h (fun h => ?_) (fun h => ?_)
  · refine lv_iconst (v := (nI 0)) hx hb dX7_rowAt_22 (by decide) ?_
    obtain rfl := Option.some.inj h
    exact z_ri hx hb hr hlk hW hS (Nat.le_of_ble_eq_true rfl) (Nat.le_of_ble_eq_true rfl) dX7_rowAt_23
  · refine lv_iload_n hx hb dX7_rowAt_4 rfl (lv_at hl 1 rfl) ?_
    refine lv_aload_n hx hb dX7_rowAt_5 rfl (lv_at hl 0 rfl) ?_
    obtain ⟨t1, h⟩ := zc_at h
    obtain ⟨b2, hb2, h⟩ := zd_at h
    refine z_gR hx hb hq hown hK hW fs_RX7_7 t1 hb2 dX7_rowAt_6 ?_
    obtain ⟨t3, h⟩ := zc_at h
    refine z_len hx hb hK hW (Or.inl (List.mem_singleton.mp t3)) dX7_rowAt_9 ?_
    refine z_br (lv_icmp_ge (tgt := 22) hx hb dX7_rowAt_10 (by decide)) h (fun h => ?_) (fun h => ?_)
    · refine lv_iconst (v := (nI 0)) hx hb dX7_rowAt_22 (by decide) ?_
      obtain rfl := Option.some.inj h
      exact z_ri hx hb hr hlk hW hS (Nat.le_of_ble_eq_true rfl) (Nat.le_of_ble_eq_true rfl) dX7_rowAt_23
    · refine lv_aload_n hx hb dX7_rowAt_13 rfl (lv_at hl 0 rfl) ?_
      refine z_gR hx hb hq hown hK hW fs_RX7_7 t1 hb2 dX7_rowAt_14 ?_
      refine lv_iload_n hx hb dX7_rowAt_17 rfl (lv_at hl 1 rfl) ?_
      obtain ⟨t4, h⟩ := zc_at h
      refine z_alI hx hb hK hW (List.mem_singleton.mp t3) t4 dX7_rowAt_18 ?_
      refine lv_goto (tgt := 23) hx hb dX7_rowAt_19 (by decide) ?_
      obtain rfl := Option.some.inj h
      exact z_ri hx hb hr hlk hW hS (Nat.le_of_ble_eq_true rfl) (Nat.le_of_ble_eq_true rfl) dX7_rowAt_23
def f_X7_seconds (st : zS) (o : Nat) (a1 : Int32) : Option Int32 := (if zTg st o ∈ [17] then (Option.bind (f_X7_rowAt st o (a1 - a1 / (nI 4) * (nI 4))) (fun r3 => (some r3))) else none)
set_option maxHeartbeats 1000000 in
set_option maxRecDepth 100000 in
theorem c_X7_seconds (l : Launch) (G : zG) (st : zS) (o : Nat) (a1 : Int32) {r : Int32} (h : f_X7_seconds st o a1 = some r) : zMet l G yX7_seconds cX7_seconds 2 (some .int) 1 0 0 [.ref (G.2.2.2 + o), .int a1] st (some (.int r)) st := by
  refine zMet_of (by decide +kernel) ?_
  intro p e s m args below meth c X
  obtain ⟨hx, hb, hr, hml, hown, hq, hlk, hK, -, hin, hW, hS⟩ := X
  have hown : s.vm.findClass RX7 = some m.cls := hown
  refine z_ent (by exact Nat.le_of_ble_eq_true rfl) (fun ls hl => ?_)
  have hl : lv_has ls 2 [(0, .ref (G.2.2.2 + o)), (1, .int a1)] := hl
  unfold f_X7_seconds at h
  refine lv_aload_n hx hb dX7_seconds_0 rfl (lv_at hl 0 rfl) ?_
  refine lv_iload_n hx hb dX7_seconds_1 rfl (lv_at hl 1 rfl) ?_
  refine lv_iconst (v := (nI 4)) hx hb dX7_seconds_2 (by decide) ?_
  refine lv_irem hx hb dX7_seconds_3 (by decide) ?_
  obtain ⟨t1, h⟩ := zc_at h
  obtain ⟨r3, c2, h⟩ := zd_at h
  refine z_cV hx hb hq hml hown hK hW hS 7 [.int ((a1 - a1 / (nI 4) * (nI 4)))] [] rfl (List.mem_singleton.mp t1) (c_X7_rowAt l G st o (a1 - a1 / (nI 4) * (nI 4)) c2) (zi zm509) (zi zm462) (zi zm463) (zi zm364) (zi zm464) cal_X7_rowAt rfl rfl hl.1 rfl (Nat.le_of_ble_eq_true rfl) (zR_ok (by omega) (by decide)) ⟨(Nat.le_of_ble_eq_true rfl), (Nat.le_of_ble_eq_true rfl)⟩ dX7_seconds_4 (fun H locs hW hS => ?_)
  refine W.eq (g2 := F0 m 7 ls [.int r3]) rfl ?_
  obtain rfl := Option.some.inj h
  exact z_ri hx hb hr hlk hW hS (Nat.le_of_ble_eq_true rfl) (Nat.le_of_ble_eq_true rfl) dX7_seconds_7
def f_X10_seconds (st : zS) (o : Nat) (a1 : Int32) : Option Int32 := (if zTg st o ∈ [20, 19] then (some (((a1 / (nI 2)) * ((zM st o 3) + (zM st o 2))) + ((a1 - a1 / (nI 2) * (nI 2)) * (zM st o 3)))) else none)
set_option maxHeartbeats 1000000 in
set_option maxRecDepth 100000 in
theorem c_X10_seconds (l : Launch) (G : zG) (st : zS) (o : Nat) (a1 : Int32) {r : Int32} (h : f_X10_seconds st o a1 = some r) : zMet l G yX10_seconds cX10_seconds 2 (some .int) 0 0 0 [.ref (G.2.2.2 + o), .int a1] st (some (.int r)) st := by
  refine zMet_of (by decide +kernel) ?_
  intro p e s m args below meth c X
  obtain ⟨hx, hb, hr, hml, hown, hq, hlk, hK, -, hin, hW, hS⟩ := X
  have hown : s.vm.findClass RX10 = some m.cls := hown
  refine z_ent (by exact Nat.le_of_ble_eq_true rfl) (fun ls hl => ?_)
  have hl : lv_has ls 2 [(0, .ref (G.2.2.2 + o)), (1, .int a1)] := hl
  unfold f_X10_seconds at h
  refine lv_iload_n hx hb dX10_seconds_0 rfl (lv_at hl 1 rfl) ?_
  refine lv_iconst (v := (nI 2)) hx hb dX10_seconds_1 (by decide) ?_
  refine lv_idiv hx hb dX10_seconds_2 (by decide) ?_
  refine lv_aload_n hx hb dX10_seconds_3 rfl (lv_at hl 0 rfl) ?_
  obtain ⟨t1, h⟩ := zc_at h
  refine z_gI hx hb hq hown hK hW fs_RX10_7 t1 dX10_seconds_4 ?_
  refine lv_aload_n hx hb dX10_seconds_7 rfl (lv_at hl 0 rfl) ?_
  refine z_gI hx hb hq hown hK hW fs_RX10_13 t1 dX10_seconds_8 ?_
  refine lv_iadd hx hb dX10_seconds_11 ?_
  refine lv_imul hx hb dX10_seconds_12 ?_
  refine lv_iload_n hx hb dX10_seconds_13 rfl (lv_at hl 1 rfl) ?_
  refine lv_iconst (v := (nI 2)) hx hb dX10_seconds_14 (by decide) ?_
  refine lv_irem hx hb dX10_seconds_15 (by decide) ?_
  refine lv_aload_n hx hb dX10_seconds_16 rfl (lv_at hl 0 rfl) ?_
  refine z_gI hx hb hq hown hK hW fs_RX10_7 t1 dX10_seconds_17 ?_
  refine lv_imul hx hb dX10_seconds_20 ?_
  refine lv_iadd hx hb dX10_seconds_21 ?_
  obtain rfl := Option.some.inj h
  exact z_ri hx hb hr hlk hW hS (Nat.le_of_ble_eq_true rfl) (Nat.le_of_ble_eq_true rfl) dX10_seconds_22
def f_X9_seconds (st : zS) (o : Nat) (a1 : Int32) : Option Int32 := (if zTg st o ∈ [19] then (if zTg st o ∈ zLs then (Option.bind (f_X10_seconds st o (a1 - a1 / (nI 3) * (nI 3))) (fun r4 => (some (((a1 / (nI 3)) * ((zM st o 3) + ((nI 2) * (zM st o 2)))) + r4)))) else none) else none)
set_option maxHeartbeats 1000000 in
set_option maxRecDepth 100000 in
theorem c_X9_seconds (l : Launch) (G : zG) (st : zS) (o : Nat) (a1 : Int32) {r : Int32} (h : f_X9_seconds st o a1 = some r) : zMet l G yX9_seconds cX9_seconds 2 (some .int) 1 0 0 [.ref (G.2.2.2 + o), .int a1] st (some (.int r)) st := by
  refine zMet_of (by decide +kernel) ?_
  intro p e s m args below meth c X
  obtain ⟨hx, hb, hr, hml, hown, hq, hlk, hK, -, hin, hW, hS⟩ := X
  have hown : s.vm.findClass RX9 = some m.cls := hown
  refine z_ent (by exact Nat.le_of_ble_eq_true rfl) (fun ls hl => ?_)
  have hl : lv_has ls 2 [(0, .ref (G.2.2.2 + o)), (1, .int a1)] := hl
  unfold f_X9_seconds at h
  refine lv_iload_n hx hb dX9_seconds_0 rfl (lv_at hl 1 rfl) ?_
  refine lv_iconst (v := (nI 3)) hx hb dX9_seconds_1 (by decide) ?_
  refine lv_idiv hx hb dX9_seconds_2 (by decide) ?_
  refine lv_aload_n hx hb dX9_seconds_3 rfl (lv_at hl 0 rfl) ?_
  obtain ⟨t1, h⟩ := zc_at h
  refine z_gI hx hb hq hown hK hW fs_RX9_7 t1 dX9_seconds_4 ?_
  refine lv_iconst (v := (nI 2)) hx hb dX9_seconds_7 (by decide) ?_
  refine lv_aload_n hx hb dX9_seconds_8 rfl (lv_at hl 0 rfl) ?_
  refine z_gI hx hb hq hown hK hW fs_RX9_13 t1 dX9_seconds_9 ?_
  refine lv_imul hx hb dX9_seconds_12 ?_
  refine lv_iadd hx hb dX9_seconds_13 ?_
  refine lv_imul hx hb dX9_seconds_14 ?_
  refine lv_aload_n hx hb dX9_seconds_15 rfl (lv_at hl 0 rfl) ?_
  refine lv_iload_n hx hb dX9_seconds_16 rfl (lv_at hl 1 rfl) ?_
  refine lv_iconst (v := (nI 3)) hx hb dX9_seconds_17 (by decide) ?_
  refine lv_irem hx hb dX9_seconds_18 (by decide) ?_
  obtain ⟨t2, h⟩ := zc_at h
  obtain ⟨r4, c3, h⟩ := zd_at h
  refine z_cSU hx hb hq hml hown hK hW hS [.int ((a1 - a1 / (nI 3) * (nI 3)))] [.int (((a1 / (nI 3)) * ((zM st o 3) + ((nI 2) * (zM st o 2)))))] t2 (c_X10_seconds l G st o (a1 - a1 / (nI 3) * (nI 3)) c3) (zi zm517) (zi zm518) (zi zm519) (zi zm520) (zi zm349) (zi zm521) cal_X10_seconds (by decide) rfl hl.1 rfl (Nat.le_of_ble_eq_true rfl) (zR_ok (by omega) (by decide)) ⟨(Nat.le_of_ble_eq_true rfl), (Nat.le_of_ble_eq_true rfl)⟩ dX9_seconds_19 (fun H locs hW hS => ?_)
  refine W.eq (g2 := F0 m 22 ls [.int r4, .int (((a1 / (nI 3)) * ((zM st o 3) + ((nI 2) * (zM st o 2)))))]) rfl ?_
  refine lv_iadd hx hb dX9_seconds_22 ?_
  obtain rfl := Option.some.inj h
  exact z_ri hx hb hr hlk hW hS (Nat.le_of_ble_eq_true rfl) (Nat.le_of_ble_eq_true rfl) dX9_seconds_23
def fv_Line_seconds (st : zS) (o : Nat) (b0 : Int32) : Option Int32 := (if zTg st o ∈ [10] then f_X0_seconds st o b0 else (if zTg st o ∈ [11] then f_X1_seconds st o b0 else (if zTg st o ∈ [13] then f_X3_seconds o b0 else (if zTg st o ∈ [14] then f_X4_seconds st o b0 else (if zTg st o ∈ [17] then f_X7_seconds st o b0 else (if zTg st o ∈ [19] then f_X9_seconds st o b0 else (if zTg st o ∈ [20] then f_X10_seconds st o b0 else none)))))))
def f_X2_secondsOf (st : zS) (o : Nat) (a1 : Int32) (a2 : Int32) : Option Int32 := (if zTg st o ∈ [12] then (Option.bind (f_X2_wayOf st o a1) (fun r3 => (zo r3 (some (nI 0)) (fun q4 => (if (nI 1) ≤ a2 then (Option.bind (fv_Line_seconds st q4 a2) (fun r6 => (some r6))) else (some (nI 0))))))) else none)
theorem zv_RX2_72 {p : Program} {l : Launch} {e : Env} {R : Room} {s : State} {m : MethodId} {args : Array Value} {below : List Frame} {meth : Method} {c : Code} {H : Heap} {locs : List Loc} {cells slots : Nat} {Q : State → Prop} {cc : ByteArray} {pc nL : Nat} {ls : Array Slot} {G : zG} {st0 : List Value}
    (hx : p.tables.exec = Jvm.exec) (hb : c.code = cc) (hq : ∀ w ∈ zT, w.before args s = true) (hml : c.maxLocals = nL) (hown : s.vm.findClass RX2 = some m.cls) (hK : zKn G s) (st : zS) (hW : zWd G st H) (hS : va_S (zA G) s.heap H locs) (rest : List Value) (o : Nat) (b0 : Int32) (r : Int32)
    (h : fv_Line_seconds st o b0 = some r) (hsz : ls.size = nL) (hst : st0 = ([.int b0] : List Value).reverse ++ .ref (G.2.2.2 + o) :: rest) (hcat : (rest.map fun v => v.category).sum ≤ 8) (hR : 1 + 1 ≤ R.frames ∧ 60 + 60 * 1 ≤ R.locals) (hf : cells ≤ R.cells ∧ slots ≤ R.slots) (hdg : decode cc pc = .ok (.invokevirtual 72, 3))
    (kk : ∀ (H1 : Heap) (locs1 : List Loc), zWd G st H1 → va_S (zA G) s.heap H1 locs1 → W p l e R s m args below meth c H1 locs1 cells slots Q (F0 m (pc + 3) ls ((.int r) :: rest))) : W p l e R s m args below meth c H locs cells slots Q (F0 m pc ls st0) := by
  unfold fv_Line_seconds at h
  rcases zi_at h with ⟨t, h⟩ | ⟨-, h⟩
  · exact z_cU (x := ⟨"TwoPens$Line", "seconds", "(I)I"⟩) (owner := "TwoPens$Line") hx hb hq hml hown hK hW hS 0 [.int b0] rest rfl (List.mem_singleton.mp t) (c_X0_seconds l G st o b0 h) (zi zm483) (zi zm484) (zi zm486) (zi zm487) (zi zm352) (zi zm488) (zi zm485) (zi zm493) cal_X4_seconds rfl hsz hst hcat (zR_le hR (by omega) (by decide)) hf hdg kk
  rcases zi_at h with ⟨t, h⟩ | ⟨-, h⟩
  · exact z_cU (x := ⟨"TwoPens$Line", "seconds", "(I)I"⟩) (owner := "TwoPens$Line") hx hb hq hml hown hK hW hS 1 [.int b0] rest rfl (List.mem_singleton.mp t) (c_X1_seconds l G st o b0 h) (zi zm483) (zi zm484) (zi zm494) (zi zm495) (zi zm361) (zi zm496) (zi zm485) (zi zm493) cal_X4_seconds rfl hsz hst hcat (zR_le hR (by omega) (by decide)) hf hdg kk
  rcases zi_at h with ⟨t, h⟩ | ⟨-, h⟩
  · exact z_cU (x := ⟨"TwoPens$Line", "seconds", "(I)I"⟩) (owner := "TwoPens$Line") hx hb hq hml hown hK hW hS 3 [.int b0] rest rfl (List.mem_singleton.mp t) (c_X3_seconds l G st o b0 h) (zi zm483) (zi zm484) (zi zm500) (zi zm501) (zi zm355) (zi zm502) (zi zm485) (zi zm493) cal_X4_seconds rfl hsz hst hcat (zR_le hR (by omega) (by decide)) hf hdg kk
  rcases zi_at h with ⟨t, h⟩ | ⟨-, h⟩
  · exact z_cU (x := ⟨"TwoPens$Line", "seconds", "(I)I"⟩) (owner := "TwoPens$Line") hx hb hq hml hown hK hW hS 4 [.int b0] rest rfl (List.mem_singleton.mp t) (c_X4_seconds l G st o b0 h) (zi zm483) (zi zm484) (zi zm505) (zi zm485) (zi zm367) (zi zm493) (zi zm485) (zi zm493) cal_X4_seconds rfl hsz hst hcat (zR_le hR (by omega) (by decide)) hf hdg kk
  rcases zi_at h with ⟨t, h⟩ | ⟨-, h⟩
  · exact z_cU (x := ⟨"TwoPens$Line", "seconds", "(I)I"⟩) (owner := "TwoPens$Line") hx hb hq hml hown hK hW hS 7 [.int b0] rest rfl (List.mem_singleton.mp t) (c_X7_seconds l G st o b0 h) (zi zm483) (zi zm484) (zi zm506) (zi zm507) (zi zm364) (zi zm508) (zi zm485) (zi zm493) cal_X4_seconds rfl hsz hst hcat (zR_le hR (by omega) (by decide)) hf hdg kk
  rcases zi_at h with ⟨t, h⟩ | ⟨-, h⟩
  · exact z_cU (x := ⟨"TwoPens$Line", "seconds", "(I)I"⟩) (owner := "TwoPens$Line") hx hb hq hml hown hK hW hS 9 [.int b0] rest rfl (List.mem_singleton.mp t) (c_X9_seconds l G st o b0 h) (zi zm483) (zi zm484) (zi zm510) (zi zm511) (zi zm358) (zi zm512) (zi zm485) (zi zm493) cal_X4_seconds rfl hsz hst hcat (zR_le hR (by omega) (by decide)) hf hdg kk
  rcases zi_at h with ⟨t, h⟩ | ⟨-, h⟩
  · exact z_cU (x := ⟨"TwoPens$Line", "seconds", "(I)I"⟩) (owner := "TwoPens$Line") hx hb hq hml hown hK hW hS 10 [.int b0] rest rfl (List.mem_singleton.mp t) (c_X10_seconds l G st o b0 h) (zi zm483) (zi zm484) (zi zm526) (zi zm520) (zi zm349) (zi zm521) (zi zm485) (zi zm493) cal_X4_seconds rfl hsz hst hcat (zR_le hR (by omega) (by decide)) hf hdg kk
  cases h
set_option maxHeartbeats 1000000 in
set_option maxRecDepth 100000 in
theorem c_X2_secondsOf (l : Launch) (G : zG) (st : zS) (o : Nat) (a1 : Int32) (a2 : Int32) {r : Int32} (h : f_X2_secondsOf st o a1 a2 = some r) : zMet l G yX2_secondsOf cX2_secondsOf 4 (some .int) 2 0 0 [.ref (G.2.2.2 + o), .int a1, .int a2] st (some (.int r)) st := by
  refine zMet_of (by decide +kernel) ?_
  intro p e s m args below meth c X
  obtain ⟨hx, hb, hr, hml, hown, hq, hlk, hK, -, hin, hW, hS⟩ := X
  have hown : s.vm.findClass RX2 = some m.cls := hown
  refine z_ent (by exact Nat.le_of_ble_eq_true rfl) (fun ls hl => ?_)
  have hl : lv_has ls 4 [(0, .ref (G.2.2.2 + o)), (1, .int a1), (2, .int a2)] := hl
  unfold f_X2_secondsOf at h
  refine lv_aload_n hx hb dX2_secondsOf_0 rfl (lv_at hl 0 rfl) ?_
  refine lv_iload_n hx hb dX2_secondsOf_1 rfl (lv_at hl 1 rfl) ?_
  obtain ⟨t1, h⟩ := zc_at h
  obtain ⟨r3, c2, h⟩ := zd_at h
  refine z_cV hx hb hq hml hown hK hW hS 2 [.int a1] [] rfl (List.mem_singleton.mp t1) (c_X2_wayOf l G st o a1 c2) (zi zm482) (zi zm418) (zi zm419) (zi zm14) (zi zm420) cal_X2_wayOf rfl rfl hl.1 rfl (Nat.le_of_ble_eq_true rfl) (zR_ok (by omega) (by decide)) ⟨(Nat.le_of_ble_eq_true rfl), (Nat.le_of_ble_eq_true rfl)⟩ dX2_secondsOf_2 (fun H locs hW hS => ?_)
  rcases r3 with _ | q4
  · refine W.eq (g2 := F0 m 5 ls [.null]) rfl ?_
    refine lv_astore_nN (lv' := [(3, .null), (0, .ref (G.2.2.2 + o)), (1, .int a1), (2, .int a2)]) hx hb dX2_secondsOf_5 rfl hl (by decide) rfl (fun ls hl => ?_)
    refine lv_aload_nN hx hb dX2_secondsOf_6 rfl (lv_at hl 0 rfl) ?_
    refine lv_ifnullN (tgt := 15) hx hb dX2_secondsOf_7 (by decide) ?_
    refine lv_iconst (v := (nI 0)) hx hb dX2_secondsOf_15 (by decide) ?_
    refine lv_goto (tgt := 24) hx hb dX2_secondsOf_16 (by decide) ?_
    obtain rfl := Option.some.inj h
    exact z_ri hx hb hr hlk hW hS (Nat.le_of_ble_eq_true rfl) (Nat.le_of_ble_eq_true rfl) dX2_secondsOf_24
  · refine W.eq (g2 := F0 m 5 ls [.ref (G.2.2.2 + q4)]) rfl ?_
    refine lv_astore_n (lv' := [(3, .ref (G.2.2.2 + q4)), (0, .ref (G.2.2.2 + o)), (1, .int a1), (2, .int a2)]) hx hb dX2_secondsOf_5 rfl hl (by decide) rfl (fun ls hl => ?_)
    refine lv_aload_n hx hb dX2_secondsOf_6 rfl (lv_at hl 0 rfl) ?_
    refine lv_ifnull hx hb dX2_secondsOf_7 ?_
    refine lv_iload_n hx hb dX2_secondsOf_10 rfl (lv_at hl 3 rfl) ?_
    refine lv_iconst (v := (nI 1)) hx hb dX2_secondsOf_11 (by decide) ?_
    refine z_br (lv_icmp_ge (tgt := 19) hx hb dX2_secondsOf_12 (by decide)) h (fun h => ?_) (fun h => ?_)
    · refine lv_aload_n hx hb dX2_secondsOf_19 rfl (lv_at hl 0 rfl) ?_
      refine lv_iload_n hx hb dX2_secondsOf_20 rfl (lv_at hl 3 rfl) ?_
      obtain ⟨r6, c5, h⟩ := zd_at h
      refine zv_RX2_72 hx hb hq hml hown hK st hW hS [] q4 a2  _ c5 hl.1 rfl (Nat.le_of_ble_eq_true rfl) (zR_v (by omega)) ⟨(Nat.le_of_ble_eq_true rfl), (Nat.le_of_ble_eq_true rfl)⟩ dX2_secondsOf_21 (fun H locs hW hS => ?_)
      refine W.eq (g2 := F0 m 24 ls [.int r6]) rfl ?_
      obtain rfl := Option.some.inj h
      exact z_ri hx hb hr hlk hW hS (Nat.le_of_ble_eq_true rfl) (Nat.le_of_ble_eq_true rfl) dX2_secondsOf_24
    · refine lv_iconst (v := (nI 0)) hx hb dX2_secondsOf_15 (by decide) ?_
      refine lv_goto (tgt := 24) hx hb dX2_secondsOf_16 (by decide) ?_
      obtain rfl := Option.some.inj h
      exact z_ri hx hb hr hlk hW hS (Nat.le_of_ble_eq_true rfl) (Nat.le_of_ble_eq_true rfl) dX2_secondsOf_24
def f_X4_pence (o : Nat) (a1 : Int32) : Option Int32 := (some (nI 0))
set_option maxHeartbeats 1000000 in
set_option maxRecDepth 100000 in
theorem c_X4_pence (l : Launch) (G : zG) (st : zS) (o : Nat) (a1 : Int32) {r : Int32} (h : f_X4_pence o a1 = some r) : zMet l G yX4_pence cX4_pence 2 (some .int) 0 0 0 [.ref (G.2.2.2 + o), .int a1] st (some (.int r)) st := by
  refine zMet_of (by decide +kernel) ?_
  intro p e s m args below meth c X
  obtain ⟨hx, hb, hr, hml, hown, hq, hlk, hK, -, hin, hW, hS⟩ := X
  have hown : s.vm.findClass RX4 = some m.cls := hown
  refine z_ent (by exact Nat.le_of_ble_eq_true rfl) (fun ls hl => ?_)
  have hl : lv_has ls 2 [(0, .ref (G.2.2.2 + o)), (1, .int a1)] := hl
  unfold f_X4_pence at h
  refine lv_iconst (v := (nI 0)) hx hb dX4_pence_0 (by decide) ?_
  obtain rfl := Option.some.inj h
  exact z_ri hx hb hr hlk hW hS (Nat.le_of_ble_eq_true rfl) (Nat.le_of_ble_eq_true rfl) dX4_pence_1
def f_X3_pence (st : zS) (o : Nat) (a1 : Int32) : Option Int32 := (if zTg st o ∈ [13, 17] then (some (a1 * (zM st o 2))) else none)
set_option maxHeartbeats 1000000 in
set_option maxRecDepth 100000 in
theorem c_X3_pence (l : Launch) (G : zG) (st : zS) (o : Nat) (a1 : Int32) {r : Int32} (h : f_X3_pence st o a1 = some r) : zMet l G yX3_pence cX3_pence 2 (some .int) 0 0 0 [.ref (G.2.2.2 + o), .int a1] st (some (.int r)) st := by
  refine zMet_of (by decide +kernel) ?_
  intro p e s m args below meth c X
  obtain ⟨hx, hb, hr, hml, hown, hq, hlk, hK, -, hin, hW, hS⟩ := X
  have hown : s.vm.findClass RX3 = some m.cls := hown
  refine z_ent (by exact Nat.le_of_ble_eq_true rfl) (fun ls hl => ?_)
  have hl : lv_has ls 2 [(0, .ref (G.2.2.2 + o)), (1, .int a1)] := hl
  unfold f_X3_pence at h
  refine lv_iload_n hx hb dX3_pence_0 rfl (lv_at hl 1 rfl) ?_
  refine lv_aload_n hx hb dX3_pence_1 rfl (lv_at hl 0 rfl) ?_
  obtain ⟨t1, h⟩ := zc_at h
  refine z_gI hx hb hq hown hK hW fs_RX3_7 t1 dX3_pence_2 ?_
  refine lv_imul hx hb dX3_pence_5 ?_
  obtain rfl := Option.some.inj h
  exact z_ri hx hb hr hlk hW hS (Nat.le_of_ble_eq_true rfl) (Nat.le_of_ble_eq_true rfl) dX3_pence_6
def fv_Line_pence (st : zS) (o : Nat) (b0 : Int32) : Option Int32 := (if zTg st o ∈ [10] then f_X4_pence o b0 else (if zTg st o ∈ [11] then f_X4_pence o b0 else (if zTg st o ∈ [13] then f_X3_pence st o b0 else (if zTg st o ∈ [14] then f_X4_pence o b0 else (if zTg st o ∈ [17] then f_X3_pence st o b0 else (if zTg st o ∈ [19] then f_X4_pence o b0 else (if zTg st o ∈ [20] then f_X4_pence o b0 else none)))))))
def f_X2_penceOf (st : zS) (o : Nat) (a1 : Int32) (a2 : Int32) : Option Int32 := (if zTg st o ∈ [12] then (Option.bind (f_X2_wayOf st o a1) (fun r3 => (zo r3 (some (nI 0)) (fun q4 => (if (nI 1) ≤ a2 then (Option.bind (fv_Line_pence st q4 a2) (fun r6 => (some r6))) else (some (nI 0))))))) else none)
theorem zv_RX2_76 {p : Program} {l : Launch} {e : Env} {R : Room} {s : State} {m : MethodId} {args : Array Value} {below : List Frame} {meth : Method} {c : Code} {H : Heap} {locs : List Loc} {cells slots : Nat} {Q : State → Prop} {cc : ByteArray} {pc nL : Nat} {ls : Array Slot} {G : zG} {st0 : List Value}
    (hx : p.tables.exec = Jvm.exec) (hb : c.code = cc) (hq : ∀ w ∈ zT, w.before args s = true) (hml : c.maxLocals = nL) (hown : s.vm.findClass RX2 = some m.cls) (hK : zKn G s) (st : zS) (hW : zWd G st H) (hS : va_S (zA G) s.heap H locs) (rest : List Value) (o : Nat) (b0 : Int32) (r : Int32)
    (h : fv_Line_pence st o b0 = some r) (hsz : ls.size = nL) (hst : st0 = ([.int b0] : List Value).reverse ++ .ref (G.2.2.2 + o) :: rest) (hcat : (rest.map fun v => v.category).sum ≤ 8) (hR : 0 + 1 ≤ R.frames ∧ 60 + 60 * 0 ≤ R.locals) (hf : cells ≤ R.cells ∧ slots ≤ R.slots) (hdg : decode cc pc = .ok (.invokevirtual 76, 3))
    (kk : ∀ (H1 : Heap) (locs1 : List Loc), zWd G st H1 → va_S (zA G) s.heap H1 locs1 → W p l e R s m args below meth c H1 locs1 cells slots Q (F0 m (pc + 3) ls ((.int r) :: rest))) : W p l e R s m args below meth c H locs cells slots Q (F0 m pc ls st0) := by
  unfold fv_Line_pence at h
  rcases zi_at h with ⟨t, h⟩ | ⟨-, h⟩
  · exact z_cU (x := ⟨"TwoPens$Line", "pence", "(I)I"⟩) (owner := "TwoPens$Line") hx hb hq hml hown hK hW hS 0 [.int b0] rest rfl (List.mem_singleton.mp t) (c_X4_pence l G st o b0 h) (zi zm531) (zi zm532) (zi zm533) (zi zm534) (zi zm367) (zi zm535) (zi zm534) (zi zm535) cal_X4_pence rfl hsz hst hcat (zR_le hR (by omega) (by decide)) hf hdg kk
  rcases zi_at h with ⟨t, h⟩ | ⟨-, h⟩
  · exact z_cU (x := ⟨"TwoPens$Line", "pence", "(I)I"⟩) (owner := "TwoPens$Line") hx hb hq hml hown hK hW hS 1 [.int b0] rest rfl (List.mem_singleton.mp t) (c_X4_pence l G st o b0 h) (zi zm531) (zi zm532) (zi zm536) (zi zm534) (zi zm367) (zi zm535) (zi zm534) (zi zm535) cal_X4_pence rfl hsz hst hcat (zR_le hR (by omega) (by decide)) hf hdg kk
  rcases zi_at h with ⟨t, h⟩ | ⟨-, h⟩
  · exact z_cU (x := ⟨"TwoPens$Line", "pence", "(I)I"⟩) (owner := "TwoPens$Line") hx hb hq hml hown hK hW hS 3 [.int b0] rest rfl (List.mem_singleton.mp t) (c_X3_pence l G st o b0 h) (zi zm531) (zi zm532) (zi zm538) (zi zm539) (zi zm355) (zi zm540) (zi zm534) (zi zm535) cal_X4_pence rfl hsz hst hcat (zR_le hR (by omega) (by decide)) hf hdg kk
  rcases zi_at h with ⟨t, h⟩ | ⟨-, h⟩
  · exact z_cU (x := ⟨"TwoPens$Line", "pence", "(I)I"⟩) (owner := "TwoPens$Line") hx hb hq hml hown hK hW hS 4 [.int b0] rest rfl (List.mem_singleton.mp t) (c_X4_pence l G st o b0 h) (zi zm531) (zi zm532) (zi zm544) (zi zm534) (zi zm367) (zi zm535) (zi zm534) (zi zm535) cal_X4_pence rfl hsz hst hcat (zR_le hR (by omega) (by decide)) hf hdg kk
  rcases zi_at h with ⟨t, h⟩ | ⟨-, h⟩
  · exact z_cU (x := ⟨"TwoPens$Line", "pence", "(I)I"⟩) (owner := "TwoPens$Line") hx hb hq hml hown hK hW hS 7 [.int b0] rest rfl (List.mem_singleton.mp t) (c_X3_pence l G st o b0 h) (zi zm531) (zi zm532) (zi zm545) (zi zm539) (zi zm355) (zi zm540) (zi zm534) (zi zm535) cal_X4_pence rfl hsz hst hcat (zR_le hR (by omega) (by decide)) hf hdg kk
  rcases zi_at h with ⟨t, h⟩ | ⟨-, h⟩
  · exact z_cU (x := ⟨"TwoPens$Line", "pence", "(I)I"⟩) (owner := "TwoPens$Line") hx hb hq hml hown hK hW hS 9 [.int b0] rest rfl (List.mem_singleton.mp t) (c_X4_pence l G st o b0 h) (zi zm531) (zi zm532) (zi zm546) (zi zm534) (zi zm367) (zi zm535) (zi zm534) (zi zm535) cal_X4_pence rfl hsz hst hcat (zR_le hR (by omega) (by decide)) hf hdg kk
  rcases zi_at h with ⟨t, h⟩ | ⟨-, h⟩
  · exact z_cU (x := ⟨"TwoPens$Line", "pence", "(I)I"⟩) (owner := "TwoPens$Line") hx hb hq hml hown hK hW hS 10 [.int b0] rest rfl (List.mem_singleton.mp t) (c_X4_pence l G st o b0 h) (zi zm531) (zi zm532) (zi zm547) (zi zm534) (zi zm367) (zi zm535) (zi zm534) (zi zm535) cal_X4_pence rfl hsz hst hcat (zR_le hR (by omega) (by decide)) hf hdg kk
  cases h
set_option maxHeartbeats 1000000 in
set_option maxRecDepth 100000 in
theorem c_X2_penceOf (l : Launch) (G : zG) (st : zS) (o : Nat) (a1 : Int32) (a2 : Int32) {r : Int32} (h : f_X2_penceOf st o a1 a2 = some r) : zMet l G yX2_penceOf cX2_penceOf 4 (some .int) 1 0 0 [.ref (G.2.2.2 + o), .int a1, .int a2] st (some (.int r)) st := by
  refine zMet_of (by decide +kernel) ?_
  intro p e s m args below meth c X
  obtain ⟨hx, hb, hr, hml, hown, hq, hlk, hK, -, hin, hW, hS⟩ := X
  have hown : s.vm.findClass RX2 = some m.cls := hown
  refine z_ent (by exact Nat.le_of_ble_eq_true rfl) (fun ls hl => ?_)
  have hl : lv_has ls 4 [(0, .ref (G.2.2.2 + o)), (1, .int a1), (2, .int a2)] := hl
  unfold f_X2_penceOf at h
  refine lv_aload_n hx hb dX2_penceOf_0 rfl (lv_at hl 0 rfl) ?_
  refine lv_iload_n hx hb dX2_penceOf_1 rfl (lv_at hl 1 rfl) ?_
  obtain ⟨t1, h⟩ := zc_at h
  obtain ⟨r3, c2, h⟩ := zd_at h
  refine z_cV hx hb hq hml hown hK hW hS 2 [.int a1] [] rfl (List.mem_singleton.mp t1) (c_X2_wayOf l G st o a1 c2) (zi zm482) (zi zm418) (zi zm419) (zi zm14) (zi zm420) cal_X2_wayOf rfl rfl hl.1 rfl (Nat.le_of_ble_eq_true rfl) (zR_ok (by omega) (by decide)) ⟨(Nat.le_of_ble_eq_true rfl), (Nat.le_of_ble_eq_true rfl)⟩ dX2_penceOf_2 (fun H locs hW hS => ?_)
  rcases r3 with _ | q4
  · refine W.eq (g2 := F0 m 5 ls [.null]) rfl ?_
    refine lv_astore_nN (lv' := [(3, .null), (0, .ref (G.2.2.2 + o)), (1, .int a1), (2, .int a2)]) hx hb dX2_penceOf_5 rfl hl (by decide) rfl (fun ls hl => ?_)
    refine lv_aload_nN hx hb dX2_penceOf_6 rfl (lv_at hl 0 rfl) ?_
    refine lv_ifnullN (tgt := 15) hx hb dX2_penceOf_7 (by decide) ?_
    refine lv_iconst (v := (nI 0)) hx hb dX2_penceOf_15 (by decide) ?_
    refine lv_goto (tgt := 24) hx hb dX2_penceOf_16 (by decide) ?_
    obtain rfl := Option.some.inj h
    exact z_ri hx hb hr hlk hW hS (Nat.le_of_ble_eq_true rfl) (Nat.le_of_ble_eq_true rfl) dX2_penceOf_24
  · refine W.eq (g2 := F0 m 5 ls [.ref (G.2.2.2 + q4)]) rfl ?_
    refine lv_astore_n (lv' := [(3, .ref (G.2.2.2 + q4)), (0, .ref (G.2.2.2 + o)), (1, .int a1), (2, .int a2)]) hx hb dX2_penceOf_5 rfl hl (by decide) rfl (fun ls hl => ?_)
    refine lv_aload_n hx hb dX2_penceOf_6 rfl (lv_at hl 0 rfl) ?_
    refine lv_ifnull hx hb dX2_penceOf_7 ?_
    refine lv_iload_n hx hb dX2_penceOf_10 rfl (lv_at hl 3 rfl) ?_
    refine lv_iconst (v := (nI 1)) hx hb dX2_penceOf_11 (by decide) ?_
    refine z_br (lv_icmp_ge (tgt := 19) hx hb dX2_penceOf_12 (by decide)) h (fun h => ?_) (fun h => ?_)
    · refine lv_aload_n hx hb dX2_penceOf_19 rfl (lv_at hl 0 rfl) ?_
      refine lv_iload_n hx hb dX2_penceOf_20 rfl (lv_at hl 3 rfl) ?_
      obtain ⟨r6, c5, h⟩ := zd_at h
      refine zv_RX2_76 hx hb hq hml hown hK st hW hS [] q4 a2  _ c5 hl.1 rfl (Nat.le_of_ble_eq_true rfl) (zR_v (by omega)) ⟨(Nat.le_of_ble_eq_true rfl), (Nat.le_of_ble_eq_true rfl)⟩ dX2_penceOf_21 (fun H locs hW hS => ?_)
      refine W.eq (g2 := F0 m 24 ls [.int r6]) rfl ?_
      obtain rfl := Option.some.inj h
      exact z_ri hx hb hr hlk hW hS (Nat.le_of_ble_eq_true rfl) (Nat.le_of_ble_eq_true rfl) dX2_penceOf_24
    · refine lv_iconst (v := (nI 0)) hx hb dX2_penceOf_15 (by decide) ?_
      refine lv_goto (tgt := 24) hx hb dX2_penceOf_16 (by decide) ?_
      obtain rfl := Option.some.inj h
      exact z_ri hx hb hr hlk hW hS (Nat.le_of_ble_eq_true rfl) (Nat.le_of_ble_eq_true rfl) dX2_penceOf_24
def f_X5_size (st : zS) (o : Nat) : Option Int32 := (if zTg st o ∈ [15] then (some (zM st o 1)) else none)
set_option maxHeartbeats 1000000 in
set_option maxRecDepth 100000 in
theorem c_X5_size (l : Launch) (G : zG) (st : zS) (o : Nat) {r : Int32} (h : f_X5_size st o = some r) : zMet l G yX5_size cX5_size 1 (some .int) 0 0 0 [.ref (G.2.2.2 + o)] st (some (.int r)) st := by
  refine zMet_of (by decide +kernel) ?_
  intro p e s m args below meth c X
  obtain ⟨hx, hb, hr, hml, hown, hq, hlk, hK, -, hin, hW, hS⟩ := X
  have hown : s.vm.findClass RX5 = some m.cls := hown
  refine z_ent (by exact Nat.le_of_ble_eq_true rfl) (fun ls hl => ?_)
  have hl : lv_has ls 1 [(0, .ref (G.2.2.2 + o))] := hl
  unfold f_X5_size at h
  refine lv_aload_n hx hb dX5_size_0 rfl (lv_at hl 0 rfl) ?_
  obtain ⟨t1, h⟩ := zc_at h
  refine z_gI hx hb hq hown hK hW fs_RX5_19 t1 dX5_size_1 ?_
  obtain rfl := Option.some.inj h
  exact z_ri hx hb hr hlk hW hS (Nat.le_of_ble_eq_true rfl) (Nat.le_of_ble_eq_true rfl) dX5_size_4
def f_X2_placeCount (st : zS) (o : Nat) : Option Int32 := (if zTg st o ∈ [12] then (Option.bind (zR st o 8) (fun b2 => (if zTg st b2 ∈ [15] then (Option.bind (f_X5_size st b2) (fun r5 => (if r5 ≤ 0 then (Option.bind (zR st o 2) (fun b6 => (if zTg st b6 ∈ [16] then (some (if (zM st b6 0) < (if (nI 3) < (zM st b6 1) then (nI 3) else (zM st b6 1)) then (zM st b6 0) else (if (nI 3) < (zM st b6 1) then (nI 3) else (zM st b6 1)))) else none))) else (Option.bind (f_X5_size st b2) (fun r9 => (some r9)))))) else none))) else none)
set_option maxHeartbeats 1000000 in
set_option maxRecDepth 100000 in
theorem c_X2_placeCount (l : Launch) (G : zG) (st : zS) (o : Nat) {r : Int32} (h : f_X2_placeCount st o = some r) : zMet l G yX2_placeCount cX2_placeCount 1 (some .int) 1 0 0 [.ref (G.2.2.2 + o)] st (some (.int r)) st := by
  refine zMet_of (by decide +kernel) ?_
  intro p e s m args below meth c X
  obtain ⟨hx, hb, hr, hml, hown, hq, hlk, hK, -, hin, hW, hS⟩ := X
  have hown : s.vm.findClass RX2 = some m.cls := hown
  refine z_ent (by exact Nat.le_of_ble_eq_true rfl) (fun ls hl => ?_)
  have hl : lv_has ls 1 [(0, .ref (G.2.2.2 + o))] := hl
  unfold f_X2_placeCount at h
  refine lv_aload_n hx hb dX2_placeCount_0 rfl (lv_at hl 0 rfl) ?_
  obtain ⟨t1, h⟩ := zc_at h
  obtain ⟨b2, hb2, h⟩ := zd_at h
  refine z_gR hx hb hq hown hK hW fs_RX2_36 t1 hb2 dX2_placeCount_1 ?_
  obtain ⟨t3, h⟩ := zc_at h
  obtain ⟨r5, c4, h⟩ := zd_at h
  refine z_cV hx hb hq hml hown hK hW hS 5 [] [] rfl (List.mem_singleton.mp t3) (c_X5_size l G st b2 c4) (zi zm650) (zi zm83) (zi zm84) (zi zm32) (zi zm85) cal_X5_size rfl rfl hl.1 rfl (Nat.le_of_ble_eq_true rfl) (zR_ok (by omega) (by decide)) ⟨(Nat.le_of_ble_eq_true rfl), (Nat.le_of_ble_eq_true rfl)⟩ dX2_placeCount_4 (fun H locs hW hS => ?_)
  refine W.eq (g2 := F0 m 7 ls [.int r5]) rfl ?_
  refine z_br (lv_if_le (tgt := 18) hx hb dX2_placeCount_7 (by decide)) h (fun h => ?_) (fun h => ?_)
  · refine lv_aload_n hx hb dX2_placeCount_18 rfl (lv_at hl 0 rfl) ?_
    obtain ⟨b6, hb6, h⟩ := zd_at h
    refine z_gR hx hb hq hown hK hW fs_RX2_20 t1 hb6 dX2_placeCount_19 ?_
    obtain ⟨t7, h⟩ := zc_at h
    refine z_gI hx hb hq hown hK hW fs_RX2_83 t7 dX2_placeCount_22 ?_
    refine lv_iconst (v := (nI 3)) hx hb dX2_placeCount_25 (by decide) ?_
    refine va_mmin hx hb (hml.trans hl.1.symm) hown (hq _ (zi zm648)) (hq _ (zi zm117)) (hq _ (zi zm53)) (hq _ (zi zm118)) (Nat.le_of_ble_eq_true rfl) (by show _ ≤ 60 * _; exact (Nat.le_of_ble_eq_true rfl)) (Nat.le_of_ble_eq_true rfl) (Nat.le_of_ble_eq_true rfl) dX2_placeCount_26 ?_
    refine lv_aload_n hx hb dX2_placeCount_29 rfl (lv_at hl 0 rfl) ?_
    refine z_gR hx hb hq hown hK hW fs_RX2_20 t1 hb6 dX2_placeCount_30 ?_
    refine z_gI hx hb hq hown hK hW fs_RX2_92 t7 dX2_placeCount_33 ?_
    refine va_mmin hx hb (hml.trans hl.1.symm) hown (hq _ (zi zm648)) (hq _ (zi zm117)) (hq _ (zi zm53)) (hq _ (zi zm118)) (Nat.le_of_ble_eq_true rfl) (by show _ ≤ 60 * _; exact (Nat.le_of_ble_eq_true rfl)) (Nat.le_of_ble_eq_true rfl) (Nat.le_of_ble_eq_true rfl) dX2_placeCount_36 ?_
    obtain rfl := Option.some.inj h
    exact z_ri hx hb hr hlk hW hS (Nat.le_of_ble_eq_true rfl) (Nat.le_of_ble_eq_true rfl) dX2_placeCount_39
  · refine lv_aload_n hx hb dX2_placeCount_10 rfl (lv_at hl 0 rfl) ?_
    refine z_gR hx hb hq hown hK hW fs_RX2_36 t1 hb2 dX2_placeCount_11 ?_
    obtain ⟨r9, c8, h⟩ := zd_at h
    refine z_cV hx hb hq hml hown hK hW hS 5 [] [] rfl (List.mem_singleton.mp t3) (c_X5_size l G st b2 c8) (zi zm650) (zi zm83) (zi zm84) (zi zm32) (zi zm85) cal_X5_size rfl rfl hl.1 rfl (Nat.le_of_ble_eq_true rfl) (zR_ok (by omega) (by decide)) ⟨(Nat.le_of_ble_eq_true rfl), (Nat.le_of_ble_eq_true rfl)⟩ dX2_placeCount_14 (fun H locs hW hS => ?_)
    refine W.eq (g2 := F0 m 17 ls [.int r9]) rfl ?_
    obtain rfl := Option.some.inj h
    exact z_ri hx hb hr hlk hW hS (Nat.le_of_ble_eq_true rfl) (Nat.le_of_ble_eq_true rfl) dX2_placeCount_17
def f_X2_placeAt (st : zS) (o : Nat) (a1 : Int32) : Option Int32 := (if zTg st o ∈ [12] then (Option.bind (zR st o 8) (fun b2 => (if zTg st b2 ∈ [15] then (Option.bind (f_X5_size st b2) (fun r5 => (if r5 ≤ 0 then (if a1 = (nI 0) then (some (nI 0)) else (if a1 = (nI 1) then (Option.bind (zR st o 2) (fun b8 => (if zTg st b8 ∈ [16] then (some ((zM st b8 0) - (nI 1))) else none))) else (Option.bind (zR st o 2) (fun b10 => (if zTg st b10 ∈ [16] then (some ((zM st b10 0) / (nI 2))) else none))))) else (Option.bind (f_X5_get st b2 a1) (fun r13 => (some r13)))))) else none))) else none)
set_option maxHeartbeats 1000000 in
set_option maxRecDepth 100000 in
theorem c_X2_placeAt (l : Launch) (G : zG) (st : zS) (o : Nat) (a1 : Int32) {r : Int32} (h : f_X2_placeAt st o a1 = some r) : zMet l G yX2_placeAt cX2_placeAt 2 (some .int) 1 0 0 [.ref (G.2.2.2 + o), .int a1] st (some (.int r)) st := by
  refine zMet_of (by decide +kernel) ?_
  intro p e s m args below meth c X
  obtain ⟨hx, hb, hr, hml, hown, hq, hlk, hK, -, hin, hW, hS⟩ := X
  have hown : s.vm.findClass RX2 = some m.cls := hown
  refine z_ent (by exact Nat.le_of_ble_eq_true rfl) (fun ls hl => ?_)
  have hl : lv_has ls 2 [(0, .ref (G.2.2.2 + o)), (1, .int a1)] := hl
  unfold f_X2_placeAt at h
  refine lv_aload_n hx hb dX2_placeAt_0 rfl (lv_at hl 0 rfl) ?_
  obtain ⟨t1, h⟩ := zc_at h
  obtain ⟨b2, hb2, h⟩ := zd_at h
  refine z_gR hx hb hq hown hK hW fs_RX2_36 t1 hb2 dX2_placeAt_1 ?_
  obtain ⟨t3, h⟩ := zc_at h
  obtain ⟨r5, c4, h⟩ := zd_at h
  refine z_cV hx hb hq hml hown hK hW hS 5 [] [] rfl (List.mem_singleton.mp t3) (c_X5_size l G st b2 c4) (zi zm650) (zi zm83) (zi zm84) (zi zm32) (zi zm85) cal_X5_size rfl rfl hl.1 rfl (Nat.le_of_ble_eq_true rfl) (zR_ok (by omega) (by decide)) ⟨(Nat.le_of_ble_eq_true rfl), (Nat.le_of_ble_eq_true rfl)⟩ dX2_placeAt_4 (fun H locs hW hS => ?_)
  refine W.eq (g2 := F0 m 7 ls [.int r5]) rfl ?_
  refine z_br (lv_if_le (tgt := 19) hx hb dX2_placeAt_7 (by decide)) h (fun h => ?_) (fun h => ?_)
  · refine lv_iload_n hx hb dX2_placeAt_19 rfl (lv_at hl 1 rfl) ?_
    rcases zi_at h with ⟨k6, h⟩ | ⟨k6, h⟩
    · refine lv_lookup (off := 28) (tgt := 48) hx hb dX2_placeAt_20 (by decide) (by rw [k6]; rfl) (by decide) ?_
      refine lv_iconst (v := (nI 0)) hx hb dX2_placeAt_48 (by decide) ?_
      obtain rfl := Option.some.inj h
      exact z_ri hx hb hr hlk hW hS (Nat.le_of_ble_eq_true rfl) (Nat.le_of_ble_eq_true rfl) dX2_placeAt_49
    · rcases zi_at h with ⟨k7, h⟩ | ⟨k7, h⟩
      · refine lv_lookup (off := 30) (tgt := 50) hx hb dX2_placeAt_20 (by decide) (by rw [k7]; rfl) (by decide) ?_
        refine lv_aload_n hx hb dX2_placeAt_50 rfl (lv_at hl 0 rfl) ?_
        obtain ⟨b8, hb8, h⟩ := zd_at h
        refine z_gR hx hb hq hown hK hW fs_RX2_20 t1 hb8 dX2_placeAt_51 ?_
        obtain ⟨t9, h⟩ := zc_at h
        refine z_gI hx hb hq hown hK hW fs_RX2_92 t9 dX2_placeAt_54 ?_
        refine lv_iconst (v := (nI 1)) hx hb dX2_placeAt_57 (by decide) ?_
        refine lv_isub hx hb dX2_placeAt_58 ?_
        obtain rfl := Option.some.inj h
        exact z_ri hx hb hr hlk hW hS (Nat.le_of_ble_eq_true rfl) (Nat.le_of_ble_eq_true rfl) dX2_placeAt_59
      · refine lv_lookup (off := 40) (tgt := 60) hx hb dX2_placeAt_20 (by decide) (by show Op.lookupswitch.offset [(0, 28), (1, 30)] 40 _ = _; rw [lv_osw k6 (by decide), lv_osw k7 (by decide)]; rfl) (by decide) ?_
        refine lv_aload_n hx hb dX2_placeAt_60 rfl (lv_at hl 0 rfl) ?_
        obtain ⟨b10, hb10, h⟩ := zd_at h
        refine z_gR hx hb hq hown hK hW fs_RX2_20 t1 hb10 dX2_placeAt_61 ?_
        obtain ⟨t11, h⟩ := zc_at h
        refine z_gI hx hb hq hown hK hW fs_RX2_92 t11 dX2_placeAt_64 ?_
        refine lv_iconst (v := (nI 2)) hx hb dX2_placeAt_67 (by decide) ?_
        refine lv_idiv hx hb dX2_placeAt_68 (by decide) ?_
        obtain rfl := Option.some.inj h
        exact z_ri hx hb hr hlk hW hS (Nat.le_of_ble_eq_true rfl) (Nat.le_of_ble_eq_true rfl) dX2_placeAt_69
  · refine lv_aload_n hx hb dX2_placeAt_10 rfl (lv_at hl 0 rfl) ?_
    refine z_gR hx hb hq hown hK hW fs_RX2_36 t1 hb2 dX2_placeAt_11 ?_
    refine lv_iload_n hx hb dX2_placeAt_14 rfl (lv_at hl 1 rfl) ?_
    obtain ⟨r13, c12, h⟩ := zd_at h
    refine z_cV hx hb hq hml hown hK hW hS 5 [.int a1] [] rfl (List.mem_singleton.mp t3) (c_X5_get l G st b2 a1 c12) (zi zm605) (zi zm109) (zi zm110) (zi zm32) (zi zm111) cal_X5_get rfl rfl hl.1 rfl (Nat.le_of_ble_eq_true rfl) (zR_ok (by omega) (by decide)) ⟨(Nat.le_of_ble_eq_true rfl), (Nat.le_of_ble_eq_true rfl)⟩ dX2_placeAt_15 (fun H locs hW hS => ?_)
    refine W.eq (g2 := F0 m 18 ls [.int r13]) rfl ?_
    obtain rfl := Option.some.inj h
    exact z_ri hx hb hr hlk hW hS (Nat.le_of_ble_eq_true rfl) (Nat.le_of_ble_eq_true rfl) dX2_placeAt_18
def f_X2_numberIf (st : zS) (o : Nat) (a1 : Int32) (a2 : Int32) (a3 : Int32) : Option Int32 := (if a1 = a2 then (some a3) else (if zTg st o ∈ [12] then (Option.bind (zR st o 5) (fun b2 => (if zTg st b2 ∈ [15] then (Option.bind (f_X5_get st b2 a1) (fun r5 => (some r5))) else none))) else none))
set_option maxHeartbeats 1000000 in
set_option maxRecDepth 100000 in
theorem c_X2_numberIf (l : Launch) (G : zG) (st : zS) (o : Nat) (a1 : Int32) (a2 : Int32) (a3 : Int32) {r : Int32} (h : f_X2_numberIf st o a1 a2 a3 = some r) : zMet l G yX2_numberIf cX2_numberIf 4 (some .int) 1 0 0 [.ref (G.2.2.2 + o), .int a1, .int a2, .int a3] st (some (.int r)) st := by
  refine zMet_of (by decide +kernel) ?_
  intro p e s m args below meth c X
  obtain ⟨hx, hb, hr, hml, hown, hq, hlk, hK, -, hin, hW, hS⟩ := X
  have hown : s.vm.findClass RX2 = some m.cls := hown
  refine z_ent (by exact Nat.le_of_ble_eq_true rfl) (fun ls hl => ?_)
  have hl : lv_has ls 4 [(0, .ref (G.2.2.2 + o)), (1, .int a1), (2, .int a2), (3, .int a3)] := hl
  unfold f_X2_numberIf at h
  refine lv_iload_n hx hb dX2_numberIf_0 rfl (lv_at hl 1 rfl) ?_
  refine lv_iload_n hx hb dX2_numberIf_1 rfl (lv_at hl 2 rfl) ?_
  refine z_brn (lv_icmp_ne (tgt := 9) hx hb dX2_numberIf_2 (by decide)) h (fun h => ?_) (fun h => ?_)
  · refine lv_aload_n hx hb dX2_numberIf_9 rfl (lv_at hl 0 rfl) ?_
    obtain ⟨t1, h⟩ := zc_at h
    obtain ⟨b2, hb2, h⟩ := zd_at h
    refine z_gR hx hb hq hown hK hW fs_RX2_33 t1 hb2 dX2_numberIf_10 ?_
    refine lv_iload_n hx hb dX2_numberIf_13 rfl (lv_at hl 1 rfl) ?_
    obtain ⟨t3, h⟩ := zc_at h
    obtain ⟨r5, c4, h⟩ := zd_at h
    refine z_cV hx hb hq hml hown hK hW hS 5 [.int a1] [] rfl (List.mem_singleton.mp t3) (c_X5_get l G st b2 a1 c4) (zi zm605) (zi zm109) (zi zm110) (zi zm32) (zi zm111) cal_X5_get rfl rfl hl.1 rfl (Nat.le_of_ble_eq_true rfl) (zR_ok (by omega) (by decide)) ⟨(Nat.le_of_ble_eq_true rfl), (Nat.le_of_ble_eq_true rfl)⟩ dX2_numberIf_14 (fun H locs hW hS => ?_)
    refine W.eq (g2 := F0 m 17 ls [.int r5]) rfl ?_
    obtain rfl := Option.some.inj h
    exact z_ri hx hb hr hlk hW hS (Nat.le_of_ble_eq_true rfl) (Nat.le_of_ble_eq_true rfl) dX2_numberIf_17
  · refine lv_iload_n hx hb dX2_numberIf_5 rfl (lv_at hl 3 rfl) ?_
    refine lv_goto (tgt := 17) hx hb dX2_numberIf_6 (by decide) ?_
    obtain rfl := Option.some.inj h
    exact z_ri hx hb hr hlk hW hS (Nat.le_of_ble_eq_true rfl) (Nat.le_of_ble_eq_true rfl) dX2_numberIf_17
def f_X6_valueAsked (st : zS) (a0 : Int32) (a1 : Nat) (a2 : Int32) (a3 : Int32) : Option Int32 := (if a0 = (nI 0) then (if zTg st a1 ∈ zLs then (some (zM st a1 1)) else none) else (if a0 = (nI 1) then (if zTg st a1 ∈ zLs then (some (zM st a1 0)) else none) else (if a0 = (nI 2) then (if zTg st a1 ∈ zLs then (some (zM st a1 2)) else none) else (if a0 = (nI 3) then (some (a2 / (nI 10))) else (if a0 = (nI 4) then (some (a2 - a2 / (nI 10) * (nI 10))) else (some a3))))))
set_option maxHeartbeats 1000000 in
set_option maxRecDepth 100000 in
theorem c_X6_valueAsked (l : Launch) (G : zG) (st : zS) (a0 : Int32) (a1 : Nat) (a2 : Int32) (a3 : Int32) {r : Int32} (h : f_X6_valueAsked st a0 a1 a2 a3 = some r) : zMet l G yX6_valueAsked cX6_valueAsked 4 (some .int) 0 0 0 [.int a0, .ref (G.2.2.2 + a1), .int a2, .int a3] st (some (.int r)) st := by
  refine zMet_of (by decide +kernel) ?_
  intro p e s m args below meth c X
  obtain ⟨hx, hb, hr, hml, hown, hq, hlk, hK, -, hin, hW, hS⟩ := X
  have hown : s.vm.findClass RX6 = some m.cls := hown
  refine z_ent (by exact Nat.le_of_ble_eq_true rfl) (fun ls hl => ?_)
  have hl : lv_has ls 4 [(0, .int a0), (1, .ref (G.2.2.2 + a1)), (2, .int a2), (3, .int a3)] := hl
  unfold f_X6_valueAsked at h
  refine lv_iload_n hx hb dX6_valueAsked_0 rfl (lv_at hl 0 rfl) ?_
  rcases zi_at h with ⟨k1, h⟩ | ⟨k1, h⟩
  · refine lv_tableIn (off := 35) (tgt := 36) hx hb dX6_valueAsked_1 (by rw [k1]; decide) (by rw [k1]; decide) (by rw [k1]; rfl) (by decide) ?_
    refine lv_aload_n hx hb dX6_valueAsked_36 rfl (lv_at hl 1 rfl) ?_
    obtain ⟨t2, h⟩ := zc_at h
    refine z_gI hx hb hq hown hK hW fs_RX6_129 t2 dX6_valueAsked_37 ?_
    obtain rfl := Option.some.inj h
    exact z_ri hx hb hr hlk hW hS (Nat.le_of_ble_eq_true rfl) (Nat.le_of_ble_eq_true rfl) dX6_valueAsked_40
  · rcases zi_at h with ⟨k3, h⟩ | ⟨k3, h⟩
    · refine lv_tableIn (off := 40) (tgt := 41) hx hb dX6_valueAsked_1 (by rw [k3]; decide) (by rw [k3]; decide) (by rw [k3]; rfl) (by decide) ?_
      refine lv_aload_n hx hb dX6_valueAsked_41 rfl (lv_at hl 1 rfl) ?_
      obtain ⟨t4, h⟩ := zc_at h
      refine z_gI hx hb hq hown hK hW fs_RX6_134 t4 dX6_valueAsked_42 ?_
      obtain rfl := Option.some.inj h
      exact z_ri hx hb hr hlk hW hS (Nat.le_of_ble_eq_true rfl) (Nat.le_of_ble_eq_true rfl) dX6_valueAsked_45
    · rcases zi_at h with ⟨k5, h⟩ | ⟨k5, h⟩
      · refine lv_tableIn (off := 45) (tgt := 46) hx hb dX6_valueAsked_1 (by rw [k5]; decide) (by rw [k5]; decide) (by rw [k5]; rfl) (by decide) ?_
        refine lv_aload_n hx hb dX6_valueAsked_46 rfl (lv_at hl 1 rfl) ?_
        obtain ⟨t6, h⟩ := zc_at h
        refine z_gI hx hb hq hown hK hW fs_RX6_137 t6 dX6_valueAsked_47 ?_
        obtain rfl := Option.some.inj h
        exact z_ri hx hb hr hlk hW hS (Nat.le_of_ble_eq_true rfl) (Nat.le_of_ble_eq_true rfl) dX6_valueAsked_50
      · rcases zi_at h with ⟨k7, h⟩ | ⟨k7, h⟩
        · refine lv_tableIn (off := 50) (tgt := 51) hx hb dX6_valueAsked_1 (by rw [k7]; decide) (by rw [k7]; decide) (by rw [k7]; rfl) (by decide) ?_
          refine lv_iload_n hx hb dX6_valueAsked_51 rfl (lv_at hl 2 rfl) ?_
          refine lv_bipush (v := (nI 10)) hx hb dX6_valueAsked_52 (by decide) ?_
          refine lv_idiv hx hb dX6_valueAsked_54 (by decide) ?_
          obtain rfl := Option.some.inj h
          exact z_ri hx hb hr hlk hW hS (Nat.le_of_ble_eq_true rfl) (Nat.le_of_ble_eq_true rfl) dX6_valueAsked_55
        · rcases zi_at h with ⟨k8, h⟩ | ⟨k8, h⟩
          · refine lv_tableIn (off := 55) (tgt := 56) hx hb dX6_valueAsked_1 (by rw [k8]; decide) (by rw [k8]; decide) (by rw [k8]; rfl) (by decide) ?_
            refine lv_iload_n hx hb dX6_valueAsked_56 rfl (lv_at hl 2 rfl) ?_
            refine lv_bipush (v := (nI 10)) hx hb dX6_valueAsked_57 (by decide) ?_
            refine lv_irem hx hb dX6_valueAsked_59 (by decide) ?_
            obtain rfl := Option.some.inj h
            exact z_ri hx hb hr hlk hW hS (Nat.le_of_ble_eq_true rfl) (Nat.le_of_ble_eq_true rfl) dX6_valueAsked_60
          · refine lv_tableOut (tgt := 61) hx hb dX6_valueAsked_1 (by have q0 := lv_neT (a := 0) k1 (by decide); have q1 := lv_neT (a := 1) k3 (by decide); have q2 := lv_neT (a := 2) k5 (by decide); have q3 := lv_neT (a := 3) k7 (by decide); have q4 := lv_neT (a := 4) k8 (by decide); omega) (by decide) ?_
            refine lv_iload_n hx hb dX6_valueAsked_61 rfl (lv_at hl 3 rfl) ?_
            obtain rfl := Option.some.inj h
            exact z_ri hx hb hr hlk hW hS (Nat.le_of_ble_eq_true rfl) (Nat.le_of_ble_eq_true rfl) dX6_valueAsked_62
def f_X6_holds (st : zS) (a0 : Int32) (a1 : Nat) (a2 : Int32) (a3 : Int32) : Option Int32 := (Option.bind (f_X6_valueAsked st (a0 / (nI 300)) a1 a2 a3) (fun r2 => (zl (a0 - a0 / (nI 100) * (nI 100)) (fun v3 => (if ((a0 / (nI 100)) - (a0 / (nI 100)) / (nI 3) * (nI 3)) = (nI 0) then (if v3 ≤ r2 then (some (nI 0)) else (some (nI 1))) else (if ((a0 / (nI 100)) - (a0 / (nI 100)) / (nI 3) * (nI 3)) = (nI 1) then (if r2 = v3 then (some (nI 1)) else (some (nI 0))) else (if r2 ≤ v3 then (some (nI 0)) else (some (nI 1)))))))))
set_option maxHeartbeats 1000000 in
set_option maxRecDepth 100000 in
theorem c_X6_holds (l : Launch) (G : zG) (st : zS) (a0 : Int32) (a1 : Nat) (a2 : Int32) (a3 : Int32) {r : Int32} (h : f_X6_holds st a0 a1 a2 a3 = some r) : zMet l G yX6_holds cX6_holds 6 (some .boolean) 1 0 0 [.int a0, .ref (G.2.2.2 + a1), .int a2, .int a3] st (some (.int r)) st := by
  refine zMet_of (by decide +kernel) ?_
  intro p e s m args below meth c X
  obtain ⟨hx, hb, hr, hml, hown, hq, hlk, hK, -, hin, hW, hS⟩ := X
  have hown : s.vm.findClass RX6 = some m.cls := hown
  refine z_ent (by exact Nat.le_of_ble_eq_true rfl) (fun ls hl => ?_)
  have hl : lv_has ls 6 [(0, .int a0), (1, .ref (G.2.2.2 + a1)), (2, .int a2), (3, .int a3)] := hl
  unfold f_X6_holds at h
  refine lv_iload_n hx hb dX6_holds_0 rfl (lv_at hl 0 rfl) ?_
  refine lv_sipush (v := (nI 300)) hx hb dX6_holds_1 (by decide) ?_
  refine lv_idiv hx hb dX6_holds_4 (by decide) ?_
  refine lv_aload_n hx hb dX6_holds_5 rfl (lv_at hl 1 rfl) ?_
  refine lv_iload_n hx hb dX6_holds_6 rfl (lv_at hl 2 rfl) ?_
  refine lv_iload_n hx hb dX6_holds_7 rfl (lv_at hl 3 rfl) ?_
  obtain ⟨r2, c1, h⟩ := zd_at h
  refine z_cS hx hb hq hml hown hK hW hS [.int ((a0 / (nI 300))), .ref (G.2.2.2 + a1), .int a2, .int a3] [] (c_X6_valueAsked l G st (a0 / (nI 300)) a1 a2 a3 c1) (zi zm613) (zi zm614) (zi zm28) (zi zm615) cal_X6_valueAsked rfl hl.1 rfl (Nat.le_of_ble_eq_true rfl) (zR_ok (by omega) (by decide)) ⟨(Nat.le_of_ble_eq_true rfl), (Nat.le_of_ble_eq_true rfl)⟩ dX6_holds_8 (fun H locs hW hS => ?_)
  refine W.eq (g2 := F0 m 11 ls [.int r2]) rfl ?_
  refine lv_istore (lv' := [(4, .int r2), (0, .int a0), (1, .ref (G.2.2.2 + a1)), (2, .int a2), (3, .int a3)]) hx hb dX6_holds_11 hl (by decide) rfl (fun ls hl => ?_)
  refine lv_iload_n hx hb dX6_holds_13 rfl (lv_at hl 1 rfl) ?_
  refine lv_bipush (v := (nI 100)) hx hb dX6_holds_14 (by decide) ?_
  refine lv_irem hx hb dX6_holds_16 (by decide) ?_
  refine lv_topi (fun v3 ev3 => ?_)
  have h := zl_at ev3 h
  refine lv_istore (lv' := [(5, .int v3), (4, .int r2), (0, .int a0), (1, .ref (G.2.2.2 + a1)), (2, .int a2), (3, .int a3)]) hx hb dX6_holds_17 hl (by decide) rfl (fun ls hl => ?_)
  refine lv_iload_n hx hb dX6_holds_19 rfl (lv_at hl 2 rfl) ?_
  refine lv_bipush (v := (nI 100)) hx hb dX6_holds_20 (by decide) ?_
  refine lv_idiv hx hb dX6_holds_22 (by decide) ?_
  refine lv_iconst (v := (nI 3)) hx hb dX6_holds_23 (by decide) ?_
  refine lv_irem hx hb dX6_holds_24 (by decide) ?_
  rcases zi_at h with ⟨k4, h⟩ | ⟨k4, h⟩
  · refine lv_lookup (off := 27) (tgt := 52) hx hb dX6_holds_25 (by decide) (by rw [k4]; rfl) (by decide) ?_
    refine lv_iload hx hb dX6_holds_52 (lv_at hl 1 rfl) ?_
    refine lv_iload hx hb dX6_holds_54 (lv_at hl 0 rfl) ?_
    refine z_br (lv_icmp_ge (tgt := 63) hx hb dX6_holds_56 (by decide)) h (fun h => ?_) (fun h => ?_)
    · refine lv_iconst (v := (nI 0)) hx hb dX6_holds_63 (by decide) ?_
      obtain rfl := Option.some.inj h
      exact z_rz hx hb hr hlk rfl hW hS (Nat.le_of_ble_eq_true rfl) (Nat.le_of_ble_eq_true rfl) dX6_holds_64
    · refine lv_iconst (v := (nI 1)) hx hb dX6_holds_59 (by decide) ?_
      refine lv_goto (tgt := 64) hx hb dX6_holds_60 (by decide) ?_
      obtain rfl := Option.some.inj h
      exact z_rz hx hb hr hlk rfl hW hS (Nat.le_of_ble_eq_true rfl) (Nat.le_of_ble_eq_true rfl) dX6_holds_64
  · rcases zi_at h with ⟨k5, h⟩ | ⟨k5, h⟩
    · refine lv_lookup (off := 40) (tgt := 65) hx hb dX6_holds_25 (by decide) (by rw [k5]; rfl) (by decide) ?_
      refine lv_iload hx hb dX6_holds_65 (lv_at hl 1 rfl) ?_
      refine lv_iload hx hb dX6_holds_67 (lv_at hl 0 rfl) ?_
      refine z_brn (lv_icmp_ne (tgt := 76) hx hb dX6_holds_69 (by decide)) h (fun h => ?_) (fun h => ?_)
      · refine lv_iconst (v := (nI 0)) hx hb dX6_holds_76 (by decide) ?_
        obtain rfl := Option.some.inj h
        exact z_rz hx hb hr hlk rfl hW hS (Nat.le_of_ble_eq_true rfl) (Nat.le_of_ble_eq_true rfl) dX6_holds_77
      · refine lv_iconst (v := (nI 1)) hx hb dX6_holds_72 (by decide) ?_
        refine lv_goto (tgt := 77) hx hb dX6_holds_73 (by decide) ?_
        obtain rfl := Option.some.inj h
        exact z_rz hx hb hr hlk rfl hW hS (Nat.le_of_ble_eq_true rfl) (Nat.le_of_ble_eq_true rfl) dX6_holds_77
    · refine lv_lookup (off := 53) (tgt := 78) hx hb dX6_holds_25 (by decide) (by show Op.lookupswitch.offset [(0, 27), (1, 40)] 53 _ = _; rw [lv_osw k4 (by decide), lv_osw k5 (by decide)]; rfl) (by decide) ?_
      refine lv_iload hx hb dX6_holds_78 (lv_at hl 1 rfl) ?_
      refine lv_iload hx hb dX6_holds_80 (lv_at hl 0 rfl) ?_
      refine z_br (lv_icmp_le (tgt := 89) hx hb dX6_holds_82 (by decide)) h (fun h => ?_) (fun h => ?_)
      · refine lv_iconst (v := (nI 0)) hx hb dX6_holds_89 (by decide) ?_
        obtain rfl := Option.some.inj h
        exact z_rz hx hb hr hlk rfl hW hS (Nat.le_of_ble_eq_true rfl) (Nat.le_of_ble_eq_true rfl) dX6_holds_90
      · refine lv_iconst (v := (nI 1)) hx hb dX6_holds_85 (by decide) ?_
        refine lv_goto (tgt := 90) hx hb dX6_holds_86 (by decide) ?_
        obtain rfl := Option.some.inj h
        exact z_rz hx hb hr hlk rfl hW hS (Nat.le_of_ble_eq_true rfl) (Nat.le_of_ble_eq_true rfl) dX6_holds_90
def f_X6_signOf_167 (N : Nat) (st : zS) (o : Nat) (a1 : Nat) (a2 : Int32) (a3 : Int32)  (x5 : Int32) : Option Int32 := (some (if (nI 100) < x5 then (nI 100) else x5))
def f_X6_signOf_161 (N : Nat) (st : zS) (o : Nat) (a1 : Nat) (a2 : Int32) (a3 : Int32) (k9 : Int32 → Int32 → Int32 → Option Int32) (x4 : Int32) (x5 : Int32) (x6 : Int32) : Option Int32 := (k9 x4 x5 (x6 + (nI 1)))
def f_X6_signOf_158 (N : Nat) (st : zS) (o : Nat) (a1 : Nat) (a2 : Int32) (a3 : Int32) (k9 : Int32 → Int32 → Int32 → Option Int32) (x5 : Int32) (x6 : Int32) (y0 : Int32) (y1 : Int32) : Option Int32 := (zl (y1 ||| y0) (fun v9 => (f_X6_signOf_161 N st o a1 a2 a3 k9 v9 x5 x6)))
def f_X6_signOf_69 (N : Nat) (st : zS) (o : Nat) (a1 : Nat) (a2 : Int32) (a3 : Int32) (k9 : Int32 → Int32 → Int32 → Option Int32) (x6 : Int32) (y0 : Int32) (y1 : Int32) : Option Int32 := (zl (y1 + y0) (fun v13 => (f_X6_signOf_161 N st o a1 a2 a3 k9 (nI 0) v13 x6)))
def f_X6_signOf_9 (N : Nat) (st : zS) (o : Nat) (a1 : Nat) (a2 : Int32) (a3 : Int32)  : Nat → Int32 → Int32 → Int32 → Option Int32
  | 0, _, _, _ => none
  | n9 + 1, x4, x5, x6 => (if zTg st o ∈ [16] then (if (zM st o 4) ≤ x6 then (f_X6_signOf_167 N st o a1 a2 a3 x5) else (Option.bind (zR st o 3) (fun b2 => (if zTg st b2 ∈ [1] then (if (nI (zLn st b2)) ≤ x6 then (f_X6_signOf_167 N st o a1 a2 a3 x5) else (if zin x6 (zLn st b2) then (zl (zM st b2 (x6).toNatClampNeg) (fun v5 => (zl (x4 &&& (nI 1)) (fun v6 => (if v5 < (nI 3000) then (if v5 = (nI 2000) then (zl (x4 ^^^ (nI 1)) (fun v12 => (f_X6_signOf_161 N st o a1 a2 a3 (f_X6_signOf_9 N st o a1 a2 a3 n9) v12 x5 x6))) else (if v5 = (nI 2001) then (zl ((x4 >>> ((nI 1) &&& 31)) &&& (v6 ||| (-2 : Int32))) (fun v11 => (f_X6_signOf_161 N st o a1 a2 a3 (f_X6_signOf_9 N st o a1 a2 a3 n9) v11 x5 x6))) else (if v5 = (nI 2002) then (zl ((x4 >>> ((nI 1) &&& 31)) ||| v6) (fun v10 => (f_X6_signOf_161 N st o a1 a2 a3 (f_X6_signOf_9 N st o a1 a2 a3 n9) v10 x5 x6))) else (Option.bind (f_X6_holds st v5 a1 a2 a3) (fun r8 => (if r8 = 0 then (f_X6_signOf_158 N st o a1 a2 a3 (f_X6_signOf_9 N st o a1 a2 a3 n9) x5 x6 (nI 0) (x4 <<< ((nI 1) &&& 31))) else (f_X6_signOf_158 N st o a1 a2 a3 (f_X6_signOf_9 N st o a1 a2 a3 n9) x5 x6 (nI 1) (x4 <<< ((nI 1) &&& 31))))))))) else (if v6 = (nI 1) then (f_X6_signOf_69 N st o a1 a2 a3 (f_X6_signOf_9 N st o a1 a2 a3 n9) x6 (v5 - (nI 3000)) x5) else (f_X6_signOf_69 N st o a1 a2 a3 (f_X6_signOf_9 N st o a1 a2 a3 n9) x6 (nI 0) x5))))))) else none)) else none)))) else none)
def f_X6_signOf (N : Nat) (st : zS) (o : Nat) (a1 : Nat) (a2 : Int32) (a3 : Int32) : Option Int32 := (f_X6_signOf_9 N st o a1 a2 a3 N (nI 0) (nI 0) (nI 0))
set_option maxHeartbeats 1000000 in
set_option maxRecDepth 100000 in
theorem c_X6_signOf (l : Launch) (G : zG) (N : Nat) (st : zS) (o : Nat) (a1 : Nat) (a2 : Int32) (a3 : Int32) {r : Int32} (h : f_X6_signOf N st o a1 a2 a3 = some r) : zMet l G yX6_signOf cX6_signOf 9 (some .int) 2 0 0 [.ref (G.2.2.2 + o), .ref (G.2.2.2 + a1), .int a2, .int a3] st (some (.int r)) st := by
  refine zMet_of (by decide +kernel) ?_
  intro p e s m args below meth c X
  obtain ⟨hx, hb, hr, hml, hown, hq, hlk, hK, -, hin, hW, hS⟩ := X
  have hown : s.vm.findClass RX6 = some m.cls := hown
  refine z_ent (by exact Nat.le_of_ble_eq_true rfl) (fun ls hl => ?_)
  have hl : lv_has ls 9 [(0, .ref (G.2.2.2 + o)), (1, .ref (G.2.2.2 + a1)), (2, .int a2), (3, .int a3)] := hl
  unfold f_X6_signOf at h
  have B167 : ∀ (x5 : Int32) (H : Heap) (locs : List Loc) (ls : Array Slot), f_X6_signOf_167 N st o a1 a2 a3 x5 = some r → zWd G st H → va_S (zA G) s.heap H locs → lv_has ls 9 [(5, .int x5)] → W p l e (zRm 2 0 0) s m args below meth c H locs 0 0 (MQ below (zQ G (some (.int r)) st) args s 0 0 (zA G)) (F0 m 167 ls []) := by
    intro x5 H locs ls h hW hS hl
    unfold f_X6_signOf_167 at h
    refine lv_iload hx hb dX6_signOf_167 (lv_at hl 0 rfl) ?_
    refine lv_bipush (v := (nI 100)) hx hb dX6_signOf_169 (by decide) ?_
    refine va_mmin hx hb (hml.trans hl.1.symm) hown (hq _ (zi zm116)) (hq _ (zi zm117)) (hq _ (zi zm53)) (hq _ (zi zm118)) (Nat.le_of_ble_eq_true rfl) (by show _ ≤ 60 * _; exact (Nat.le_of_ble_eq_true rfl)) (Nat.le_of_ble_eq_true rfl) (Nat.le_of_ble_eq_true rfl) dX6_signOf_171 ?_
    obtain rfl := Option.some.inj h
    exact z_ri hx hb hr hlk hW hS (Nat.le_of_ble_eq_true rfl) (Nat.le_of_ble_eq_true rfl) dX6_signOf_174
  have B9 : ∀ (n9 : Nat) (x4 : Int32) (x5 : Int32) (x6 : Int32) (H : Heap) (locs : List Loc) (ls : Array Slot), f_X6_signOf_9 N st o a1 a2 a3 n9 x4 x5 x6 = some r → zWd G st H → va_S (zA G) s.heap H locs → lv_has ls 9 [(0, .ref (G.2.2.2 + o)), (1, .ref (G.2.2.2 + a1)), (2, .int a2), (3, .int a3), (4, .int x4), (5, .int x5), (6, .int x6)] → W p l e (zRm 2 0 0) s m args below meth c H locs 0 0 (MQ below (zQ G (some (.int r)) st) args s 0 0 (zA G)) (F0 m 9 ls []) := by
    intro n9
    induction n9 with
    | zero =>
      intro x4 x5 x6 H locs ls h
      unfold f_X6_signOf_9 at h
      cases h
    | succ n9 ih9 =>
      have B161 : ∀ (x4 : Int32) (x5 : Int32) (x6 : Int32) (H : Heap) (locs : List Loc) (ls : Array Slot), f_X6_signOf_161 N st o a1 a2 a3 (f_X6_signOf_9 N st o a1 a2 a3 n9) x4 x5 x6 = some r → zWd G st H → va_S (zA G) s.heap H locs → lv_has ls 9 [(0, .ref (G.2.2.2 + o)), (1, .ref (G.2.2.2 + a1)), (2, .int a2), (3, .int a3), (4, .int x4), (5, .int x5), (6, .int x6)] → W p l e (zRm 2 0 0) s m args below meth c H locs 0 0 (MQ below (zQ G (some (.int r)) st) args s 0 0 (zA G)) (F0 m 161 ls []) := by
        intro x4 x5 x6 H locs ls h hW hS hl
        unfold f_X6_signOf_161 at h
        refine lv_iinc (v := (x6 + (nI 1))) (lv' := [(6, .int ((x6 + (nI 1)))), (0, .ref (G.2.2.2 + o)), (1, .ref (G.2.2.2 + a1)), (2, .int a2), (3, .int a3), (4, .int x4), (5, .int x5)]) hx hb dX6_signOf_161 hl (k := 6) rfl rfl (by decide) rfl (fun ls hl => ?_)
        refine lv_goto (tgt := 9) hx hb dX6_signOf_164 (by decide) ?_
        exact ih9 x4 x5 (x6 + (nI 1)) _ _ _ h hW hS (lv_sub hl [1, 2, 3, 4, 5, 6, 0] rfl)
      have B158 : ∀ (x5 : Int32) (x6 : Int32) (y0 : Int32) (y1 : Int32) (H : Heap) (locs : List Loc) (ls : Array Slot), f_X6_signOf_158 N st o a1 a2 a3 (f_X6_signOf_9 N st o a1 a2 a3 n9) x5 x6 y0 y1 = some r → zWd G st H → va_S (zA G) s.heap H locs → lv_has ls 9 [(0, .ref (G.2.2.2 + o)), (1, .ref (G.2.2.2 + a1)), (2, .int a2), (3, .int a3), (5, .int x5), (6, .int x6)] → W p l e (zRm 2 0 0) s m args below meth c H locs 0 0 (MQ below (zQ G (some (.int r)) st) args s 0 0 (zA G)) (F0 m 158 ls [.int y0, .int y1]) := by
        intro x5 x6 y0 y1 H locs ls h hW hS hl
        unfold f_X6_signOf_158 at h
        refine lv_ior hx hb dX6_signOf_158 ?_
        refine lv_topi (fun v9 ev9 => ?_)
        have h := zl_at ev9 h
        refine lv_istore (lv' := [(4, .int v9), (0, .ref (G.2.2.2 + o)), (1, .ref (G.2.2.2 + a1)), (2, .int a2), (3, .int a3), (5, .int x5), (6, .int x6)]) hx hb dX6_signOf_159 hl (by decide) rfl (fun ls hl => ?_)
        exact B161 v9 x5 x6 _ _ _ h hW hS (lv_sub hl [1, 2, 3, 4, 0, 5, 6] rfl)
      have B69 : ∀ (x6 : Int32) (y0 : Int32) (y1 : Int32) (H : Heap) (locs : List Loc) (ls : Array Slot), f_X6_signOf_69 N st o a1 a2 a3 (f_X6_signOf_9 N st o a1 a2 a3 n9) x6 y0 y1 = some r → zWd G st H → va_S (zA G) s.heap H locs → lv_has ls 9 [(0, .ref (G.2.2.2 + o)), (1, .ref (G.2.2.2 + a1)), (2, .int a2), (3, .int a3), (6, .int x6)] → W p l e (zRm 2 0 0) s m args below meth c H locs 0 0 (MQ below (zQ G (some (.int r)) st) args s 0 0 (zA G)) (F0 m 69 ls [.int y0, .int y1]) := by
        intro x6 y0 y1 H locs ls h hW hS hl
        unfold f_X6_signOf_69 at h
        refine lv_iadd hx hb dX6_signOf_69 ?_
        refine lv_topi (fun v13 ev13 => ?_)
        have h := zl_at ev13 h
        refine lv_istore (lv' := [(5, .int v13), (0, .ref (G.2.2.2 + o)), (1, .ref (G.2.2.2 + a1)), (2, .int a2), (3, .int a3), (6, .int x6)]) hx hb dX6_signOf_70 hl (by decide) rfl (fun ls hl => ?_)
        refine lv_iconst (v := (nI 0)) hx hb dX6_signOf_72 (by decide) ?_
        refine lv_istore (lv' := [(4, .int ((nI 0))), (5, .int v13), (0, .ref (G.2.2.2 + o)), (1, .ref (G.2.2.2 + a1)), (2, .int a2), (3, .int a3), (6, .int x6)]) hx hb dX6_signOf_73 hl (by decide) rfl (fun ls hl => ?_)
        refine lv_goto (tgt := 161) hx hb dX6_signOf_75 (by decide) ?_
        exact B161 (nI 0) v13 x6 _ _ _ h hW hS (lv_sub hl [2, 3, 4, 5, 0, 1, 6] rfl)
      intro x4 x5 x6 H locs ls h hW hS hl
      unfold f_X6_signOf_9 at h
      refine lv_iload hx hb dX6_signOf_9 (lv_at hl 6 rfl) ?_
      refine lv_aload_n hx hb dX6_signOf_11 rfl (lv_at hl 0 rfl) ?_
      obtain ⟨t1, h⟩ := zc_at h
      refine z_gI hx hb hq hown hK hW fs_RX6_119 t1 dX6_signOf_12 ?_
      refine z_br (lv_icmp_ge (tgt := 167) hx hb dX6_signOf_15 (by decide)) h (fun h => ?_) (fun h => ?_)
      · exact B167 x5 _ _ _ h hW hS (lv_sub hl [5] rfl)
      · refine lv_iload hx hb dX6_signOf_18 (lv_at hl 6 rfl) ?_
        refine lv_aload_n hx hb dX6_signOf_20 rfl (lv_at hl 0 rfl) ?_
        obtain ⟨b2, hb2, h⟩ := zd_at h
        refine z_gR hx hb hq hown hK hW fs_RX6_18 t1 hb2 dX6_signOf_21 ?_
        obtain ⟨t3, h⟩ := zc_at h
        refine z_len hx hb hK hW (Or.inl (List.mem_singleton.mp t3)) dX6_signOf_24 ?_
        refine z_br (lv_icmp_ge (tgt := 167) hx hb dX6_signOf_25 (by decide)) h (fun h => ?_) (fun h => ?_)
        · exact B167 x5 _ _ _ h hW hS (lv_sub hl [5] rfl)
        · refine lv_aload_n hx hb dX6_signOf_28 rfl (lv_at hl 0 rfl) ?_
          refine z_gR hx hb hq hown hK hW fs_RX6_18 t1 hb2 dX6_signOf_29 ?_
          refine lv_iload hx hb dX6_signOf_32 (lv_at hl 6 rfl) ?_
          obtain ⟨t4, h⟩ := zc_at h
          refine z_alI hx hb hK hW (List.mem_singleton.mp t3) t4 dX6_signOf_34 ?_
          refine lv_topi (fun v5 ev5 => ?_)
          have h := zl_at ev5 h
          refine lv_istore (lv' := [(7, .int v5), (0, .ref (G.2.2.2 + o)), (1, .ref (G.2.2.2 + a1)), (2, .int a2), (3, .int a3), (4, .int x4), (5, .int x5), (6, .int x6)]) hx hb dX6_signOf_35 hl (by decide) rfl (fun ls hl => ?_)
          refine lv_iload hx hb dX6_signOf_37 (lv_at hl 5 rfl) ?_
          refine lv_iconst (v := (nI 1)) hx hb dX6_signOf_39 (by decide) ?_
          refine lv_iand hx hb dX6_signOf_40 ?_
          refine lv_topi (fun v6 ev6 => ?_)
          have h := zl_at ev6 h
          refine lv_istore (lv' := [(8, .int v6), (7, .int v5), (0, .ref (G.2.2.2 + o)), (1, .ref (G.2.2.2 + a1)), (2, .int a2), (3, .int a3), (4, .int x4), (5, .int x5), (6, .int x6)]) hx hb dX6_signOf_41 hl (by decide) rfl (fun ls hl => ?_)
          refine lv_iload hx hb dX6_signOf_43 (lv_at hl 1 rfl) ?_
          refine lv_sipush (v := (nI 3000)) hx hb dX6_signOf_45 (by decide) ?_
          refine z_br (lv_icmp_lt (tgt := 78) hx hb dX6_signOf_48 (by decide)) h (fun h => ?_) (fun h => ?_)
          · refine lv_iload hx hb dX6_signOf_78 (lv_at hl 1 rfl) ?_
            refine lv_sipush (v := (nI 2000)) hx hb dX6_signOf_80 (by decide) ?_
            refine z_brn (lv_icmp_ne (tgt := 95) hx hb dX6_signOf_83 (by decide)) h (fun h => ?_) (fun h => ?_)
            · refine lv_iload hx hb dX6_signOf_95 (lv_at hl 1 rfl) ?_
              refine lv_sipush (v := (nI 2001)) hx hb dX6_signOf_97 (by decide) ?_
              refine z_brn (lv_icmp_ne (tgt := 118) hx hb dX6_signOf_100 (by decide)) h (fun h => ?_) (fun h => ?_)
              · refine lv_iload hx hb dX6_signOf_118 (lv_at hl 1 rfl) ?_
                refine lv_sipush (v := (nI 2002)) hx hb dX6_signOf_120 (by decide) ?_
                refine z_brn (lv_icmp_ne (tgt := 138) hx hb dX6_signOf_123 (by decide)) h (fun h => ?_) (fun h => ?_)
                · refine lv_iload hx hb dX6_signOf_138 (lv_at hl 6 rfl) ?_
                  refine lv_iconst (v := (nI 1)) hx hb dX6_signOf_140 (by decide) ?_
                  refine lv_ishl hx hb dX6_signOf_141 ?_
                  refine lv_iload hx hb dX6_signOf_142 (lv_at hl 1 rfl) ?_
                  refine lv_aload_n hx hb dX6_signOf_144 rfl (lv_at hl 3 rfl) ?_
                  refine lv_iload_n hx hb dX6_signOf_145 rfl (lv_at hl 4 rfl) ?_
                  refine lv_iload_n hx hb dX6_signOf_146 rfl (lv_at hl 5 rfl) ?_
                  obtain ⟨r8, c7, h⟩ := zd_at h
                  refine z_cS hx hb hq hml hown hK hW hS [.int v5, .ref (G.2.2.2 + a1), .int a2, .int a3] [.int ((x4 <<< ((nI 1) &&& 31)))] (c_X6_holds l G st v5 a1 a2 a3 c7) (zi zm610) (zi zm611) (zi zm28) (zi zm612) cal_X6_holds rfl hl.1 rfl (Nat.le_of_ble_eq_true rfl) (zR_ok (by omega) (by decide)) ⟨(Nat.le_of_ble_eq_true rfl), (Nat.le_of_ble_eq_true rfl)⟩ dX6_signOf_147 (fun H locs hW hS => ?_)
                  refine W.eq (g2 := F0 m 150 ls [.int r8, .int ((x4 <<< ((nI 1) &&& 31)))]) rfl ?_
                  refine z_br (lv_if_eq (tgt := 157) hx hb dX6_signOf_150 (by decide)) h (fun h => ?_) (fun h => ?_)
                  · refine lv_iconst (v := (nI 0)) hx hb dX6_signOf_157 (by decide) ?_
                    exact B158 x5 x6 (nI 0) (x4 <<< ((nI 1) &&& 31)) _ _ _ h hW hS (lv_sub hl [2, 3, 4, 5, 7, 8] rfl)
                  · refine lv_iconst (v := (nI 1)) hx hb dX6_signOf_153 (by decide) ?_
                    refine lv_goto (tgt := 158) hx hb dX6_signOf_154 (by decide) ?_
                    exact B158 x5 x6 (nI 1) (x4 <<< ((nI 1) &&& 31)) _ _ _ h hW hS (lv_sub hl [2, 3, 4, 5, 7, 8] rfl)
                · refine lv_iload hx hb dX6_signOf_126 (lv_at hl 6 rfl) ?_
                  refine lv_iconst (v := (nI 1)) hx hb dX6_signOf_128 (by decide) ?_
                  refine lv_ishr hx hb dX6_signOf_129 ?_
                  refine lv_iload hx hb dX6_signOf_130 (lv_at hl 0 rfl) ?_
                  refine lv_ior hx hb dX6_signOf_132 ?_
                  refine lv_topi (fun v10 ev10 => ?_)
                  have h := zl_at ev10 h
                  refine lv_istore (lv' := [(4, .int v10), (8, .int v6), (7, .int v5), (0, .ref (G.2.2.2 + o)), (1, .ref (G.2.2.2 + a1)), (2, .int a2), (3, .int a3), (5, .int x5), (6, .int x6)]) hx hb dX6_signOf_133 hl (by decide) rfl (fun ls hl => ?_)
                  refine lv_goto (tgt := 161) hx hb dX6_signOf_135 (by decide) ?_
                  exact B161 v10 x5 x6 _ _ _ h hW hS (lv_sub hl [3, 4, 5, 6, 0, 7, 8] rfl)
              · refine lv_iload hx hb dX6_signOf_103 (lv_at hl 6 rfl) ?_
                refine lv_iconst (v := (nI 1)) hx hb dX6_signOf_105 (by decide) ?_
                refine lv_ishr hx hb dX6_signOf_106 ?_
                refine lv_iload hx hb dX6_signOf_107 (lv_at hl 0 rfl) ?_
                refine lv_bipush (v := (-2)) hx hb dX6_signOf_109 (by decide) ?_
                refine lv_ior hx hb dX6_signOf_111 ?_
                refine lv_iand hx hb dX6_signOf_112 ?_
                refine lv_topi (fun v11 ev11 => ?_)
                have h := zl_at ev11 h
                refine lv_istore (lv' := [(4, .int v11), (8, .int v6), (7, .int v5), (0, .ref (G.2.2.2 + o)), (1, .ref (G.2.2.2 + a1)), (2, .int a2), (3, .int a3), (5, .int x5), (6, .int x6)]) hx hb dX6_signOf_113 hl (by decide) rfl (fun ls hl => ?_)
                refine lv_goto (tgt := 161) hx hb dX6_signOf_115 (by decide) ?_
                exact B161 v11 x5 x6 _ _ _ h hW hS (lv_sub hl [3, 4, 5, 6, 0, 7, 8] rfl)
            · refine lv_iload hx hb dX6_signOf_86 (lv_at hl 6 rfl) ?_
              refine lv_iconst (v := (nI 1)) hx hb dX6_signOf_88 (by decide) ?_
              refine lv_ixor hx hb dX6_signOf_89 ?_
              refine lv_topi (fun v12 ev12 => ?_)
              have h := zl_at ev12 h
              refine lv_istore (lv' := [(4, .int v12), (8, .int v6), (7, .int v5), (0, .ref (G.2.2.2 + o)), (1, .ref (G.2.2.2 + a1)), (2, .int a2), (3, .int a3), (5, .int x5), (6, .int x6)]) hx hb dX6_signOf_90 hl (by decide) rfl (fun ls hl => ?_)
              refine lv_goto (tgt := 161) hx hb dX6_signOf_92 (by decide) ?_
              exact B161 v12 x5 x6 _ _ _ h hW hS (lv_sub hl [3, 4, 5, 6, 0, 7, 8] rfl)
          · refine lv_iload hx hb dX6_signOf_51 (lv_at hl 7 rfl) ?_
            refine lv_iload hx hb dX6_signOf_53 (lv_at hl 0 rfl) ?_
            refine lv_iconst (v := (nI 1)) hx hb dX6_signOf_55 (by decide) ?_
            refine z_brn (lv_icmp_ne (tgt := 68) hx hb dX6_signOf_56 (by decide)) h (fun h => ?_) (fun h => ?_)
            · refine lv_iconst (v := (nI 0)) hx hb dX6_signOf_68 (by decide) ?_
              exact B69 x6 (nI 0) x5 _ _ _ h hW hS (lv_sub hl [2, 3, 4, 5, 8] rfl)
            · refine lv_iload hx hb dX6_signOf_59 (lv_at hl 1 rfl) ?_
              refine lv_sipush (v := (nI 3000)) hx hb dX6_signOf_61 (by decide) ?_
              refine lv_isub hx hb dX6_signOf_64 ?_
              refine lv_goto (tgt := 69) hx hb dX6_signOf_65 (by decide) ?_
              exact B69 x6 (v5 - (nI 3000)) x5 _ _ _ h hW hS (lv_sub hl [2, 3, 4, 5, 8] rfl)
  refine lv_iconst (v := (nI 0)) hx hb dX6_signOf_0 (by decide) ?_
  refine lv_istore (lv' := [(4, .int ((nI 0))), (0, .ref (G.2.2.2 + o)), (1, .ref (G.2.2.2 + a1)), (2, .int a2), (3, .int a3)]) hx hb dX6_signOf_1 hl (by decide) rfl (fun ls hl => ?_)
  refine lv_iconst (v := (nI 0)) hx hb dX6_signOf_3 (by decide) ?_
  refine lv_istore (lv' := [(5, .int ((nI 0))), (4, .int ((nI 0))), (0, .ref (G.2.2.2 + o)), (1, .ref (G.2.2.2 + a1)), (2, .int a2), (3, .int a3)]) hx hb dX6_signOf_4 hl (by decide) rfl (fun ls hl => ?_)
  refine lv_iconst (v := (nI 0)) hx hb dX6_signOf_6 (by decide) ?_
  refine lv_istore (lv' := [(6, .int ((nI 0))), (5, .int ((nI 0))), (4, .int ((nI 0))), (0, .ref (G.2.2.2 + o)), (1, .ref (G.2.2.2 + a1)), (2, .int a2), (3, .int a3)]) hx hb dX6_signOf_7 hl (by decide) rfl (fun ls hl => ?_)
  exact B9 N (nI 0) (nI 0) (nI 0) _ _ _ h hW hS (lv_sub hl [3, 4, 5, 6, 2, 1, 0] rfl)
def f_X2_signIf_66 (N : Nat) (st : zS) (o : Nat) (a1 : Int32) (a2 : Int32) (a3 : Int32)  (y0 : Int32) (y1 : Int32) (y2 : Nat) (y3 : Nat) : Option Int32 := (if zTg st y3 ∈ [16] then (Option.bind (f_X6_signOf N st y3 y2 y1 y0) (fun r11 => (some r11))) else none)
def f_X2_signIf_47 (N : Nat) (st : zS) (o : Nat) (a1 : Int32) (a2 : Int32) (a3 : Int32)  (x4 : Nat) (y0 : Int32) : Option Int32 := (if zTg st o ∈ [12] then (Option.bind (zR st o 2) (fun b8 => (if y0 = 0 then (f_X2_signIf_66 N st o a1 a2 a3 (nI 0) a1 x4 b8) else (f_X2_signIf_66 N st o a1 a2 a3 (nI 1) a1 x4 b8)))) else none)
def f_X2_signIf_46 (N : Nat) (st : zS) (o : Nat) (a1 : Int32) (a2 : Int32) (a3 : Int32)  (x4 : Nat) : Option Int32 := (f_X2_signIf_47 N st o a1 a2 a3 x4 (nI 0))
def f_X2_signIf (N : Nat) (st : zS) (o : Nat) (a1 : Int32) (a2 : Int32) (a3 : Int32) : Option Int32 := (if zTg st o ∈ [12] then (Option.bind (f_X2_numberIf st o a1 a2 a3) (fun r3 => (Option.bind (f_X2_wayOf st o r3) (fun r5 => (zo r5 (some (nI 100)) (fun q6 => (if a1 ≤ 0 then (f_X2_signIf_46 N st o a1 a2 a3 q6) else (Option.bind (f_X2_numberIf st o (a1 - (nI 1)) a2 a3) (fun r13 => (if zTg st q6 ∈ zLs then (if r13 = (zM st q6 1) then (f_X2_signIf_47 N st o a1 a2 a3 q6 (nI 1)) else (f_X2_signIf_46 N st o a1 a2 a3 q6)) else none)))))))))) else none)
set_option maxHeartbeats 1000000 in
set_option maxRecDepth 100000 in
theorem c_X2_signIf (l : Launch) (G : zG) (N : Nat) (st : zS) (o : Nat) (a1 : Int32) (a2 : Int32) (a3 : Int32) {r : Int32} (h : f_X2_signIf N st o a1 a2 a3 = some r) : zMet l G yX2_signIf cX2_signIf 6 (some .int) 3 0 0 [.ref (G.2.2.2 + o), .int a1, .int a2, .int a3] st (some (.int r)) st := by
  refine zMet_of (by decide +kernel) ?_
  intro p e s m args below meth c X
  obtain ⟨hx, hb, hr, hml, hown, hq, hlk, hK, -, hin, hW, hS⟩ := X
  have hown : s.vm.findClass RX2 = some m.cls := hown
  refine z_ent (by exact Nat.le_of_ble_eq_true rfl) (fun ls hl => ?_)
  have hl : lv_has ls 6 [(0, .ref (G.2.2.2 + o)), (1, .int a1), (2, .int a2), (3, .int a3)] := hl
  unfold f_X2_signIf at h
  have B66 : ∀ (y0 : Int32) (y1 : Int32) (y2 : Nat) (y3 : Nat) (H : Heap) (locs : List Loc) (ls : Array Slot), f_X2_signIf_66 N st o a1 a2 a3 y0 y1 y2 y3 = some r → zWd G st H → va_S (zA G) s.heap H locs → lv_has ls 6 [] → W p l e (zRm 3 0 0) s m args below meth c H locs 0 0 (MQ below (zQ G (some (.int r)) st) args s 0 0 (zA G)) (F0 m 66 ls [.int y0, .int y1, .ref (G.2.2.2 + y2), .ref (G.2.2.2 + y3)]) := by
    intro y0 y1 y2 y3 H locs ls h hW hS hl
    unfold f_X2_signIf_66 at h
    obtain ⟨t9, h⟩ := zc_at h
    obtain ⟨r11, c10, h⟩ := zd_at h
    refine z_cV hx hb hq hml hown hK hW hS 6 [.ref (G.2.2.2 + y2), .int y1, .int y0] [] rfl (List.mem_singleton.mp t9) (c_X6_signOf l G N st y3 y2 y1 y0 c10) (zi zm606) (zi zm607) (zi zm608) (zi zm28) (zi zm609) cal_X6_signOf rfl rfl hl.1 rfl (Nat.le_of_ble_eq_true rfl) (zR_ok (by omega) (by decide)) ⟨(Nat.le_of_ble_eq_true rfl), (Nat.le_of_ble_eq_true rfl)⟩ dX2_signIf_66 (fun H locs hW hS => ?_)
    refine W.eq (g2 := F0 m 69 ls [.int r11]) rfl ?_
    obtain rfl := Option.some.inj h
    exact z_ri hx hb hr hlk hW hS (Nat.le_of_ble_eq_true rfl) (Nat.le_of_ble_eq_true rfl) dX2_signIf_69
  have B47 : ∀ (x4 : Nat) (y0 : Int32) (H : Heap) (locs : List Loc) (ls : Array Slot), f_X2_signIf_47 N st o a1 a2 a3 x4 y0 = some r → zWd G st H → va_S (zA G) s.heap H locs → lv_has ls 6 [(0, .ref (G.2.2.2 + o)), (1, .int a1), (4, .ref (G.2.2.2 + x4))] → W p l e (zRm 3 0 0) s m args below meth c H locs 0 0 (MQ below (zQ G (some (.int r)) st) args s 0 0 (zA G)) (F0 m 47 ls [.int y0]) := by
    intro x4 y0 H locs ls h hW hS hl
    unfold f_X2_signIf_47 at h
    refine lv_istore (lv' := [(5, .int y0), (0, .ref (G.2.2.2 + o)), (1, .int a1), (4, .ref (G.2.2.2 + x4))]) hx hb dX2_signIf_47 hl (by decide) rfl (fun ls hl => ?_)
    refine lv_aload_n hx hb dX2_signIf_49 rfl (lv_at hl 1 rfl) ?_
    obtain ⟨t7, h⟩ := zc_at h
    obtain ⟨b8, hb8, h⟩ := zd_at h
    refine z_gR hx hb hq hown hK hW fs_RX2_20 t7 hb8 dX2_signIf_50 ?_
    refine lv_aload hx hb dX2_signIf_53 (lv_at hl 3 rfl) ?_
    refine lv_iload_n hx hb dX2_signIf_55 rfl (lv_at hl 2 rfl) ?_
    refine lv_iload hx hb dX2_signIf_56 (lv_at hl 0 rfl) ?_
    refine z_br (lv_if_eq (tgt := 65) hx hb dX2_signIf_58 (by decide)) h (fun h => ?_) (fun h => ?_)
    · refine lv_iconst (v := (nI 0)) hx hb dX2_signIf_65 (by decide) ?_
      exact B66 (nI 0) a1 x4 b8 _ _ _ h hW hS (lv_sub hl [] rfl)
    · refine lv_iconst (v := (nI 1)) hx hb dX2_signIf_61 (by decide) ?_
      refine lv_goto (tgt := 66) hx hb dX2_signIf_62 (by decide) ?_
      exact B66 (nI 1) a1 x4 b8 _ _ _ h hW hS (lv_sub hl [] rfl)
  have B46 : ∀ (x4 : Nat) (H : Heap) (locs : List Loc) (ls : Array Slot), f_X2_signIf_46 N st o a1 a2 a3 x4 = some r → zWd G st H → va_S (zA G) s.heap H locs → lv_has ls 6 [(0, .ref (G.2.2.2 + o)), (1, .int a1), (4, .ref (G.2.2.2 + x4))] → W p l e (zRm 3 0 0) s m args below meth c H locs 0 0 (MQ below (zQ G (some (.int r)) st) args s 0 0 (zA G)) (F0 m 46 ls []) := by
    intro x4 H locs ls h hW hS hl
    unfold f_X2_signIf_46 at h
    refine lv_iconst (v := (nI 0)) hx hb dX2_signIf_46 (by decide) ?_
    exact B47 x4 (nI 0) _ _ _ h hW hS (lv_sub hl [0, 1, 2] rfl)
  refine lv_aload_n hx hb dX2_signIf_0 rfl (lv_at hl 0 rfl) ?_
  refine lv_aload_n hx hb dX2_signIf_1 rfl (lv_at hl 0 rfl) ?_
  refine lv_iload_n hx hb dX2_signIf_2 rfl (lv_at hl 1 rfl) ?_
  refine lv_iload_n hx hb dX2_signIf_3 rfl (lv_at hl 2 rfl) ?_
  refine lv_iload_n hx hb dX2_signIf_4 rfl (lv_at hl 3 rfl) ?_
  obtain ⟨t1, h⟩ := zc_at h
  obtain ⟨r3, c2, h⟩ := zd_at h
  refine z_cV hx hb hq hml hown hK hW hS 2 [.int a1, .int a2, .int a3] [.ref (G.2.2.2 + o)] rfl (List.mem_singleton.mp t1) (c_X2_numberIf l G st o a1 a2 a3 c2) (zi zm601) (zi zm602) (zi zm603) (zi zm14) (zi zm604) cal_X2_numberIf rfl rfl hl.1 rfl (Nat.le_of_ble_eq_true rfl) (zR_ok (by omega) (by decide)) ⟨(Nat.le_of_ble_eq_true rfl), (Nat.le_of_ble_eq_true rfl)⟩ dX2_signIf_5 (fun H locs hW hS => ?_)
  refine W.eq (g2 := F0 m 8 ls [.int r3, .ref (G.2.2.2 + o)]) rfl ?_
  obtain ⟨r5, c4, h⟩ := zd_at h
  refine z_cV hx hb hq hml hown hK hW hS 2 [.int r3] [] rfl (List.mem_singleton.mp t1) (c_X2_wayOf l G st o r3 c4) (zi zm482) (zi zm418) (zi zm419) (zi zm14) (zi zm420) cal_X2_wayOf rfl rfl hl.1 rfl (Nat.le_of_ble_eq_true rfl) (zR_ok (by omega) (by decide)) ⟨(Nat.le_of_ble_eq_true rfl), (Nat.le_of_ble_eq_true rfl)⟩ dX2_signIf_8 (fun H locs hW hS => ?_)
  rcases r5 with _ | q6
  · refine W.eq (g2 := F0 m 11 ls [.null]) rfl ?_
    refine lv_astoreN (lv' := [(4, .null), (0, .ref (G.2.2.2 + o)), (1, .int a1), (2, .int a2), (3, .int a3)]) hx hb dX2_signIf_11 hl (by decide) rfl (fun ls hl => ?_)
    refine lv_aloadN hx hb dX2_signIf_13 (lv_at hl 0 rfl) ?_
    refine lv_ifnonnullN hx hb dX2_signIf_15 ?_
    refine lv_bipush (v := (nI 100)) hx hb dX2_signIf_18 (by decide) ?_
    obtain rfl := Option.some.inj h
    exact z_ri hx hb hr hlk hW hS (Nat.le_of_ble_eq_true rfl) (Nat.le_of_ble_eq_true rfl) dX2_signIf_20
  · refine W.eq (g2 := F0 m 11 ls [.ref (G.2.2.2 + q6)]) rfl ?_
    refine lv_astore (lv' := [(4, .ref (G.2.2.2 + q6)), (0, .ref (G.2.2.2 + o)), (1, .int a1), (2, .int a2), (3, .int a3)]) hx hb dX2_signIf_11 hl (by decide) rfl (fun ls hl => ?_)
    refine lv_aload hx hb dX2_signIf_13 (lv_at hl 0 rfl) ?_
    refine lv_ifnonnull (tgt := 21) hx hb dX2_signIf_15 (by decide) ?_
    refine lv_iload_n hx hb dX2_signIf_21 rfl (lv_at hl 2 rfl) ?_
    refine z_br (lv_if_le (tgt := 46) hx hb dX2_signIf_22 (by decide)) h (fun h => ?_) (fun h => ?_)
    · exact B46 q6 _ _ _ h hW hS (lv_sub hl [1, 2, 0] rfl)
    · refine lv_aload_n hx hb dX2_signIf_25 rfl (lv_at hl 1 rfl) ?_
      refine lv_iload_n hx hb dX2_signIf_26 rfl (lv_at hl 2 rfl) ?_
      refine lv_iconst (v := (nI 1)) hx hb dX2_signIf_27 (by decide) ?_
      refine lv_isub hx hb dX2_signIf_28 ?_
      refine lv_iload_n hx hb dX2_signIf_29 rfl (lv_at hl 3 rfl) ?_
      refine lv_iload_n hx hb dX2_signIf_30 rfl (lv_at hl 4 rfl) ?_
      obtain ⟨r13, c12, h⟩ := zd_at h
      refine z_cV hx hb hq hml hown hK hW hS 2 [.int ((a1 - (nI 1))), .int a2, .int a3] [] rfl (List.mem_singleton.mp t1) (c_X2_numberIf l G st o (a1 - (nI 1)) a2 a3 c12) (zi zm601) (zi zm602) (zi zm603) (zi zm14) (zi zm604) cal_X2_numberIf rfl rfl hl.1 rfl (Nat.le_of_ble_eq_true rfl) (zR_ok (by omega) (by decide)) ⟨(Nat.le_of_ble_eq_true rfl), (Nat.le_of_ble_eq_true rfl)⟩ dX2_signIf_31 (fun H locs hW hS => ?_)
      refine W.eq (g2 := F0 m 34 ls [.int r13]) rfl ?_
      refine lv_aload hx hb dX2_signIf_34 (lv_at hl 0 rfl) ?_
      obtain ⟨t14, h⟩ := zc_at h
      refine z_gI hx hb hq hown hK hW fs_RX2_105 t14 dX2_signIf_36 ?_
      refine z_brn (lv_icmp_ne (tgt := 46) hx hb dX2_signIf_39 (by decide)) h (fun h => ?_) (fun h => ?_)
      · exact B46 q6 _ _ _ h hW hS (lv_sub hl [1, 2, 0] rfl)
      · refine lv_iconst (v := (nI 1)) hx hb dX2_signIf_42 (by decide) ?_
        refine lv_goto (tgt := 47) hx hb dX2_signIf_43 (by decide) ?_
        exact B47 q6 (nI 1) _ _ _ h hW hS (lv_sub hl [1, 2, 0] rfl)
def f_X2_signAt (N : Nat) (st : zS) (o : Nat) (a1 : Int32) : Option Int32 := (if zTg st o ∈ [12] then (Option.bind (f_X2_signIf N st o a1 (-1 : Int32) (-1 : Int32)) (fun r3 => (some r3))) else none)
set_option maxHeartbeats 1000000 in
set_option maxRecDepth 100000 in
theorem c_X2_signAt (l : Launch) (G : zG) (N : Nat) (st : zS) (o : Nat) (a1 : Int32) {r : Int32} (h : f_X2_signAt N st o a1 = some r) : zMet l G yX2_signAt cX2_signAt 2 (some .int) 4 0 0 [.ref (G.2.2.2 + o), .int a1] st (some (.int r)) st := by
  refine zMet_of (by decide +kernel) ?_
  intro p e s m args below meth c X
  obtain ⟨hx, hb, hr, hml, hown, hq, hlk, hK, -, hin, hW, hS⟩ := X
  have hown : s.vm.findClass RX2 = some m.cls := hown
  refine z_ent (by exact Nat.le_of_ble_eq_true rfl) (fun ls hl => ?_)
  have hl : lv_has ls 2 [(0, .ref (G.2.2.2 + o)), (1, .int a1)] := hl
  unfold f_X2_signAt at h
  refine lv_aload_n hx hb dX2_signAt_0 rfl (lv_at hl 0 rfl) ?_
  refine lv_iload_n hx hb dX2_signAt_1 rfl (lv_at hl 1 rfl) ?_
  refine lv_iconst (v := (-1)) hx hb dX2_signAt_2 (by decide) ?_
  refine lv_iconst (v := (-1)) hx hb dX2_signAt_3 (by decide) ?_
  obtain ⟨t1, h⟩ := zc_at h
  obtain ⟨r3, c2, h⟩ := zd_at h
  refine z_cV hx hb hq hml hown hK hW hS 2 [.int a1, .int ((-1)), .int ((-1))] [] rfl (List.mem_singleton.mp t1) (c_X2_signIf l G N st o a1 (-1 : Int32) (-1 : Int32) c2) (zi zm596) (zi zm597) (zi zm598) (zi zm14) (zi zm599) cal_X2_signIf rfl rfl hl.1 rfl (Nat.le_of_ble_eq_true rfl) (zR_ok (by omega) (by decide)) ⟨(Nat.le_of_ble_eq_true rfl), (Nat.le_of_ble_eq_true rfl)⟩ dX2_signAt_4 (fun H locs hW hS => ?_)
  refine W.eq (g2 := F0 m 7 ls [.int r3]) rfl ?_
  obtain rfl := Option.some.inj h
  exact z_ri hx hb hr hlk hW hS (Nat.le_of_ble_eq_true rfl) (Nat.le_of_ble_eq_true rfl) dX2_signAt_7
def f_X2_writtenIf_32 (N : Nat) (st : zS) (o : Nat) (a1 : Int32) (a2 : Int32) (k5 : Int32 → Int32 → Option Int32) (x3 : Int32) (x4 : Int32) : Option Int32 := (k5 x3 (x4 + (nI 1)))
def f_X2_writtenIf_5 (N : Nat) (st : zS) (o : Nat) (a1 : Int32) (a2 : Int32)  : Nat → Int32 → Int32 → Option Int32
  | 0, _, _ => none
  | n5 + 1, x3, x4 => (if zTg st o ∈ [12] then (Option.bind (zR st o 5) (fun b2 => (if zTg st b2 ∈ [15] then (Option.bind (f_X5_size st b2) (fun r5 => (if r5 ≤ x4 then (some x3) else (Option.bind (f_X2_numberIf st o x4 a1 a2) (fun r7 => (if r7 = (-1 : Int32) then (f_X2_writtenIf_32 N st o a1 a2 (f_X2_writtenIf_5 N st o a1 a2 n5) x3 x4) else (f_X2_writtenIf_32 N st o a1 a2 (f_X2_writtenIf_5 N st o a1 a2 n5) (x3 + (nI 1)) x4))))))) else none))) else none)
def f_X2_writtenIf (N : Nat) (st : zS) (o : Nat) (a1 : Int32) (a2 : Int32) : Option Int32 := (f_X2_writtenIf_5 N st o a1 a2 N (nI 0) (nI 0))
set_option maxHeartbeats 1000000 in
set_option maxRecDepth 100000 in
theorem c_X2_writtenIf (l : Launch) (G : zG) (N : Nat) (st : zS) (o : Nat) (a1 : Int32) (a2 : Int32) {r : Int32} (h : f_X2_writtenIf N st o a1 a2 = some r) : zMet l G yX2_writtenIf cX2_writtenIf 5 (some .int) 2 0 0 [.ref (G.2.2.2 + o), .int a1, .int a2] st (some (.int r)) st := by
  refine zMet_of (by decide +kernel) ?_
  intro p e s m args below meth c X
  obtain ⟨hx, hb, hr, hml, hown, hq, hlk, hK, -, hin, hW, hS⟩ := X
  have hown : s.vm.findClass RX2 = some m.cls := hown
  refine z_ent (by exact Nat.le_of_ble_eq_true rfl) (fun ls hl => ?_)
  have hl : lv_has ls 5 [(0, .ref (G.2.2.2 + o)), (1, .int a1), (2, .int a2)] := hl
  unfold f_X2_writtenIf at h
  have B5 : ∀ (n5 : Nat) (x3 : Int32) (x4 : Int32) (H : Heap) (locs : List Loc) (ls : Array Slot), f_X2_writtenIf_5 N st o a1 a2 n5 x3 x4 = some r → zWd G st H → va_S (zA G) s.heap H locs → lv_has ls 5 [(0, .ref (G.2.2.2 + o)), (1, .int a1), (2, .int a2), (3, .int x3), (4, .int x4)] → W p l e (zRm 2 0 0) s m args below meth c H locs 0 0 (MQ below (zQ G (some (.int r)) st) args s 0 0 (zA G)) (F0 m 5 ls []) := by
    intro n5
    induction n5 with
    | zero =>
      intro x3 x4 H locs ls h
      unfold f_X2_writtenIf_5 at h
      cases h
    | succ n5 ih5 =>
      have B32 : ∀ (x3 : Int32) (x4 : Int32) (H : Heap) (locs : List Loc) (ls : Array Slot), f_X2_writtenIf_32 N st o a1 a2 (f_X2_writtenIf_5 N st o a1 a2 n5) x3 x4 = some r → zWd G st H → va_S (zA G) s.heap H locs → lv_has ls 5 [(0, .ref (G.2.2.2 + o)), (1, .int a1), (2, .int a2), (3, .int x3), (4, .int x4)] → W p l e (zRm 2 0 0) s m args below meth c H locs 0 0 (MQ below (zQ G (some (.int r)) st) args s 0 0 (zA G)) (F0 m 32 ls []) := by
        intro x3 x4 H locs ls h hW hS hl
        unfold f_X2_writtenIf_32 at h
        refine lv_iinc (v := (x4 + (nI 1))) (lv' := [(4, .int ((x4 + (nI 1)))), (0, .ref (G.2.2.2 + o)), (1, .int a1), (2, .int a2), (3, .int x3)]) hx hb dX2_writtenIf_32 hl (k := 4) rfl rfl (by decide) rfl (fun ls hl => ?_)
        refine lv_goto (tgt := 5) hx hb dX2_writtenIf_35 (by decide) ?_
        exact ih5 x3 (x4 + (nI 1)) _ _ _ h hW hS (lv_sub hl [1, 2, 3, 4, 0] rfl)
      intro x3 x4 H locs ls h hW hS hl
      unfold f_X2_writtenIf_5 at h
      refine lv_iload hx hb dX2_writtenIf_5 (lv_at hl 4 rfl) ?_
      refine lv_aload_n hx hb dX2_writtenIf_7 rfl (lv_at hl 0 rfl) ?_
      obtain ⟨t1, h⟩ := zc_at h
      obtain ⟨b2, hb2, h⟩ := zd_at h
      refine z_gR hx hb hq hown hK hW fs_RX2_33 t1 hb2 dX2_writtenIf_8 ?_
      obtain ⟨t3, h⟩ := zc_at h
      obtain ⟨r5, c4, h⟩ := zd_at h
      refine z_cV hx hb hq hml hown hK hW hS 5 [] [.int x4] rfl (List.mem_singleton.mp t3) (c_X5_size l G st b2 c4) (zi zm650) (zi zm83) (zi zm84) (zi zm32) (zi zm85) cal_X5_size rfl rfl hl.1 rfl (Nat.le_of_ble_eq_true rfl) (zR_ok (by omega) (by decide)) ⟨(Nat.le_of_ble_eq_true rfl), (Nat.le_of_ble_eq_true rfl)⟩ dX2_writtenIf_11 (fun H locs hW hS => ?_)
      refine W.eq (g2 := F0 m 14 ls [.int r5, .int x4]) rfl ?_
      refine z_br (lv_icmp_ge (tgt := 38) hx hb dX2_writtenIf_14 (by decide)) h (fun h => ?_) (fun h => ?_)
      · refine lv_iload_n hx hb dX2_writtenIf_38 rfl (lv_at hl 3 rfl) ?_
        obtain rfl := Option.some.inj h
        exact z_ri hx hb hr hlk hW hS (Nat.le_of_ble_eq_true rfl) (Nat.le_of_ble_eq_true rfl) dX2_writtenIf_39
      · refine lv_aload_n hx hb dX2_writtenIf_17 rfl (lv_at hl 0 rfl) ?_
        refine lv_iload hx hb dX2_writtenIf_18 (lv_at hl 4 rfl) ?_
        refine lv_iload_n hx hb dX2_writtenIf_20 rfl (lv_at hl 1 rfl) ?_
        refine lv_iload_n hx hb dX2_writtenIf_21 rfl (lv_at hl 2 rfl) ?_
        obtain ⟨r7, c6, h⟩ := zd_at h
        refine z_cV hx hb hq hml hown hK hW hS 2 [.int x4, .int a1, .int a2] [] rfl (List.mem_singleton.mp t1) (c_X2_numberIf l G st o x4 a1 a2 c6) (zi zm601) (zi zm602) (zi zm603) (zi zm14) (zi zm604) cal_X2_numberIf rfl rfl hl.1 rfl (Nat.le_of_ble_eq_true rfl) (zR_ok (by omega) (by decide)) ⟨(Nat.le_of_ble_eq_true rfl), (Nat.le_of_ble_eq_true rfl)⟩ dX2_writtenIf_22 (fun H locs hW hS => ?_)
        refine W.eq (g2 := F0 m 25 ls [.int r7]) rfl ?_
        refine lv_iconst (v := (-1)) hx hb dX2_writtenIf_25 (by decide) ?_
        refine z_br (lv_icmp_eq (tgt := 32) hx hb dX2_writtenIf_26 (by decide)) h (fun h => ?_) (fun h => ?_)
        · exact B32 x3 x4 _ _ _ h hW hS (lv_sub hl [0, 1, 2, 3, 4] rfl)
        · refine lv_iinc (v := (x3 + (nI 1))) (lv' := [(3, .int ((x3 + (nI 1)))), (0, .ref (G.2.2.2 + o)), (1, .int a1), (2, .int a2), (4, .int x4)]) hx hb dX2_writtenIf_29 hl (k := 3) rfl rfl (by decide) rfl (fun ls hl => ?_)
          exact B32 (x3 + (nI 1)) x4 _ _ _ h hW hS (lv_sub hl [1, 2, 3, 0, 4] rfl)
  refine lv_iconst (v := (nI 0)) hx hb dX2_writtenIf_0 (by decide) ?_
  refine lv_istore_n (lv' := [(3, .int ((nI 0))), (0, .ref (G.2.2.2 + o)), (1, .int a1), (2, .int a2)]) hx hb dX2_writtenIf_1 rfl hl (by decide) rfl (fun ls hl => ?_)
  refine lv_iconst (v := (nI 0)) hx hb dX2_writtenIf_2 (by decide) ?_
  refine lv_istore (lv' := [(4, .int ((nI 0))), (3, .int ((nI 0))), (0, .ref (G.2.2.2 + o)), (1, .int a1), (2, .int a2)]) hx hb dX2_writtenIf_3 hl (by decide) rfl (fun ls hl => ?_)
  exact B5 N (nI 0) (nI 0) _ _ _ h hW hS (lv_sub hl [2, 3, 4, 1, 0] rfl)
def f_X2_unseenIf_33 (N : Nat) (st : zS) (o : Nat) (a1 : Int32) (a2 : Int32)  : Nat → Int64 → Int32 → Option Int64
  | 0, _, _ => none
  | n33 + 1, x3, x5 => (if zTg st o ∈ [12] then (Option.bind (f_X2_placeCount st o) (fun r6 => (if r6 ≤ x5 then (some x3) else (Option.bind (f_X2_placeAt st o x5) (fun r8 => (Option.bind (f_X2_signIf N st o r8 a1 a2) (fun r10 => (zl (x3 * (((nI 100) - r10)).toInt64) (fun v11 => ((f_X2_unseenIf_33 N st o a1 a2 n33) v11 (x5 + (nI 1)))))))))))) else none)
def f_X2_unseenIf_28 (N : Nat) (st : zS) (o : Nat) (a1 : Int32) (a2 : Int32)   : Option Int64 := (f_X2_unseenIf_33 N st o a1 a2 N (lN 1) (nI 0))
def f_X2_unseenIf (N : Nat) (st : zS) (o : Nat) (a1 : Int32) (a2 : Int32) : Option Int64 := (if zTg st o ∈ [12] then (Option.bind (zR st o 2) (fun b2 => (if zTg st b2 ∈ [16] then (if (zM st b2 2) = 0 then (f_X2_unseenIf_28 N st o a1 a2) else (Option.bind (f_X2_writtenIf N st o a1 a2) (fun r13 => (if (zM st b2 0) ≤ r13 then (f_X2_unseenIf_28 N st o a1 a2) else (some (lN 0)))))) else none))) else none)
set_option maxHeartbeats 1000000 in
set_option maxRecDepth 100000 in
theorem c_X2_unseenIf (l : Launch) (G : zG) (N : Nat) (st : zS) (o : Nat) (a1 : Int32) (a2 : Int32) {r : Int64} (h : f_X2_unseenIf N st o a1 a2 = some r) : zMet l G yX2_unseenIf cX2_unseenIf 6 (some .long) 4 0 0 [.ref (G.2.2.2 + o), .int a1, .int a2] st (some (.long r)) st := by
  refine zMet_of (by decide +kernel) ?_
  intro p e s m args below meth c X
  obtain ⟨hx, hb, hr, hml, hown, hq, hlk, hK, -, hin, hW, hS⟩ := X
  have hown : s.vm.findClass RX2 = some m.cls := hown
  refine z_ent (by exact Nat.le_of_ble_eq_true rfl) (fun ls hl => ?_)
  have hl : lv_has ls 6 [(0, .ref (G.2.2.2 + o)), (1, .int a1), (2, .int a2)] := hl
  unfold f_X2_unseenIf at h
  have B33 : ∀ (n33 : Nat) (x3 : Int64) (x5 : Int32) (H : Heap) (locs : List Loc) (ls : Array Slot), f_X2_unseenIf_33 N st o a1 a2 n33 x3 x5 = some r → zWd G st H → va_S (zA G) s.heap H locs → lv_has ls 6 [(0, .ref (G.2.2.2 + o)), (1, .int a1), (2, .int a2), (3, .long (x3)), (5, .int x5)] → W p l e (zRm 4 0 0) s m args below meth c H locs 0 0 (MQ below (zQ G (some (.long r)) st) args s 0 0 (zA G)) (F0 m 33 ls []) := by
    intro n33
    induction n33 with
    | zero =>
      intro x3 x5 H locs ls h
      unfold f_X2_unseenIf_33 at h
      cases h
    | succ n33 ih33 =>
      intro x3 x5 H locs ls h hW hS hl
      unfold f_X2_unseenIf_33 at h
      refine lv_iload hx hb dX2_unseenIf_33 (lv_at hl 4 rfl) ?_
      refine lv_aload_n hx hb dX2_unseenIf_35 rfl (lv_at hl 0 rfl) ?_
      obtain ⟨t4, h⟩ := zc_at h
      obtain ⟨r6, c5, h⟩ := zd_at h
      refine z_cV hx hb hq hml hown hK hW hS 2 [] [.int x5] rfl (List.mem_singleton.mp t4) (c_X2_placeCount l G st o c5) (zi zm720) (zi zm644) (zi zm645) (zi zm14) (zi zm646) cal_X2_placeCount rfl rfl hl.1 rfl (Nat.le_of_ble_eq_true rfl) (zR_ok (by omega) (by decide)) ⟨(Nat.le_of_ble_eq_true rfl), (Nat.le_of_ble_eq_true rfl)⟩ dX2_unseenIf_36 (fun H locs hW hS => ?_)
      refine W.eq (g2 := F0 m 39 ls [.int r6, .int x5]) rfl ?_
      refine z_br (lv_icmp_ge (tgt := 67) hx hb dX2_unseenIf_39 (by decide)) h (fun h => ?_) (fun h => ?_)
      · refine lv_lload_n hx hb dX2_unseenIf_67 rfl (lv_at hl 3 rfl) ?_
        obtain rfl := Option.some.inj h
        exact z_rl hx hb hr hlk hW hS (Nat.le_of_ble_eq_true rfl) (Nat.le_of_ble_eq_true rfl) dX2_unseenIf_68
      · refine lv_lload_n hx hb dX2_unseenIf_42 rfl (lv_at hl 3 rfl) ?_
        refine lv_bipush (v := (nI 100)) hx hb dX2_unseenIf_43 (by decide) ?_
        refine lv_aload_n hx hb dX2_unseenIf_45 rfl (lv_at hl 0 rfl) ?_
        refine lv_aload_n hx hb dX2_unseenIf_46 rfl (lv_at hl 0 rfl) ?_
        refine lv_iload hx hb dX2_unseenIf_47 (lv_at hl 4 rfl) ?_
        obtain ⟨r8, c7, h⟩ := zd_at h
        refine z_cV hx hb hq hml hown hK hW hS 2 [.int x5] [.ref (G.2.2.2 + o), .int ((nI 100)), .long (x3)] rfl (List.mem_singleton.mp t4) (c_X2_placeAt l G st o x5 c7) (zi zm721) (zi zm652) (zi zm653) (zi zm14) (zi zm654) cal_X2_placeAt rfl rfl hl.1 rfl (Nat.le_of_ble_eq_true rfl) (zR_ok (by omega) (by decide)) ⟨(Nat.le_of_ble_eq_true rfl), (Nat.le_of_ble_eq_true rfl)⟩ dX2_unseenIf_49 (fun H locs hW hS => ?_)
        refine W.eq (g2 := F0 m 52 ls [.int r8, .ref (G.2.2.2 + o), .int ((nI 100)), .long (x3)]) rfl ?_
        refine lv_iload_n hx hb dX2_unseenIf_52 rfl (lv_at hl 1 rfl) ?_
        refine lv_iload_n hx hb dX2_unseenIf_53 rfl (lv_at hl 2 rfl) ?_
        obtain ⟨r10, c9, h⟩ := zd_at h
        refine z_cV hx hb hq hml hown hK hW hS 2 [.int r8, .int a1, .int a2] [.int ((nI 100)), .long (x3)] rfl (List.mem_singleton.mp t4) (c_X2_signIf l G N st o r8 a1 a2 c9) (zi zm596) (zi zm597) (zi zm598) (zi zm14) (zi zm599) cal_X2_signIf rfl rfl hl.1 rfl (Nat.le_of_ble_eq_true rfl) (zR_ok (by omega) (by decide)) ⟨(Nat.le_of_ble_eq_true rfl), (Nat.le_of_ble_eq_true rfl)⟩ dX2_unseenIf_54 (fun H locs hW hS => ?_)
        refine W.eq (g2 := F0 m 57 ls [.int r10, .int ((nI 100)), .long (x3)]) rfl ?_
        refine lv_isub hx hb dX2_unseenIf_57 ?_
        refine lv_i2l (v := (((nI 100) - r10)).toInt64) hx hb dX2_unseenIf_58 rfl ?_
        refine lv_lmul hx hb dX2_unseenIf_59 ?_
        refine lv_topl (fun v11 ev11 => ?_)
        have h := zl_at ev11 h
        refine lv_lstore_n (lv' := [(3, .long (v11)), (0, .ref (G.2.2.2 + o)), (1, .int a1), (2, .int a2), (5, .int x5)]) hx hb dX2_unseenIf_60 rfl hl (by decide) rfl (fun ls hl => ?_)
        refine lv_iinc (v := (x5 + (nI 1))) (lv' := [(5, .int ((x5 + (nI 1)))), (3, .long (v11)), (0, .ref (G.2.2.2 + o)), (1, .int a1), (2, .int a2)]) hx hb dX2_unseenIf_61 hl (k := 4) rfl rfl (by decide) rfl (fun ls hl => ?_)
        refine lv_goto (tgt := 33) hx hb dX2_unseenIf_64 (by decide) ?_
        exact ih33 v11 (x5 + (nI 1)) _ _ _ h hW hS (lv_sub hl [2, 3, 4, 1, 0] rfl)
  have B28 : ∀  (H : Heap) (locs : List Loc) (ls : Array Slot), f_X2_unseenIf_28 N st o a1 a2  = some r → zWd G st H → va_S (zA G) s.heap H locs → lv_has ls 6 [(0, .ref (G.2.2.2 + o)), (1, .int a1), (2, .int a2)] → W p l e (zRm 4 0 0) s m args below meth c H locs 0 0 (MQ below (zQ G (some (.long r)) st) args s 0 0 (zA G)) (F0 m 28 ls []) := by
    intro  H locs ls h hW hS hl
    unfold f_X2_unseenIf_28 at h
    refine lv_lconst (v := (lN 1)) hx hb dX2_unseenIf_28 (by decide) ?_
    refine lv_lstore_n (lv' := [(3, .long ((lN 1))), (0, .ref (G.2.2.2 + o)), (1, .int a1), (2, .int a2)]) hx hb dX2_unseenIf_29 rfl hl (by decide) rfl (fun ls hl => ?_)
    refine lv_iconst (v := (nI 0)) hx hb dX2_unseenIf_30 (by decide) ?_
    refine lv_istore (lv' := [(5, .int ((nI 0))), (3, .long ((lN 1))), (0, .ref (G.2.2.2 + o)), (1, .int a1), (2, .int a2)]) hx hb dX2_unseenIf_31 hl (by decide) rfl (fun ls hl => ?_)
    exact B33 N (lN 1) (nI 0) _ _ _ h hW hS (lv_sub hl [2, 3, 4, 1, 0] rfl)
  refine lv_aload_n hx hb dX2_unseenIf_0 rfl (lv_at hl 0 rfl) ?_
  obtain ⟨t1, h⟩ := zc_at h
  obtain ⟨b2, hb2, h⟩ := zd_at h
  refine z_gR hx hb hq hown hK hW fs_RX2_20 t1 hb2 dX2_unseenIf_1 ?_
  obtain ⟨t3, h⟩ := zc_at h
  refine z_gI hx hb hq hown hK hW fs_RX2_116 t3 dX2_unseenIf_4 ?_
  refine z_br (lv_if_eq (tgt := 28) hx hb dX2_unseenIf_7 (by decide)) h (fun h => ?_) (fun h => ?_)
  · exact B28  _ _ _ h hW hS (lv_sub hl [0, 1, 2] rfl)
  · refine lv_aload_n hx hb dX2_unseenIf_10 rfl (lv_at hl 0 rfl) ?_
    refine lv_iload_n hx hb dX2_unseenIf_11 rfl (lv_at hl 1 rfl) ?_
    refine lv_iload_n hx hb dX2_unseenIf_12 rfl (lv_at hl 2 rfl) ?_
    obtain ⟨r13, c12, h⟩ := zd_at h
    refine z_cV hx hb hq hml hown hK hW hS 2 [.int a1, .int a2] [] rfl (List.mem_singleton.mp t1) (c_X2_writtenIf l G N st o a1 a2 c12) (zi zm716) (zi zm717) (zi zm718) (zi zm14) (zi zm719) cal_X2_writtenIf rfl rfl hl.1 rfl (Nat.le_of_ble_eq_true rfl) (zR_ok (by omega) (by decide)) ⟨(Nat.le_of_ble_eq_true rfl), (Nat.le_of_ble_eq_true rfl)⟩ dX2_unseenIf_13 (fun H locs hW hS => ?_)
    refine W.eq (g2 := F0 m 16 ls [.int r13]) rfl ?_
    refine lv_aload_n hx hb dX2_unseenIf_16 rfl (lv_at hl 0 rfl) ?_
    refine z_gR hx hb hq hown hK hW fs_RX2_20 t1 hb2 dX2_unseenIf_17 ?_
    refine z_gI hx hb hq hown hK hW fs_RX2_92 t3 dX2_unseenIf_20 ?_
    refine z_br (lv_icmp_ge (tgt := 28) hx hb dX2_unseenIf_23 (by decide)) h (fun h => ?_) (fun h => ?_)
    · exact B28  _ _ _ h hW hS (lv_sub hl [0, 1, 2] rfl)
    · refine lv_lconst (v := (lN 0)) hx hb dX2_unseenIf_26 (by decide) ?_
      obtain rfl := Option.some.inj h
      exact z_rl hx hb hr hlk hW hS (Nat.le_of_ble_eq_true rfl) (Nat.le_of_ble_eq_true rfl) dX2_unseenIf_27
def f_X2_unseenNow (N : Nat) (st : zS) (o : Nat) : Option Int64 := (if zTg st o ∈ [12] then (Option.bind (f_X2_unseenIf N st o (-1 : Int32) (-1 : Int32)) (fun r3 => (some r3))) else none)
set_option maxHeartbeats 1000000 in
set_option maxRecDepth 100000 in
theorem c_X2_unseenNow (l : Launch) (G : zG) (N : Nat) (st : zS) (o : Nat) {r : Int64} (h : f_X2_unseenNow N st o = some r) : zMet l G yX2_unseenNow cX2_unseenNow 1 (some .long) 5 0 0 [.ref (G.2.2.2 + o)] st (some (.long r)) st := by
  refine zMet_of (by decide +kernel) ?_
  intro p e s m args below meth c X
  obtain ⟨hx, hb, hr, hml, hown, hq, hlk, hK, -, hin, hW, hS⟩ := X
  have hown : s.vm.findClass RX2 = some m.cls := hown
  refine z_ent (by exact Nat.le_of_ble_eq_true rfl) (fun ls hl => ?_)
  have hl : lv_has ls 1 [(0, .ref (G.2.2.2 + o))] := hl
  unfold f_X2_unseenNow at h
  refine lv_aload_n hx hb dX2_unseenNow_0 rfl (lv_at hl 0 rfl) ?_
  refine lv_iconst (v := (-1)) hx hb dX2_unseenNow_1 (by decide) ?_
  refine lv_iconst (v := (-1)) hx hb dX2_unseenNow_2 (by decide) ?_
  obtain ⟨t1, h⟩ := zc_at h
  obtain ⟨r3, c2, h⟩ := zd_at h
  refine z_cV hx hb hq hml hown hK hW hS 2 [.int ((-1)), .int ((-1))] [] rfl (List.mem_singleton.mp t1) (c_X2_unseenIf l G N st o (-1 : Int32) (-1 : Int32) c2) (zi zm711) (zi zm712) (zi zm713) (zi zm14) (zi zm714) cal_X2_unseenIf rfl rfl hl.1 rfl (Nat.le_of_ble_eq_true rfl) (zR_ok (by omega) (by decide)) ⟨(Nat.le_of_ble_eq_true rfl), (Nat.le_of_ble_eq_true rfl)⟩ dX2_unseenNow_3 (fun H locs hW hS => ?_)
  refine W.eq (g2 := F0 m 6 ls [.long (r3)]) rfl ?_
  obtain rfl := Option.some.inj h
  exact z_rl hx hb hr hlk hW hS (Nat.le_of_ble_eq_true rfl) (Nat.le_of_ble_eq_true rfl) dX2_unseenNow_6
def f_X3_init (st : zS) (o : Nat) (a1 : Int32) (a2 : Int32) (a3 : Int32) (a4 : Int32) : Option zS := (Option.bind (f_X4_init st o a1 a2 a3 a4) (fun st2 => (some st2)))
set_option maxHeartbeats 1000000 in
set_option maxRecDepth 100000 in
theorem c_X3_init (l : Launch) (G : zG) (st : zS) (o : Nat) (a1 : Int32) (a2 : Int32) (a3 : Int32) (a4 : Int32) {st' : zS} (h : f_X3_init st o a1 a2 a3 a4 = some st') : zMet l G yX3_init cX3_init 5 none 2 0 0 [.ref (G.2.2.2 + o), .int a1, .int a2, .int a3, .int a4] st none st' := by
  refine zMet_of (by decide +kernel) ?_
  intro p e s m args below meth c X
  obtain ⟨hx, hb, hr, hml, hown, hq, hlk, hK, -, hin, hW, hS⟩ := X
  have hown : s.vm.findClass RX3 = some m.cls := hown
  refine z_ent (by exact Nat.le_of_ble_eq_true rfl) (fun ls hl => ?_)
  have hl : lv_has ls 5 [(0, .ref (G.2.2.2 + o)), (1, .int a1), (2, .int a2), (3, .int a3), (4, .int a4)] := hl
  unfold f_X3_init at h
  refine lv_aload_n hx hb dX3_init_0 rfl (lv_at hl 0 rfl) ?_
  refine lv_iload_n hx hb dX3_init_1 rfl (lv_at hl 1 rfl) ?_
  refine lv_iload_n hx hb dX3_init_2 rfl (lv_at hl 2 rfl) ?_
  refine lv_iload_n hx hb dX3_init_3 rfl (lv_at hl 3 rfl) ?_
  refine lv_iload hx hb dX3_init_4 (lv_at hl 4 rfl) ?_
  obtain ⟨st2, c1, h⟩ := zd_at h
  refine z_cI hx hb hq hml hown hK hW hS [.int a1, .int a2, .int a3, .int a4] [] (c_X4_init l G st o a1 a2 a3 a4 c1) (zi zm386) (zi zm372) (zi zm367) (zi zm373) cal_X4_init rfl rfl hl.1 rfl (Nat.le_of_ble_eq_true rfl) (zR_ok (by omega) (by decide)) ⟨(Nat.le_of_ble_eq_true rfl), (Nat.le_of_ble_eq_true rfl)⟩ dX3_init_6 (fun H locs hW hS => ?_)
  refine W.eq (g2 := F0 m 9 ls []) rfl ?_
  obtain rfl := Option.some.inj h
  exact z_rv hx hb hr hlk hW hS (Nat.le_of_ble_eq_true rfl) (Nat.le_of_ble_eq_true rfl) dX3_init_9
def f_X7_shows (st : zS) (o : Nat) (a1 : Int32) (a2 : Nat) : Option (zS × Int32) := (if zTg st a2 ∈ [18] then (Option.bind (f_X8_ran st a2 (nI 61)) (fun st3 => (if zTg st3 o ∈ zLs then (zb (f_X4_shows st3 o a1 a2) (fun st6 r7 => (if zTg st6 o ∈ [17] then (some (st6, (r7 + (zM st6 o 2)))) else none))) else none))) else none)
set_option maxHeartbeats 1000000 in
set_option maxRecDepth 100000 in
theorem c_X7_shows (l : Launch) (G : zG) (st : zS) (o : Nat) (a1 : Int32) (a2 : Nat) {st' : zS} {r : Int32} (h : f_X7_shows st o a1 a2 = some (st', r)) : zMet l G yX7_shows cX7_shows 3 (some .int) 4 0 0 [.ref (G.2.2.2 + o), .int a1, .ref (G.2.2.2 + a2)] st (some (.int r)) st' := by
  refine zMet_of (by decide +kernel) ?_
  intro p e s m args below meth c X
  obtain ⟨hx, hb, hr, hml, hown, hq, hlk, hK, -, hin, hW, hS⟩ := X
  have hown : s.vm.findClass RX7 = some m.cls := hown
  refine z_ent (by exact Nat.le_of_ble_eq_true rfl) (fun ls hl => ?_)
  have hl : lv_has ls 3 [(0, .ref (G.2.2.2 + o)), (1, .int a1), (2, .ref (G.2.2.2 + a2))] := hl
  unfold f_X7_shows at h
  refine lv_aload_n hx hb dX7_shows_0 rfl (lv_at hl 2 rfl) ?_
  refine lv_bipush (v := (nI 61)) hx hb dX7_shows_1 (by decide) ?_
  obtain ⟨t1, h⟩ := zc_at h
  obtain ⟨st3, c2, h⟩ := zd_at h
  refine z_cV hx hb hq hml hown hK hW hS 8 [.int ((nI 61))] [] rfl (List.mem_singleton.mp t1) (c_X8_ran l G st a2 (nI 61) c2) (zi zm1017) (zi zm976) (zi zm977) (zi zm19) (zi zm978) cal_X8_ran rfl rfl hl.1 rfl (Nat.le_of_ble_eq_true rfl) (zR_ok (by omega) (by decide)) ⟨(Nat.le_of_ble_eq_true rfl), (Nat.le_of_ble_eq_true rfl)⟩ dX7_shows_3 (fun H locs hW hS => ?_)
  refine W.eq (g2 := F0 m 6 ls []) rfl ?_
  refine lv_aload_n hx hb dX7_shows_6 rfl (lv_at hl 0 rfl) ?_
  refine lv_iload_n hx hb dX7_shows_7 rfl (lv_at hl 1 rfl) ?_
  refine lv_aload_n hx hb dX7_shows_8 rfl (lv_at hl 2 rfl) ?_
  obtain ⟨t4, h⟩ := zc_at h
  obtain ⟨st6, r7, c5, h⟩ := zb_at h
  refine z_cSX (x := ⟨"TwoPens$Lent", "shows", "(ILTwoPens$Trace;)I"⟩) (owner := "TwoPens$Line") hx hb hq hml hown hK hW hS [.int a1, .ref (G.2.2.2 + a2)] [] t4 (c_X4_shows l G st3 o a1 a2 c5) zx3 zx4 zx0 (zi zm1034) (zi zm999) (zi zm367) (zi zm1007) cal_X4_shows (by decide) rfl hl.1 rfl (Nat.le_of_ble_eq_true rfl) (zR_ok (by omega) (by decide)) ⟨(Nat.le_of_ble_eq_true rfl), (Nat.le_of_ble_eq_true rfl)⟩ dX7_shows_9 (fun H locs hW hS => ?_)
  refine W.eq (g2 := F0 m 12 ls [.int r7]) rfl ?_
  refine lv_aload_n hx hb dX7_shows_12 rfl (lv_at hl 0 rfl) ?_
  obtain ⟨t8, h⟩ := zc_at h
  refine z_gI hx hb hq hown hK hW fs_RX7_22 t8 dX7_shows_13 ?_
  refine lv_iadd hx hb dX7_shows_16 ?_
  obtain ⟨rfl, rfl⟩ := Prod.mk.inj (Option.some.inj h)
  exact z_ri hx hb hr hlk hW hS (Nat.le_of_ble_eq_true rfl) (Nat.le_of_ble_eq_true rfl) dX7_shows_17
def fv_Line_shows (st : zS) (o : Nat) (b0 : Int32) (b1 : Nat) : Option (zS × Int32) := (if zTg st o ∈ [10] then f_X0_shows st o b0 b1 else (if zTg st o ∈ [11] then f_X0_shows st o b0 b1 else (if zTg st o ∈ [13] then f_X4_shows st o b0 b1 else (if zTg st o ∈ [14] then f_X4_shows st o b0 b1 else (if zTg st o ∈ [17] then f_X7_shows st o b0 b1 else (if zTg st o ∈ [19] then f_X4_shows st o b0 b1 else (if zTg st o ∈ [20] then f_X4_shows st o b0 b1 else none)))))))
def f_X4_tells (st : zS) (o : Nat) (a1 : Int32) (a2 : Nat) : Option (zS × Int32) := (if zTg st a2 ∈ [18] then (Option.bind (f_X8_ran st a2 (nI 3)) (fun st3 => (zb (fv_Line_shows st3 o a1 a2) (fun st5 r6 => (some (st5, (r6 * (nI 2)))))))) else none)
theorem zv_RX4_32 {p : Program} {l : Launch} {e : Env} {R : Room} {s : State} {m : MethodId} {args : Array Value} {below : List Frame} {meth : Method} {c : Code} {H : Heap} {locs : List Loc} {cells slots : Nat} {Q : State → Prop} {cc : ByteArray} {pc nL : Nat} {ls : Array Slot} {G : zG} {st0 : List Value}
    (hx : p.tables.exec = Jvm.exec) (hb : c.code = cc) (hq : ∀ w ∈ zT, w.before args s = true) (hml : c.maxLocals = nL) (hown : s.vm.findClass RX4 = some m.cls) (hK : zKn G s) (st : zS) (hW : zWd G st H) (hS : va_S (zA G) s.heap H locs) (rest : List Value) (o : Nat) (b0 : Int32) (b1 : Nat) (st' : zS) (r : Int32)
    (h : fv_Line_shows st o b0 b1 = some (st', r)) (hsz : ls.size = nL) (hst : st0 = ([.int b0, .ref (G.2.2.2 + b1)] : List Value).reverse ++ .ref (G.2.2.2 + o) :: rest) (hcat : (rest.map fun v => v.category).sum ≤ 8) (hR : 4 + 1 ≤ R.frames ∧ 60 + 60 * 4 ≤ R.locals) (hf : cells ≤ R.cells ∧ slots ≤ R.slots) (hdg : decode cc pc = .ok (.invokevirtual 32, 3))
    (kk : ∀ (H1 : Heap) (locs1 : List Loc), zWd G st' H1 → va_S (zA G) s.heap H1 locs1 → W p l e R s m args below meth c H1 locs1 cells slots Q (F0 m (pc + 3) ls ((.int r) :: rest))) : W p l e R s m args below meth c H locs cells slots Q (F0 m pc ls st0) := by
  unfold fv_Line_shows at h
  rcases zi_at h with ⟨t, h⟩ | ⟨-, h⟩
  · exact z_cU (x := ⟨"TwoPens$Line", "shows", "(ILTwoPens$Trace;)I"⟩) (owner := "TwoPens$Line") hx hb hq hml hown hK hW hS 0 [.int b0, .ref (G.2.2.2 + b1)] rest rfl (List.mem_singleton.mp t) (c_X0_shows l G st o b0 b1 h) (zi zm1025) (zi zm998) (zi zm1000) (zi zm1001) (zi zm352) (zi zm1002) (zi zm999) (zi zm1007) cal_X4_shows rfl hsz hst hcat (zR_le hR (by omega) (by decide)) hf hdg kk
  rcases zi_at h with ⟨t, h⟩ | ⟨-, h⟩
  · exact z_cU (x := ⟨"TwoPens$Line", "shows", "(ILTwoPens$Trace;)I"⟩) (owner := "TwoPens$Line") hx hb hq hml hown hK hW hS 1 [.int b0, .ref (G.2.2.2 + b1)] rest rfl (List.mem_singleton.mp t) (c_X0_shows l G st o b0 b1 h) (zi zm1025) (zi zm998) (zi zm1010) (zi zm1001) (zi zm352) (zi zm1002) (zi zm999) (zi zm1007) cal_X4_shows rfl hsz hst hcat (zR_le hR (by omega) (by decide)) hf hdg kk
  rcases zi_at h with ⟨t, h⟩ | ⟨-, h⟩
  · exact z_cU (x := ⟨"TwoPens$Line", "shows", "(ILTwoPens$Trace;)I"⟩) (owner := "TwoPens$Line") hx hb hq hml hown hK hW hS 3 [.int b0, .ref (G.2.2.2 + b1)] rest rfl (List.mem_singleton.mp t) (c_X4_shows l G st o b0 b1 h) (zi zm1025) (zi zm998) (zi zm1011) (zi zm999) (zi zm367) (zi zm1007) (zi zm999) (zi zm1007) cal_X4_shows rfl hsz hst hcat (zR_le hR (by omega) (by decide)) hf hdg kk
  rcases zi_at h with ⟨t, h⟩ | ⟨-, h⟩
  · exact z_cU (x := ⟨"TwoPens$Line", "shows", "(ILTwoPens$Trace;)I"⟩) (owner := "TwoPens$Line") hx hb hq hml hown hK hW hS 4 [.int b0, .ref (G.2.2.2 + b1)] rest rfl (List.mem_singleton.mp t) (c_X4_shows l G st o b0 b1 h) (zi zm1025) (zi zm998) (zi zm1013) (zi zm999) (zi zm367) (zi zm1007) (zi zm999) (zi zm1007) cal_X4_shows rfl hsz hst hcat (zR_le hR (by omega) (by decide)) hf hdg kk
  rcases zi_at h with ⟨t, h⟩ | ⟨-, h⟩
  · exact z_cU (x := ⟨"TwoPens$Line", "shows", "(ILTwoPens$Trace;)I"⟩) (owner := "TwoPens$Line") hx hb hq hml hown hK hW hS 7 [.int b0, .ref (G.2.2.2 + b1)] rest rfl (List.mem_singleton.mp t) (c_X7_shows l G st o b0 b1 h) (zi zm1025) (zi zm998) (zi zm1014) (zi zm1015) (zi zm364) (zi zm1016) (zi zm999) (zi zm1007) cal_X4_shows rfl hsz hst hcat (zR_le hR (by omega) (by decide)) hf hdg kk
  rcases zi_at h with ⟨t, h⟩ | ⟨-, h⟩
  · exact z_cU (x := ⟨"TwoPens$Line", "shows", "(ILTwoPens$Trace;)I"⟩) (owner := "TwoPens$Line") hx hb hq hml hown hK hW hS 9 [.int b0, .ref (G.2.2.2 + b1)] rest rfl (List.mem_singleton.mp t) (c_X4_shows l G st o b0 b1 h) (zi zm1025) (zi zm998) (zi zm1018) (zi zm999) (zi zm367) (zi zm1007) (zi zm999) (zi zm1007) cal_X4_shows rfl hsz hst hcat (zR_le hR (by omega) (by decide)) hf hdg kk
  rcases zi_at h with ⟨t, h⟩ | ⟨-, h⟩
  · exact z_cU (x := ⟨"TwoPens$Line", "shows", "(ILTwoPens$Trace;)I"⟩) (owner := "TwoPens$Line") hx hb hq hml hown hK hW hS 10 [.int b0, .ref (G.2.2.2 + b1)] rest rfl (List.mem_singleton.mp t) (c_X4_shows l G st o b0 b1 h) (zi zm1025) (zi zm998) (zi zm1019) (zi zm999) (zi zm367) (zi zm1007) (zi zm999) (zi zm1007) cal_X4_shows rfl hsz hst hcat (zR_le hR (by omega) (by decide)) hf hdg kk
  cases h
set_option maxHeartbeats 1000000 in
set_option maxRecDepth 100000 in
theorem c_X4_tells (l : Launch) (G : zG) (st : zS) (o : Nat) (a1 : Int32) (a2 : Nat) {st' : zS} {r : Int32} (h : f_X4_tells st o a1 a2 = some (st', r)) : zMet l G yX4_tells cX4_tells 3 (some .int) 5 0 0 [.ref (G.2.2.2 + o), .int a1, .ref (G.2.2.2 + a2)] st (some (.int r)) st' := by
  refine zMet_of (by decide +kernel) ?_
  intro p e s m args below meth c X
  obtain ⟨hx, hb, hr, hml, hown, hq, hlk, hK, -, hin, hW, hS⟩ := X
  have hown : s.vm.findClass RX4 = some m.cls := hown
  refine z_ent (by exact Nat.le_of_ble_eq_true rfl) (fun ls hl => ?_)
  have hl : lv_has ls 3 [(0, .ref (G.2.2.2 + o)), (1, .int a1), (2, .ref (G.2.2.2 + a2))] := hl
  unfold f_X4_tells at h
  refine lv_aload_n hx hb dX4_tells_0 rfl (lv_at hl 2 rfl) ?_
  refine lv_iconst (v := (nI 3)) hx hb dX4_tells_1 (by decide) ?_
  obtain ⟨t1, h⟩ := zc_at h
  obtain ⟨st3, c2, h⟩ := zd_at h
  refine z_cV hx hb hq hml hown hK hW hS 8 [.int ((nI 3))] [] rfl (List.mem_singleton.mp t1) (c_X8_ran l G st a2 (nI 3) c2) (zi zm975) (zi zm976) (zi zm977) (zi zm19) (zi zm978) cal_X8_ran rfl rfl hl.1 rfl (Nat.le_of_ble_eq_true rfl) (zR_ok (by omega) (by decide)) ⟨(Nat.le_of_ble_eq_true rfl), (Nat.le_of_ble_eq_true rfl)⟩ dX4_tells_2 (fun H locs hW hS => ?_)
  refine W.eq (g2 := F0 m 5 ls []) rfl ?_
  refine lv_aload_n hx hb dX4_tells_5 rfl (lv_at hl 0 rfl) ?_
  refine lv_iload_n hx hb dX4_tells_6 rfl (lv_at hl 1 rfl) ?_
  refine lv_aload_n hx hb dX4_tells_7 rfl (lv_at hl 2 rfl) ?_
  obtain ⟨st5, r6, c4, h⟩ := zb_at h
  refine zv_RX4_32 hx hb hq hml hown hK st3 hW hS [] o a1 a2 _ _ c4 hl.1 rfl (Nat.le_of_ble_eq_true rfl) (zR_v (by omega)) ⟨(Nat.le_of_ble_eq_true rfl), (Nat.le_of_ble_eq_true rfl)⟩ dX4_tells_8 (fun H locs hW hS => ?_)
  refine W.eq (g2 := F0 m 11 ls [.int r6]) rfl ?_
  refine lv_iconst (v := (nI 2)) hx hb dX4_tells_11 (by decide) ?_
  refine lv_imul hx hb dX4_tells_12 ?_
  obtain ⟨rfl, rfl⟩ := Prod.mk.inj (Option.some.inj h)
  exact z_ri hx hb hr hlk hW hS (Nat.le_of_ble_eq_true rfl) (Nat.le_of_ble_eq_true rfl) dX4_tells_13
def f_X3_tells (st : zS) (o : Nat) (a1 : Int32) (a2 : Nat) : Option (zS × Int32) := (if zTg st a2 ∈ [18] then (Option.bind (f_X8_ran st a2 (nI 31)) (fun st3 => (if zTg st3 o ∈ zLs then (zb (f_X4_tells st3 o a1 a2) (fun st6 r7 => (some (st6, (r7 ^^^ (nI 7)))))) else none))) else none)
set_option maxHeartbeats 1000000 in
set_option maxRecDepth 100000 in
theorem c_X3_tells (l : Launch) (G : zG) (st : zS) (o : Nat) (a1 : Int32) (a2 : Nat) {st' : zS} {r : Int32} (h : f_X3_tells st o a1 a2 = some (st', r)) : zMet l G yX3_tells cX3_tells 3 (some .int) 6 0 0 [.ref (G.2.2.2 + o), .int a1, .ref (G.2.2.2 + a2)] st (some (.int r)) st' := by
  refine zMet_of (by decide +kernel) ?_
  intro p e s m args below meth c X
  obtain ⟨hx, hb, hr, hml, hown, hq, hlk, hK, -, hin, hW, hS⟩ := X
  have hown : s.vm.findClass RX3 = some m.cls := hown
  refine z_ent (by exact Nat.le_of_ble_eq_true rfl) (fun ls hl => ?_)
  have hl : lv_has ls 3 [(0, .ref (G.2.2.2 + o)), (1, .int a1), (2, .ref (G.2.2.2 + a2))] := hl
  unfold f_X3_tells at h
  refine lv_aload_n hx hb dX3_tells_0 rfl (lv_at hl 2 rfl) ?_
  refine lv_bipush (v := (nI 31)) hx hb dX3_tells_1 (by decide) ?_
  obtain ⟨t1, h⟩ := zc_at h
  obtain ⟨st3, c2, h⟩ := zd_at h
  refine z_cV hx hb hq hml hown hK hW hS 8 [.int ((nI 31))] [] rfl (List.mem_singleton.mp t1) (c_X8_ran l G st a2 (nI 31) c2) (zi zm1032) (zi zm976) (zi zm977) (zi zm19) (zi zm978) cal_X8_ran rfl rfl hl.1 rfl (Nat.le_of_ble_eq_true rfl) (zR_ok (by omega) (by decide)) ⟨(Nat.le_of_ble_eq_true rfl), (Nat.le_of_ble_eq_true rfl)⟩ dX3_tells_3 (fun H locs hW hS => ?_)
  refine W.eq (g2 := F0 m 6 ls []) rfl ?_
  refine lv_aload_n hx hb dX3_tells_6 rfl (lv_at hl 0 rfl) ?_
  refine lv_iload_n hx hb dX3_tells_7 rfl (lv_at hl 1 rfl) ?_
  refine lv_aload_n hx hb dX3_tells_8 rfl (lv_at hl 2 rfl) ?_
  obtain ⟨t4, h⟩ := zc_at h
  obtain ⟨st6, r7, c5, h⟩ := zb_at h
  refine z_cSU hx hb hq hml hown hK hW hS [.int a1, .ref (G.2.2.2 + a2)] [] t4 (c_X4_tells l G st3 o a1 a2 c5) (zi zm1033) (zi zm1021) (zi zm1034) (zi zm1023) (zi zm367) (zi zm1024) cal_X4_tells (by decide) rfl hl.1 rfl (Nat.le_of_ble_eq_true rfl) (zR_ok (by omega) (by decide)) ⟨(Nat.le_of_ble_eq_true rfl), (Nat.le_of_ble_eq_true rfl)⟩ dX3_tells_9 (fun H locs hW hS => ?_)
  refine W.eq (g2 := F0 m 12 ls [.int r7]) rfl ?_
  refine lv_bipush (v := (nI 7)) hx hb dX3_tells_12 (by decide) ?_
  refine lv_ixor hx hb dX3_tells_14 ?_
  obtain ⟨rfl, rfl⟩ := Prod.mk.inj (Option.some.inj h)
  exact z_ri hx hb hr hlk hW hS (Nat.le_of_ble_eq_true rfl) (Nat.le_of_ble_eq_true rfl) dX3_tells_15
def f_X5_hasPlace (st : zS) (o : Nat) (a1 : Int32) : Option Int32 := (if a1 < 0 then (some (nI 0)) else (if zTg st o ∈ [15] then (if (zM st o 1) ≤ a1 then (some (nI 0)) else (some (nI 1))) else none))
set_option maxHeartbeats 1000000 in
set_option maxRecDepth 100000 in
theorem c_X5_hasPlace (l : Launch) (G : zG) (st : zS) (o : Nat) (a1 : Int32) {r : Int32} (h : f_X5_hasPlace st o a1 = some r) : zMet l G yX5_hasPlace cX5_hasPlace 2 (some .boolean) 0 0 0 [.ref (G.2.2.2 + o), .int a1] st (some (.int r)) st := by
  refine zMet_of (by decide +kernel) ?_
  intro p e s m args below meth c X
  obtain ⟨hx, hb, hr, hml, hown, hq, hlk, hK, -, hin, hW, hS⟩ := X
  have hown : s.vm.findClass RX5 = some m.cls := hown
  refine z_ent (by exact Nat.le_of_ble_eq_true rfl) (fun ls hl => ?_)
  have hl : lv_has ls 2 [(0, .ref (G.2.2.2 + o)), (1, .int a1)] := hl
  unfold f_X5_hasPlace at h
  refine lv_iload_n hx hb dX5_hasPlace_0 rfl (lv_at hl 1 rfl) ?_
  refine z_br (lv_if_lt (tgt := 16) hx hb dX5_hasPlace_1 (by decide)) h (fun h => ?_) (fun h => ?_)
  · refine lv_iconst (v := (nI 0)) hx hb dX5_hasPlace_16 (by decide) ?_
    obtain rfl := Option.some.inj h
    exact z_rz hx hb hr hlk rfl hW hS (Nat.le_of_ble_eq_true rfl) (Nat.le_of_ble_eq_true rfl) dX5_hasPlace_17
  · refine lv_iload_n hx hb dX5_hasPlace_4 rfl (lv_at hl 1 rfl) ?_
    refine lv_aload_n hx hb dX5_hasPlace_5 rfl (lv_at hl 0 rfl) ?_
    obtain ⟨t1, h⟩ := zc_at h
    refine z_gI hx hb hq hown hK hW fs_RX5_19 t1 dX5_hasPlace_6 ?_
    refine z_br (lv_icmp_ge (tgt := 16) hx hb dX5_hasPlace_9 (by decide)) h (fun h => ?_) (fun h => ?_)
    · refine lv_iconst (v := (nI 0)) hx hb dX5_hasPlace_16 (by decide) ?_
      obtain rfl := Option.some.inj h
      exact z_rz hx hb hr hlk rfl hW hS (Nat.le_of_ble_eq_true rfl) (Nat.le_of_ble_eq_true rfl) dX5_hasPlace_17
    · refine lv_iconst (v := (nI 1)) hx hb dX5_hasPlace_12 (by decide) ?_
      refine lv_goto (tgt := 17) hx hb dX5_hasPlace_13 (by decide) ?_
      obtain rfl := Option.some.inj h
      exact z_rz hx hb hr hlk rfl hW hS (Nat.le_of_ble_eq_true rfl) (Nat.le_of_ble_eq_true rfl) dX5_hasPlace_17
def f_X5_timesOf_24 (N : Nat) (st : zS) (o : Nat) (a1 : Int32) (k4 : Int32 → Int32 → Option Int32) (x2 : Int32) (x3 : Int32) : Option Int32 := (k4 x2 (x3 + (nI 1)))
def f_X5_timesOf_4 (N : Nat) (st : zS) (o : Nat) (a1 : Int32)  : Nat → Int32 → Int32 → Option Int32
  | 0, _, _ => none
  | n4 + 1, x2, x3 => (if zTg st o ∈ [15] then (if (zM st o 1) ≤ x3 then (some x2) else (Option.bind (f_X5_get st o x3) (fun r3 => (if r3 = a1 then (f_X5_timesOf_24 N st o a1 (f_X5_timesOf_4 N st o a1 n4) (x2 + (nI 1)) x3) else (f_X5_timesOf_24 N st o a1 (f_X5_timesOf_4 N st o a1 n4) x2 x3))))) else none)
def f_X5_timesOf (N : Nat) (st : zS) (o : Nat) (a1 : Int32) : Option Int32 := (f_X5_timesOf_4 N st o a1 N (nI 0) (nI 0))
set_option maxHeartbeats 1000000 in
set_option maxRecDepth 100000 in
theorem c_X5_timesOf (l : Launch) (G : zG) (N : Nat) (st : zS) (o : Nat) (a1 : Int32) {r : Int32} (h : f_X5_timesOf N st o a1 = some r) : zMet l G yX5_timesOf cX5_timesOf 4 (some .int) 1 0 0 [.ref (G.2.2.2 + o), .int a1] st (some (.int r)) st := by
  refine zMet_of (by decide +kernel) ?_
  intro p e s m args below meth c X
  obtain ⟨hx, hb, hr, hml, hown, hq, hlk, hK, -, hin, hW, hS⟩ := X
  have hown : s.vm.findClass RX5 = some m.cls := hown
  refine z_ent (by exact Nat.le_of_ble_eq_true rfl) (fun ls hl => ?_)
  have hl : lv_has ls 4 [(0, .ref (G.2.2.2 + o)), (1, .int a1)] := hl
  unfold f_X5_timesOf at h
  have B4 : ∀ (n4 : Nat) (x2 : Int32) (x3 : Int32) (H : Heap) (locs : List Loc) (ls : Array Slot), f_X5_timesOf_4 N st o a1 n4 x2 x3 = some r → zWd G st H → va_S (zA G) s.heap H locs → lv_has ls 4 [(0, .ref (G.2.2.2 + o)), (1, .int a1), (2, .int x2), (3, .int x3)] → W p l e (zRm 1 0 0) s m args below meth c H locs 0 0 (MQ below (zQ G (some (.int r)) st) args s 0 0 (zA G)) (F0 m 4 ls []) := by
    intro n4
    induction n4 with
    | zero =>
      intro x2 x3 H locs ls h
      unfold f_X5_timesOf_4 at h
      cases h
    | succ n4 ih4 =>
      have B24 : ∀ (x2 : Int32) (x3 : Int32) (H : Heap) (locs : List Loc) (ls : Array Slot), f_X5_timesOf_24 N st o a1 (f_X5_timesOf_4 N st o a1 n4) x2 x3 = some r → zWd G st H → va_S (zA G) s.heap H locs → lv_has ls 4 [(0, .ref (G.2.2.2 + o)), (1, .int a1), (2, .int x2), (3, .int x3)] → W p l e (zRm 1 0 0) s m args below meth c H locs 0 0 (MQ below (zQ G (some (.int r)) st) args s 0 0 (zA G)) (F0 m 24 ls []) := by
        intro x2 x3 H locs ls h hW hS hl
        unfold f_X5_timesOf_24 at h
        refine lv_iinc (v := (x3 + (nI 1))) (lv' := [(3, .int ((x3 + (nI 1)))), (0, .ref (G.2.2.2 + o)), (1, .int a1), (2, .int x2)]) hx hb dX5_timesOf_24 hl (k := 3) rfl rfl (by decide) rfl (fun ls hl => ?_)
        refine lv_goto (tgt := 4) hx hb dX5_timesOf_27 (by decide) ?_
        exact ih4 x2 (x3 + (nI 1)) _ _ _ h hW hS (lv_sub hl [1, 2, 3, 0] rfl)
      intro x2 x3 H locs ls h hW hS hl
      unfold f_X5_timesOf_4 at h
      refine lv_iload_n hx hb dX5_timesOf_4 rfl (lv_at hl 3 rfl) ?_
      refine lv_aload_n hx hb dX5_timesOf_5 rfl (lv_at hl 0 rfl) ?_
      obtain ⟨t1, h⟩ := zc_at h
      refine z_gI hx hb hq hown hK hW fs_RX5_19 t1 dX5_timesOf_6 ?_
      refine z_br (lv_icmp_ge (tgt := 30) hx hb dX5_timesOf_9 (by decide)) h (fun h => ?_) (fun h => ?_)
      · refine lv_iload_n hx hb dX5_timesOf_30 rfl (lv_at hl 2 rfl) ?_
        obtain rfl := Option.some.inj h
        exact z_ri hx hb hr hlk hW hS (Nat.le_of_ble_eq_true rfl) (Nat.le_of_ble_eq_true rfl) dX5_timesOf_31
      · refine lv_aload_n hx hb dX5_timesOf_12 rfl (lv_at hl 0 rfl) ?_
        refine lv_iload_n hx hb dX5_timesOf_13 rfl (lv_at hl 3 rfl) ?_
        obtain ⟨r3, c2, h⟩ := zd_at h
        refine z_cV hx hb hq hml hown hK hW hS 5 [.int x3] [] rfl (List.mem_singleton.mp t1) (c_X5_get l G st o x3 c2) (zi zm425) (zi zm109) (zi zm110) (zi zm32) (zi zm111) cal_X5_get rfl rfl hl.1 rfl (Nat.le_of_ble_eq_true rfl) (zR_ok (by omega) (by decide)) ⟨(Nat.le_of_ble_eq_true rfl), (Nat.le_of_ble_eq_true rfl)⟩ dX5_timesOf_14 (fun H locs hW hS => ?_)
        refine W.eq (g2 := F0 m 17 ls [.int r3]) rfl ?_
        refine lv_iload_n hx hb dX5_timesOf_17 rfl (lv_at hl 1 rfl) ?_
        refine z_brn (lv_icmp_ne (tgt := 24) hx hb dX5_timesOf_18 (by decide)) h (fun h => ?_) (fun h => ?_)
        · exact B24 x2 x3 _ _ _ h hW hS (lv_sub hl [0, 1, 2, 3] rfl)
        · refine lv_iinc (v := (x2 + (nI 1))) (lv' := [(2, .int ((x2 + (nI 1)))), (0, .ref (G.2.2.2 + o)), (1, .int a1), (3, .int x3)]) hx hb dX5_timesOf_21 hl (k := 2) rfl rfl (by decide) rfl (fun ls hl => ?_)
          exact B24 (x2 + (nI 1)) x3 _ _ _ h hW hS (lv_sub hl [1, 2, 0, 3] rfl)
  refine lv_iconst (v := (nI 0)) hx hb dX5_timesOf_0 (by decide) ?_
  refine lv_istore_n (lv' := [(2, .int ((nI 0))), (0, .ref (G.2.2.2 + o)), (1, .int a1)]) hx hb dX5_timesOf_1 rfl hl (by decide) rfl (fun ls hl => ?_)
  refine lv_iconst (v := (nI 0)) hx hb dX5_timesOf_2 (by decide) ?_
  refine lv_istore_n (lv' := [(3, .int ((nI 0))), (2, .int ((nI 0))), (0, .ref (G.2.2.2 + o)), (1, .int a1)]) hx hb dX5_timesOf_3 rfl hl (by decide) rfl (fun ls hl => ?_)
  exact B4 N (nI 0) (nI 0) _ _ _ h hW hS (lv_sub hl [2, 3, 1, 0] rfl)
def f_J0_coder_7d493 (o : Nat) : Option Int32 := (if (nI 1) = 0 then (some (nI 1)) else (if o < zsN then (some (nI 0)) else none))
set_option maxHeartbeats 1000000 in
set_option maxRecDepth 100000 in
theorem c_J0_coder_7d493 (l : Launch) (G : zG) (st : zS) (o : Nat) {r : Int32} (h : f_J0_coder_7d493 o = some r) : zMet l G yJ0_coder_7d493 cJ0_coder_7d493 1 (some .byte) 0 0 0 [.ref (G.2.2.1.1 (o))] st (some (.int r)) st := by
  refine zMet_of (by decide +kernel) ?_
  intro p e s m args below meth c X
  obtain ⟨hx, hb, hr, hml, hown, hq, hlk, hK, -, hin, hW, hS⟩ := X
  have hown : s.vm.findClass RJ0 = some m.cls := hown
  refine z_ent (by exact Nat.le_of_ble_eq_true rfl) (fun ls hl => ?_)
  have hl : lv_has ls 1 [(0, .ref (G.2.2.1.1 (o)))] := hl
  unfold f_J0_coder_7d493 at h
  refine va_gets hx hb hK.2.2.2.2.2.2.2.1 hS hown (hq _ (zi zm134)) (fun _ h => h) dJ0_coder_7d493_0 ?_
  refine z_br (lv_if_eq (tgt := 13) hx hb dJ0_coder_7d493_3 (by decide)) h (fun h => ?_) (fun h => ?_)
  · refine lv_iconst (v := (nI 1)) hx hb dJ0_coder_7d493_13 (by decide) ?_
    obtain rfl := Option.some.inj h
    exact z_rz hx hb hr hlk rfl hW hS (Nat.le_of_ble_eq_true rfl) (Nat.le_of_ble_eq_true rfl) dJ0_coder_7d493_14
  · refine lv_aload_n hx hb dJ0_coder_7d493_6 rfl (lv_at hl 0 rfl) ?_
    obtain ⟨t1, h⟩ := zc_at h
    refine vk_getf hx hb (hK.2.2.2.2.2.2.1 _ t1).1.2.1 hS hown (hq _ (zi zm135)) (fun _ h => h) dJ0_coder_7d493_7 ?_
    refine lv_goto (tgt := 14) hx hb dJ0_coder_7d493_10 (by decide) ?_
    obtain rfl := Option.some.inj h
    exact z_rz hx hb hr hlk rfl hW hS (Nat.le_of_ble_eq_true rfl) (Nat.le_of_ble_eq_true rfl) dJ0_coder_7d493_14
def f_J0_length_8abf5 (o : Nat) : Option Int32 := (if o < zsN then (Option.bind (f_J0_coder_7d493 o) (fun r3 => (some ((nI (zsl o)) >>> (r3 &&& 31))))) else none)
set_option maxHeartbeats 1000000 in
set_option maxRecDepth 100000 in
theorem c_J0_length_8abf5 (l : Launch) (G : zG) (st : zS) (o : Nat) {r : Int32} (h : f_J0_length_8abf5 o = some r) : zMet l G yJ0_length_8abf5 cJ0_length_8abf5 1 (some .int) 1 0 0 [.ref (G.2.2.1.1 (o))] st (some (.int r)) st := by
  refine zMet_of (by decide +kernel) ?_
  intro p e s m args below meth c X
  obtain ⟨hx, hb, hr, hml, hown, hq, hlk, hK, -, hin, hW, hS⟩ := X
  have hown : s.vm.findClass RJ0 = some m.cls := hown
  refine z_ent (by exact Nat.le_of_ble_eq_true rfl) (fun ls hl => ?_)
  have hl : lv_has ls 1 [(0, .ref (G.2.2.1.1 (o)))] := hl
  unfold f_J0_length_8abf5 at h
  refine lv_aload_n hx hb dJ0_length_8abf5_0 rfl (lv_at hl 0 rfl) ?_
  obtain ⟨t1, h⟩ := zc_at h
  refine vk_getf hx hb (hK.2.2.2.2.2.2.1 _ t1).1.2.2.1 hS hown (hq _ (zi zm129)) (fun _ h => h) dJ0_length_8abf5_1 ?_
  refine z_slen hx hb hK hS t1 dJ0_length_8abf5_4 ?_
  refine lv_aload_n hx hb dJ0_length_8abf5_5 rfl (lv_at hl 0 rfl) ?_
  obtain ⟨r3, c2, h⟩ := zd_at h
  refine z_cStr hx hb hq hml hown hK hW hS t1 [] [.int ((nI (zsl o)))] (c_J0_coder_7d493 l G st o c2) (zi zm130) (zi zm131) (zi zm132) (zi zm127) (zi zm133) cal_J0_coder_7d493 rfl rfl hl.1 rfl (Nat.le_of_ble_eq_true rfl) (zR_ok (by omega) (by decide)) ⟨(Nat.le_of_ble_eq_true rfl), (Nat.le_of_ble_eq_true rfl)⟩ dJ0_length_8abf5_6 (fun H locs hW hS => ?_)
  refine W.eq (g2 := F0 m 9 ls [.int r3, .int ((nI (zsl o)))]) rfl ?_
  refine lv_ishr hx hb dJ0_length_8abf5_9 ?_
  obtain rfl := Option.some.inj h
  exact z_ri hx hb hr hlk hW hS (Nat.le_of_ble_eq_true rfl) (Nat.le_of_ble_eq_true rfl) dJ0_length_8abf5_10
def f_J0_isLatin1_aae02 (o : Nat) : Option Int32 := (if (nI 1) = 0 then (some (nI 0)) else (if o < zsN then (if (nI 0) = 0 then (some (nI 1)) else (some (nI 0))) else none))
set_option maxHeartbeats 1000000 in
set_option maxRecDepth 100000 in
theorem c_J0_isLatin1_aae02 (l : Launch) (G : zG) (st : zS) (o : Nat) {r : Int32} (h : f_J0_isLatin1_aae02 o = some r) : zMet l G yJ0_isLatin1_aae02 cJ0_isLatin1_aae02 1 (some .boolean) 0 0 0 [.ref (G.2.2.1.1 (o))] st (some (.int r)) st := by
  refine zMet_of (by decide +kernel) ?_
  intro p e s m args below meth c X
  obtain ⟨hx, hb, hr, hml, hown, hq, hlk, hK, -, hin, hW, hS⟩ := X
  have hown : s.vm.findClass RJ0 = some m.cls := hown
  refine z_ent (by exact Nat.le_of_ble_eq_true rfl) (fun ls hl => ?_)
  have hl : lv_has ls 1 [(0, .ref (G.2.2.1.1 (o)))] := hl
  unfold f_J0_isLatin1_aae02 at h
  refine va_gets hx hb hK.2.2.2.2.2.2.2.1 hS hown (hq _ (zi zm134)) (fun _ h => h) dJ0_isLatin1_aae02_0 ?_
  refine z_br (lv_if_eq (tgt := 17) hx hb dJ0_isLatin1_aae02_3 (by decide)) h (fun h => ?_) (fun h => ?_)
  · refine lv_iconst (v := (nI 0)) hx hb dJ0_isLatin1_aae02_17 (by decide) ?_
    obtain rfl := Option.some.inj h
    exact z_rz hx hb hr hlk rfl hW hS (Nat.le_of_ble_eq_true rfl) (Nat.le_of_ble_eq_true rfl) dJ0_isLatin1_aae02_18
  · refine lv_aload_n hx hb dJ0_isLatin1_aae02_6 rfl (lv_at hl 0 rfl) ?_
    obtain ⟨t1, h⟩ := zc_at h
    refine vk_getf hx hb (hK.2.2.2.2.2.2.1 _ t1).1.2.1 hS hown (hq _ (zi zm135)) (fun _ h => h) dJ0_isLatin1_aae02_7 ?_
    refine z_brn (lv_if_ne (tgt := 17) hx hb dJ0_isLatin1_aae02_10 (by decide)) h (fun h => ?_) (fun h => ?_)
    · refine lv_iconst (v := (nI 0)) hx hb dJ0_isLatin1_aae02_17 (by decide) ?_
      obtain rfl := Option.some.inj h
      exact z_rz hx hb hr hlk rfl hW hS (Nat.le_of_ble_eq_true rfl) (Nat.le_of_ble_eq_true rfl) dJ0_isLatin1_aae02_18
    · refine lv_iconst (v := (nI 1)) hx hb dJ0_isLatin1_aae02_13 (by decide) ?_
      refine lv_goto (tgt := 18) hx hb dJ0_isLatin1_aae02_14 (by decide) ?_
      obtain rfl := Option.some.inj h
      exact z_rz hx hb hr hlk rfl hW hS (Nat.le_of_ble_eq_true rfl) (Nat.le_of_ble_eq_true rfl) dJ0_isLatin1_aae02_18
def f_J1_charAt_3b067 (a0 : Nat) (a1 : Int32) : Option Int32 := (if a0 < zsN then (Option.bind (f_J0_checkIndex_df160 a1 (nI (zsl a0))) (fun _ => (if zin a1 (zsl a0) then (if vp_nar .char (((((zsb a0).getD (a1).toNatClampNeg 0) &&& (nI 255))).toUInt32 % 65536).toInt32 = (((((zsb a0).getD (a1).toNatClampNeg 0) &&& (nI 255))).toUInt32 % 65536).toInt32 then (some (((((zsb a0).getD (a1).toNatClampNeg 0) &&& (nI 255))).toUInt32 % 65536).toInt32) else none) else none))) else none)
set_option maxHeartbeats 1000000 in
set_option maxRecDepth 100000 in
theorem c_J1_charAt_3b067 (l : Launch) (G : zG) (st : zS) (a0 : Nat) (a1 : Int32) {r : Int32} (h : f_J1_charAt_3b067 a0 a1 = some r) : zMet l G yJ1_charAt_3b067 cJ1_charAt_3b067 2 (some .char) 3 0 0 [.ref (G.2.2.1.2 (a0)), .int a1] st (some (.int r)) st := by
  refine zMet_of (by decide +kernel) ?_
  intro p e s m args below meth c X
  obtain ⟨hx, hb, hr, hml, hown, hq, hlk, hK, -, hin, hW, hS⟩ := X
  have hown : s.vm.findClass RJ1 = some m.cls := hown
  refine z_ent (by exact Nat.le_of_ble_eq_true rfl) (fun ls hl => ?_)
  have hl : lv_has ls 2 [(0, .ref (G.2.2.1.2 (a0))), (1, .int a1)] := hl
  unfold f_J1_charAt_3b067 at h
  refine lv_iload_n hx hb dJ1_charAt_3b067_0 rfl (lv_at hl 1 rfl) ?_
  refine lv_aload_n hx hb dJ1_charAt_3b067_1 rfl (lv_at hl 0 rfl) ?_
  obtain ⟨t1, h⟩ := zc_at h
  refine z_slen hx hb hK hS t1 dJ1_charAt_3b067_2 ?_
  obtain ⟨u5, c2, h⟩ := zd_at h
  refine z_cS hx hb hq hml hown hK hW hS [.int a1, .int ((nI (zsl a0)))] [] (c_J0_checkIndex_df160 l G st a1 (nI (zsl a0)) c2) (zi zm148) (zi zm149) (zi zm127) (zi zm150) cal_J0_checkIndex_df160 rfl hl.1 rfl (Nat.le_of_ble_eq_true rfl) (zR_ok (by omega) (by decide)) ⟨(Nat.le_of_ble_eq_true rfl), (Nat.le_of_ble_eq_true rfl)⟩ dJ1_charAt_3b067_3 (fun H locs hW hS => ?_)
  refine W.eq (g2 := F0 m 6 ls []) rfl ?_
  refine lv_aload_n hx hb dJ1_charAt_3b067_6 rfl (lv_at hl 0 rfl) ?_
  refine lv_iload_n hx hb dJ1_charAt_3b067_7 rfl (lv_at hl 1 rfl) ?_
  obtain ⟨t3, h⟩ := zc_at h
  refine z_sald hx hb hK hS t1 t3 dJ1_charAt_3b067_8 ?_
  refine lv_sipush (v := (nI 255)) hx hb dJ1_charAt_3b067_9 (by decide) ?_
  refine lv_iand hx hb dJ1_charAt_3b067_12 ?_
  refine lv_i2c hx hb dJ1_charAt_3b067_13 rfl ?_
  obtain ⟨t4, h⟩ := zc_at h
  obtain rfl := Option.some.inj h
  exact z_rz hx hb hr hlk (znC t4) hW hS (Nat.le_of_ble_eq_true rfl) (Nat.le_of_ble_eq_true rfl) dJ1_charAt_3b067_14
def f_J0_charAt_5068e (o : Nat) (a1 : Int32) : Option Int32 := (if o < zsN then (Option.bind (f_J0_isLatin1_aae02 o) (fun r3 => (if r3 = 0 then none else (Option.bind (f_J1_charAt_3b067 o a1) (fun r5 => (if vp_nar .char r5 = r5 then (some r5) else none)))))) else none)
set_option maxHeartbeats 1000000 in
set_option maxRecDepth 100000 in
theorem c_J0_charAt_5068e (l : Launch) (G : zG) (st : zS) (o : Nat) (a1 : Int32) {r : Int32} (h : f_J0_charAt_5068e o a1 = some r) : zMet l G yJ0_charAt_5068e cJ0_charAt_5068e 2 (some .char) 4 0 0 [.ref (G.2.2.1.1 (o)), .int a1] st (some (.int r)) st := by
  refine zMet_of (by decide +kernel) ?_
  intro p e s m args below meth c X
  obtain ⟨hx, hb, hr, hml, hown, hq, hlk, hK, -, hin, hW, hS⟩ := X
  have hown : s.vm.findClass RJ0 = some m.cls := hown
  refine z_ent (by exact Nat.le_of_ble_eq_true rfl) (fun ls hl => ?_)
  have hl : lv_has ls 2 [(0, .ref (G.2.2.1.1 (o))), (1, .int a1)] := hl
  unfold f_J0_charAt_5068e at h
  refine lv_aload_n hx hb dJ0_charAt_5068e_0 rfl (lv_at hl 0 rfl) ?_
  obtain ⟨t1, h⟩ := zc_at h
  obtain ⟨r3, c2, h⟩ := zd_at h
  refine z_cStr hx hb hq hml hown hK hW hS t1 [] [] (c_J0_isLatin1_aae02 l G st o c2) (zi zm140) (zi zm141) (zi zm142) (zi zm127) (zi zm143) cal_J0_isLatin1_aae02 rfl rfl hl.1 rfl (Nat.le_of_ble_eq_true rfl) (zR_ok (by omega) (by decide)) ⟨(Nat.le_of_ble_eq_true rfl), (Nat.le_of_ble_eq_true rfl)⟩ dJ0_charAt_5068e_1 (fun H locs hW hS => ?_)
  refine W.eq (g2 := F0 m 4 ls [.int r3]) rfl ?_
  refine z_br (lv_if_eq (tgt := 16) hx hb dJ0_charAt_5068e_4 (by decide)) h (fun h => ?_) (fun h => ?_)
  · refine lv_aload_n hx hb dJ0_charAt_5068e_16 rfl (lv_at hl 0 rfl) ?_
    refine vk_getf hx hb (hK.2.2.2.2.2.2.1 _ t1).1.2.2.1 hS hown (hq _ (zi zm129)) (fun _ h => h) dJ0_charAt_5068e_17 ?_
    refine lv_iload_n hx hb dJ0_charAt_5068e_20 rfl (lv_at hl 1 rfl) ?_
    cases h
  · refine lv_aload_n hx hb dJ0_charAt_5068e_7 rfl (lv_at hl 0 rfl) ?_
    refine vk_getf hx hb (hK.2.2.2.2.2.2.1 _ t1).1.2.2.1 hS hown (hq _ (zi zm129)) (fun _ h => h) dJ0_charAt_5068e_8 ?_
    refine lv_iload_n hx hb dJ0_charAt_5068e_11 rfl (lv_at hl 1 rfl) ?_
    obtain ⟨r5, c4, h⟩ := zd_at h
    refine z_cS hx hb hq hml hown hK hW hS [.ref (G.2.2.1.2 (o)), .int a1] [] (c_J1_charAt_3b067 l G st o a1 c4) (zi zm144) (zi zm145) (zi zm146) (zi zm147) cal_J1_charAt_3b067 rfl hl.1 rfl (Nat.le_of_ble_eq_true rfl) (zR_ok (by omega) (by decide)) ⟨(Nat.le_of_ble_eq_true rfl), (Nat.le_of_ble_eq_true rfl)⟩ dJ0_charAt_5068e_12 (fun H locs hW hS => ?_)
    refine W.eq (g2 := F0 m 15 ls [.int r5]) rfl ?_
    obtain ⟨t6, h⟩ := zc_at h
    obtain rfl := Option.some.inj h
    exact z_rz hx hb hr hlk (znC t6) hW hS (Nat.le_of_ble_eq_true rfl) (Nat.le_of_ble_eq_true rfl) dJ0_charAt_5068e_15
def f_X6_stuck (a0 : Int32) : Option Int32 := (if 0 ≤ a0 then (some ((-1 : Int32) - a0)) else (some a0))
set_option maxHeartbeats 1000000 in
set_option maxRecDepth 100000 in
theorem c_X6_stuck (l : Launch) (G : zG) (st : zS) (a0 : Int32) {r : Int32} (h : f_X6_stuck a0 = some r) : zMet l G yX6_stuck cX6_stuck 1 (some .int) 0 0 0 [.int a0] st (some (.int r)) st := by
  refine zMet_of (by decide +kernel) ?_
  intro p e s m args below meth c X
  obtain ⟨hx, hb, hr, hml, hown, hq, hlk, hK, -, hin, hW, hS⟩ := X
  have hown : s.vm.findClass RX6 = some m.cls := hown
  refine z_ent (by exact Nat.le_of_ble_eq_true rfl) (fun ls hl => ?_)
  have hl : lv_has ls 1 [(0, .int a0)] := hl
  unfold f_X6_stuck at h
  refine lv_iload_n hx hb dX6_stuck_0 rfl (lv_at hl 0 rfl) ?_
  refine z_br (lv_if_ge (tgt := 8) hx hb dX6_stuck_1 (by decide)) h (fun h => ?_) (fun h => ?_)
  · refine lv_iconst (v := (-1)) hx hb dX6_stuck_8 (by decide) ?_
    refine lv_iload_n hx hb dX6_stuck_9 rfl (lv_at hl 0 rfl) ?_
    refine lv_isub hx hb dX6_stuck_10 ?_
    obtain rfl := Option.some.inj h
    exact z_ri hx hb hr hlk hW hS (Nat.le_of_ble_eq_true rfl) (Nat.le_of_ble_eq_true rfl) dX6_stuck_11
  · refine lv_iload_n hx hb dX6_stuck_4 rfl (lv_at hl 0 rfl) ?_
    refine lv_goto (tgt := 11) hx hb dX6_stuck_5 (by decide) ?_
    obtain rfl := Option.some.inj h
    exact z_ri hx hb hr hlk hW hS (Nat.le_of_ble_eq_true rfl) (Nat.le_of_ble_eq_true rfl) dX6_stuck_11
def f_X6_expect_19 (st : zS) (a0 : Nat) (a1 : Int32) (a2 : Int32)   : Option Int32 := (Option.bind (f_X6_stuck a1) (fun r2 => (some r2)))
def f_X6_expect (st : zS) (a0 : Nat) (a1 : Int32) (a2 : Int32) : Option Int32 := (if a1 < 0 then (f_X6_expect_19 st a0 a1 a2) else (if zTg st a0 ∈ [15] then (Option.bind (f_X5_get st a0 a1) (fun r5 => (if r5 = a2 then (some (a1 + (nI 1))) else (f_X6_expect_19 st a0 a1 a2)))) else none))
set_option maxHeartbeats 1000000 in
set_option maxRecDepth 100000 in
theorem c_X6_expect (l : Launch) (G : zG) (st : zS) (a0 : Nat) (a1 : Int32) (a2 : Int32) {r : Int32} (h : f_X6_expect st a0 a1 a2 = some r) : zMet l G yX6_expect cX6_expect 3 (some .int) 1 0 0 [.ref (G.2.2.2 + a0), .int a1, .int a2] st (some (.int r)) st := by
  refine zMet_of (by decide +kernel) ?_
  intro p e s m args below meth c X
  obtain ⟨hx, hb, hr, hml, hown, hq, hlk, hK, -, hin, hW, hS⟩ := X
  have hown : s.vm.findClass RX6 = some m.cls := hown
  refine z_ent (by exact Nat.le_of_ble_eq_true rfl) (fun ls hl => ?_)
  have hl : lv_has ls 3 [(0, .ref (G.2.2.2 + a0)), (1, .int a1), (2, .int a2)] := hl
  unfold f_X6_expect at h
  have B19 : ∀  (H : Heap) (locs : List Loc) (ls : Array Slot), f_X6_expect_19 st a0 a1 a2  = some r → zWd G st H → va_S (zA G) s.heap H locs → lv_has ls 3 [(1, .int a1)] → W p l e (zRm 1 0 0) s m args below meth c H locs 0 0 (MQ below (zQ G (some (.int r)) st) args s 0 0 (zA G)) (F0 m 19 ls []) := by
    intro  H locs ls h hW hS hl
    unfold f_X6_expect_19 at h
    refine lv_iload_n hx hb dX6_expect_19 rfl (lv_at hl 0 rfl) ?_
    obtain ⟨r2, c1, h⟩ := zd_at h
    refine z_cS hx hb hq hml hown hK hW hS [.int a1] [] (c_X6_stuck l G st a1 c1) (zi zm176) (zi zm177) (zi zm28) (zi zm178) cal_X6_stuck rfl hl.1 rfl (Nat.le_of_ble_eq_true rfl) (zR_ok (by omega) (by decide)) ⟨(Nat.le_of_ble_eq_true rfl), (Nat.le_of_ble_eq_true rfl)⟩ dX6_expect_20 (fun H locs hW hS => ?_)
    refine W.eq (g2 := F0 m 23 ls [.int r2]) rfl ?_
    obtain rfl := Option.some.inj h
    exact z_ri hx hb hr hlk hW hS (Nat.le_of_ble_eq_true rfl) (Nat.le_of_ble_eq_true rfl) dX6_expect_23
  refine lv_iload_n hx hb dX6_expect_0 rfl (lv_at hl 1 rfl) ?_
  refine z_br (lv_if_lt (tgt := 19) hx hb dX6_expect_1 (by decide)) h (fun h => ?_) (fun h => ?_)
  · exact B19  _ _ _ h hW hS (lv_sub hl [1] rfl)
  · refine lv_aload_n hx hb dX6_expect_4 rfl (lv_at hl 0 rfl) ?_
    refine lv_iload_n hx hb dX6_expect_5 rfl (lv_at hl 1 rfl) ?_
    obtain ⟨t3, h⟩ := zc_at h
    obtain ⟨r5, c4, h⟩ := zd_at h
    refine z_cV hx hb hq hml hown hK hW hS 5 [.int a1] [] rfl (List.mem_singleton.mp t3) (c_X5_get l G st a0 a1 c4) (zi zm108) (zi zm109) (zi zm110) (zi zm32) (zi zm111) cal_X5_get rfl rfl hl.1 rfl (Nat.le_of_ble_eq_true rfl) (zR_ok (by omega) (by decide)) ⟨(Nat.le_of_ble_eq_true rfl), (Nat.le_of_ble_eq_true rfl)⟩ dX6_expect_6 (fun H locs hW hS => ?_)
    refine W.eq (g2 := F0 m 9 ls [.int r5]) rfl ?_
    refine lv_iload_n hx hb dX6_expect_9 rfl (lv_at hl 2 rfl) ?_
    refine z_brn (lv_icmp_ne (tgt := 19) hx hb dX6_expect_10 (by decide)) h (fun h => ?_) (fun h => ?_)
    · exact B19  _ _ _ h hW hS (lv_sub hl [1] rfl)
    · refine lv_iload_n hx hb dX6_expect_13 rfl (lv_at hl 1 rfl) ?_
      refine lv_iconst (v := (nI 1)) hx hb dX6_expect_14 (by decide) ?_
      refine lv_iadd hx hb dX6_expect_15 ?_
      refine lv_goto (tgt := 23) hx hb dX6_expect_16 (by decide) ?_
      obtain rfl := Option.some.inj h
      exact z_ri hx hb hr hlk hW hS (Nat.le_of_ble_eq_true rfl) (Nat.le_of_ble_eq_true rfl) dX6_expect_23
def f_X6_words_5 (N : Nat) (st : zS) (a0 : Nat) (a1 : Int32) (a2 : Nat)  : Nat → Int32 → Int32 → Option Int32
  | 0, _, _ => none
  | n5 + 1, x3, x4 => (if a2 < zsN then (Option.bind (f_J0_length_8abf5 a2) (fun r3 => (if r3 ≤ x4 then (some x3) else (Option.bind (f_J0_charAt_5068e a2 x4) (fun r5 => (Option.bind (f_X6_expect st a0 x3 r5) (fun r7 => ((f_X6_words_5 N st a0 a1 a2 n5) r7 (x4 + (nI 1)))))))))) else none)
def f_X6_words (N : Nat) (st : zS) (a0 : Nat) (a1 : Int32) (a2 : Nat) : Option Int32 := (f_X6_words_5 N st a0 a1 a2 N a1 (nI 0))
set_option maxHeartbeats 1000000 in
set_option maxRecDepth 100000 in
theorem c_X6_words (l : Launch) (G : zG) (N : Nat) (st : zS) (a0 : Nat) (a1 : Int32) (a2 : Nat) {r : Int32} (h : f_X6_words N st a0 a1 a2 = some r) : zMet l G yX6_words cX6_words 5 (some .int) 5 0 0 [.ref (G.2.2.2 + a0), .int a1, .ref (G.2.2.1.1 (a2))] st (some (.int r)) st := by
  refine zMet_of (by decide +kernel) ?_
  intro p e s m args below meth c X
  obtain ⟨hx, hb, hr, hml, hown, hq, hlk, hK, -, hin, hW, hS⟩ := X
  have hown : s.vm.findClass RX6 = some m.cls := hown
  refine z_ent (by exact Nat.le_of_ble_eq_true rfl) (fun ls hl => ?_)
  have hl : lv_has ls 5 [(0, .ref (G.2.2.2 + a0)), (1, .int a1), (2, .ref (G.2.2.1.1 (a2)))] := hl
  unfold f_X6_words at h
  have B5 : ∀ (n5 : Nat) (x3 : Int32) (x4 : Int32) (H : Heap) (locs : List Loc) (ls : Array Slot), f_X6_words_5 N st a0 a1 a2 n5 x3 x4 = some r → zWd G st H → va_S (zA G) s.heap H locs → lv_has ls 5 [(0, .ref (G.2.2.2 + a0)), (2, .ref (G.2.2.1.1 (a2))), (3, .int x3), (4, .int x4)] → W p l e (zRm 5 0 0) s m args below meth c H locs 0 0 (MQ below (zQ G (some (.int r)) st) args s 0 0 (zA G)) (F0 m 5 ls []) := by
    intro n5
    induction n5 with
    | zero =>
      intro x3 x4 H locs ls h
      unfold f_X6_words_5 at h
      cases h
    | succ n5 ih5 =>
      intro x3 x4 H locs ls h hW hS hl
      unfold f_X6_words_5 at h
      refine lv_iload hx hb dX6_words_5 (lv_at hl 3 rfl) ?_
      refine lv_aload_n hx hb dX6_words_7 rfl (lv_at hl 1 rfl) ?_
      obtain ⟨t1, h⟩ := zc_at h
      obtain ⟨r3, c2, h⟩ := zd_at h
      refine z_cStr hx hb hq hml hown hK hW hS t1 [] [.int x4] (c_J0_length_8abf5 l G st a2 c2) (zi zm124) (zi zm125) (zi zm126) (zi zm127) (zi zm128) cal_J0_length_8abf5 rfl rfl hl.1 rfl (Nat.le_of_ble_eq_true rfl) (zR_ok (by omega) (by decide)) ⟨(Nat.le_of_ble_eq_true rfl), (Nat.le_of_ble_eq_true rfl)⟩ dX6_words_8 (fun H locs hW hS => ?_)
      refine W.eq (g2 := F0 m 11 ls [.int r3, .int x4]) rfl ?_
      refine z_br (lv_icmp_ge (tgt := 32) hx hb dX6_words_11 (by decide)) h (fun h => ?_) (fun h => ?_)
      · refine lv_iload_n hx hb dX6_words_32 rfl (lv_at hl 2 rfl) ?_
        obtain rfl := Option.some.inj h
        exact z_ri hx hb hr hlk hW hS (Nat.le_of_ble_eq_true rfl) (Nat.le_of_ble_eq_true rfl) dX6_words_33
      · refine lv_aload_n hx hb dX6_words_14 rfl (lv_at hl 0 rfl) ?_
        refine lv_iload_n hx hb dX6_words_15 rfl (lv_at hl 2 rfl) ?_
        refine lv_aload_n hx hb dX6_words_16 rfl (lv_at hl 1 rfl) ?_
        refine lv_iload hx hb dX6_words_17 (lv_at hl 3 rfl) ?_
        obtain ⟨r5, c4, h⟩ := zd_at h
        refine z_cStr hx hb hq hml hown hK hW hS t1 [.int x4] [.int x3, .ref (G.2.2.2 + a0)] (c_J0_charAt_5068e l G st a2 x4 c4) (zi zm136) (zi zm137) (zi zm138) (zi zm127) (zi zm139) cal_J0_charAt_5068e rfl rfl hl.1 rfl (Nat.le_of_ble_eq_true rfl) (zR_ok (by omega) (by decide)) ⟨(Nat.le_of_ble_eq_true rfl), (Nat.le_of_ble_eq_true rfl)⟩ dX6_words_19 (fun H locs hW hS => ?_)
        refine W.eq (g2 := F0 m 22 ls [.int r5, .int x3, .ref (G.2.2.2 + a0)]) rfl ?_
        obtain ⟨r7, c6, h⟩ := zd_at h
        refine z_cS hx hb hq hml hown hK hW hS [.ref (G.2.2.2 + a0), .int x3, .int r5] [] (c_X6_expect l G st a0 x3 r5 c6) (zi zm173) (zi zm174) (zi zm28) (zi zm175) cal_X6_expect rfl hl.1 rfl (Nat.le_of_ble_eq_true rfl) (zR_ok (by omega) (by decide)) ⟨(Nat.le_of_ble_eq_true rfl), (Nat.le_of_ble_eq_true rfl)⟩ dX6_words_22 (fun H locs hW hS => ?_)
        refine W.eq (g2 := F0 m 25 ls [.int r7]) rfl ?_
        refine lv_istore_n (lv' := [(3, .int r7), (0, .ref (G.2.2.2 + a0)), (2, .ref (G.2.2.1.1 (a2))), (4, .int x4)]) hx hb dX6_words_25 rfl hl (by decide) rfl (fun ls hl => ?_)
        refine lv_iinc (v := (x4 + (nI 1))) (lv' := [(4, .int ((x4 + (nI 1)))), (3, .int r7), (0, .ref (G.2.2.2 + a0)), (2, .ref (G.2.2.1.1 (a2)))]) hx hb dX6_words_26 hl (k := 3) rfl rfl (by decide) rfl (fun ls hl => ?_)
        refine lv_goto (tgt := 5) hx hb dX6_words_29 (by decide) ?_
        exact ih5 r7 (x4 + (nI 1)) _ _ _ h hW hS (lv_sub hl [2, 3, 1, 0] rfl)
  refine lv_iload_n hx hb dX6_words_0 rfl (lv_at hl 1 rfl) ?_
  refine lv_istore_n (lv' := [(3, .int a1), (0, .ref (G.2.2.2 + a0)), (1, .int a1), (2, .ref (G.2.2.1.1 (a2)))]) hx hb dX6_words_1 rfl hl (by decide) rfl (fun ls hl => ?_)
  refine lv_iconst (v := (nI 0)) hx hb dX6_words_2 (by decide) ?_
  refine lv_istore (lv' := [(4, .int ((nI 0))), (3, .int a1), (0, .ref (G.2.2.2 + a0)), (1, .int a1), (2, .ref (G.2.2.1.1 (a2)))]) hx hb dX6_words_3 hl (by decide) rfl (fun ls hl => ?_)
  exact B5 N a1 (nI 0) _ _ _ h hW hS (lv_sub hl [2, 4, 1, 0] rfl)
def f_X6_isFigure (a0 : Int32) : Option Int32 := (if a0 < (nI 48) then (some (nI 0)) else (if (nI 57) < a0 then (some (nI 0)) else (some (nI 1))))
set_option maxHeartbeats 1000000 in
set_option maxRecDepth 100000 in
theorem c_X6_isFigure (l : Launch) (G : zG) (st : zS) (a0 : Int32) {r : Int32} (h : f_X6_isFigure a0 = some r) : zMet l G yX6_isFigure cX6_isFigure 1 (some .boolean) 0 0 0 [.int a0] st (some (.int r)) st := by
  refine zMet_of (by decide +kernel) ?_
  intro p e s m args below meth c X
  obtain ⟨hx, hb, hr, hml, hown, hq, hlk, hK, -, hin, hW, hS⟩ := X
  have hown : s.vm.findClass RX6 = some m.cls := hown
  refine z_ent (by exact Nat.le_of_ble_eq_true rfl) (fun ls hl => ?_)
  have hl : lv_has ls 1 [(0, .int a0)] := hl
  unfold f_X6_isFigure at h
  refine lv_iload_n hx hb dX6_isFigure_0 rfl (lv_at hl 0 rfl) ?_
  refine lv_bipush (v := (nI 48)) hx hb dX6_isFigure_1 (by decide) ?_
  refine z_br (lv_icmp_lt (tgt := 16) hx hb dX6_isFigure_3 (by decide)) h (fun h => ?_) (fun h => ?_)
  · refine lv_iconst (v := (nI 0)) hx hb dX6_isFigure_16 (by decide) ?_
    obtain rfl := Option.some.inj h
    exact z_rz hx hb hr hlk rfl hW hS (Nat.le_of_ble_eq_true rfl) (Nat.le_of_ble_eq_true rfl) dX6_isFigure_17
  · refine lv_iload_n hx hb dX6_isFigure_6 rfl (lv_at hl 0 rfl) ?_
    refine lv_bipush (v := (nI 57)) hx hb dX6_isFigure_7 (by decide) ?_
    refine z_br (lv_icmp_gt (tgt := 16) hx hb dX6_isFigure_9 (by decide)) h (fun h => ?_) (fun h => ?_)
    · refine lv_iconst (v := (nI 0)) hx hb dX6_isFigure_16 (by decide) ?_
      obtain rfl := Option.some.inj h
      exact z_rz hx hb hr hlk rfl hW hS (Nat.le_of_ble_eq_true rfl) (Nat.le_of_ble_eq_true rfl) dX6_isFigure_17
    · refine lv_iconst (v := (nI 1)) hx hb dX6_isFigure_12 (by decide) ?_
      refine lv_goto (tgt := 17) hx hb dX6_isFigure_13 (by decide) ?_
      obtain rfl := Option.some.inj h
      exact z_rz hx hb hr hlk rfl hW hS (Nat.le_of_ble_eq_true rfl) (Nat.le_of_ble_eq_true rfl) dX6_isFigure_17
def f_X6_digits (st : zS) (a0 : Nat) (a1 : Int32) : Option Int32 := (if zTg st a0 ∈ [15] then (Option.bind (f_X5_get st a0 a1) (fun r3 => (Option.bind (f_X6_isFigure r3) (fun r5 => (if r5 = 0 then (Option.bind (f_X6_stuck a1) (fun r13 => (some r13))) else (Option.bind (f_X5_get st a0 a1) (fun r7 => (if r7 = (nI 48) then (some (a1 + (nI 1))) else (Option.bind (f_X5_get st a0 (a1 + (nI 1))) (fun r9 => (Option.bind (f_X6_isFigure r9) (fun r11 => (if r11 = 0 then (some (a1 + (nI 1))) else (some (a1 + (nI 2)))))))))))))))) else none)
set_option maxHeartbeats 1000000 in
set_option maxRecDepth 100000 in
theorem c_X6_digits (l : Launch) (G : zG) (st : zS) (a0 : Nat) (a1 : Int32) {r : Int32} (h : f_X6_digits st a0 a1 = some r) : zMet l G yX6_digits cX6_digits 2 (some .int) 1 0 0 [.ref (G.2.2.2 + a0), .int a1] st (some (.int r)) st := by
  refine zMet_of (by decide +kernel) ?_
  intro p e s m args below meth c X
  obtain ⟨hx, hb, hr, hml, hown, hq, hlk, hK, -, hin, hW, hS⟩ := X
  have hown : s.vm.findClass RX6 = some m.cls := hown
  refine z_ent (by exact Nat.le_of_ble_eq_true rfl) (fun ls hl => ?_)
  have hl : lv_has ls 2 [(0, .ref (G.2.2.2 + a0)), (1, .int a1)] := hl
  unfold f_X6_digits at h
  refine lv_aload_n hx hb dX6_digits_0 rfl (lv_at hl 0 rfl) ?_
  refine lv_iload_n hx hb dX6_digits_1 rfl (lv_at hl 1 rfl) ?_
  obtain ⟨t1, h⟩ := zc_at h
  obtain ⟨r3, c2, h⟩ := zd_at h
  refine z_cV hx hb hq hml hown hK hW hS 5 [.int a1] [] rfl (List.mem_singleton.mp t1) (c_X5_get l G st a0 a1 c2) (zi zm108) (zi zm109) (zi zm110) (zi zm32) (zi zm111) cal_X5_get rfl rfl hl.1 rfl (Nat.le_of_ble_eq_true rfl) (zR_ok (by omega) (by decide)) ⟨(Nat.le_of_ble_eq_true rfl), (Nat.le_of_ble_eq_true rfl)⟩ dX6_digits_2 (fun H locs hW hS => ?_)
  refine W.eq (g2 := F0 m 5 ls [.int r3]) rfl ?_
  obtain ⟨r5, c4, h⟩ := zd_at h
  refine z_cS hx hb hq hml hown hK hW hS [.int r3] [] (c_X6_isFigure l G st r3 c4) (zi zm182) (zi zm183) (zi zm28) (zi zm184) cal_X6_isFigure rfl hl.1 rfl (Nat.le_of_ble_eq_true rfl) (zR_ok (by omega) (by decide)) ⟨(Nat.le_of_ble_eq_true rfl), (Nat.le_of_ble_eq_true rfl)⟩ dX6_digits_5 (fun H locs hW hS => ?_)
  refine W.eq (g2 := F0 m 8 ls [.int r5]) rfl ?_
  refine z_brn (lv_if_ne (tgt := 16) hx hb dX6_digits_8 (by decide)) h (fun h => ?_) (fun h => ?_)
  · refine lv_aload_n hx hb dX6_digits_16 rfl (lv_at hl 0 rfl) ?_
    refine lv_iload_n hx hb dX6_digits_17 rfl (lv_at hl 1 rfl) ?_
    obtain ⟨r7, c6, h⟩ := zd_at h
    refine z_cV hx hb hq hml hown hK hW hS 5 [.int a1] [] rfl (List.mem_singleton.mp t1) (c_X5_get l G st a0 a1 c6) (zi zm108) (zi zm109) (zi zm110) (zi zm32) (zi zm111) cal_X5_get rfl rfl hl.1 rfl (Nat.le_of_ble_eq_true rfl) (zR_ok (by omega) (by decide)) ⟨(Nat.le_of_ble_eq_true rfl), (Nat.le_of_ble_eq_true rfl)⟩ dX6_digits_18 (fun H locs hW hS => ?_)
    refine W.eq (g2 := F0 m 21 ls [.int r7]) rfl ?_
    refine lv_bipush (v := (nI 48)) hx hb dX6_digits_21 (by decide) ?_
    refine z_br (lv_icmp_eq (tgt := 45) hx hb dX6_digits_23 (by decide)) h (fun h => ?_) (fun h => ?_)
    · refine lv_iload_n hx hb dX6_digits_45 rfl (lv_at hl 1 rfl) ?_
      refine lv_iconst (v := (nI 1)) hx hb dX6_digits_46 (by decide) ?_
      refine lv_iadd hx hb dX6_digits_47 ?_
      obtain rfl := Option.some.inj h
      exact z_ri hx hb hr hlk hW hS (Nat.le_of_ble_eq_true rfl) (Nat.le_of_ble_eq_true rfl) dX6_digits_48
    · refine lv_aload_n hx hb dX6_digits_26 rfl (lv_at hl 0 rfl) ?_
      refine lv_iload_n hx hb dX6_digits_27 rfl (lv_at hl 1 rfl) ?_
      refine lv_iconst (v := (nI 1)) hx hb dX6_digits_28 (by decide) ?_
      refine lv_iadd hx hb dX6_digits_29 ?_
      obtain ⟨r9, c8, h⟩ := zd_at h
      refine z_cV hx hb hq hml hown hK hW hS 5 [.int ((a1 + (nI 1)))] [] rfl (List.mem_singleton.mp t1) (c_X5_get l G st a0 (a1 + (nI 1)) c8) (zi zm108) (zi zm109) (zi zm110) (zi zm32) (zi zm111) cal_X5_get rfl rfl hl.1 rfl (Nat.le_of_ble_eq_true rfl) (zR_ok (by omega) (by decide)) ⟨(Nat.le_of_ble_eq_true rfl), (Nat.le_of_ble_eq_true rfl)⟩ dX6_digits_30 (fun H locs hW hS => ?_)
      refine W.eq (g2 := F0 m 33 ls [.int r9]) rfl ?_
      obtain ⟨r11, c10, h⟩ := zd_at h
      refine z_cS hx hb hq hml hown hK hW hS [.int r9] [] (c_X6_isFigure l G st r9 c10) (zi zm182) (zi zm183) (zi zm28) (zi zm184) cal_X6_isFigure rfl hl.1 rfl (Nat.le_of_ble_eq_true rfl) (zR_ok (by omega) (by decide)) ⟨(Nat.le_of_ble_eq_true rfl), (Nat.le_of_ble_eq_true rfl)⟩ dX6_digits_33 (fun H locs hW hS => ?_)
      refine W.eq (g2 := F0 m 36 ls [.int r11]) rfl ?_
      refine z_br (lv_if_eq (tgt := 45) hx hb dX6_digits_36 (by decide)) h (fun h => ?_) (fun h => ?_)
      · refine lv_iload_n hx hb dX6_digits_45 rfl (lv_at hl 1 rfl) ?_
        refine lv_iconst (v := (nI 1)) hx hb dX6_digits_46 (by decide) ?_
        refine lv_iadd hx hb dX6_digits_47 ?_
        obtain rfl := Option.some.inj h
        exact z_ri hx hb hr hlk hW hS (Nat.le_of_ble_eq_true rfl) (Nat.le_of_ble_eq_true rfl) dX6_digits_48
      · refine lv_iload_n hx hb dX6_digits_39 rfl (lv_at hl 1 rfl) ?_
        refine lv_iconst (v := (nI 2)) hx hb dX6_digits_40 (by decide) ?_
        refine lv_iadd hx hb dX6_digits_41 ?_
        refine lv_goto (tgt := 48) hx hb dX6_digits_42 (by decide) ?_
        obtain rfl := Option.some.inj h
        exact z_ri hx hb hr hlk hW hS (Nat.le_of_ble_eq_true rfl) (Nat.le_of_ble_eq_true rfl) dX6_digits_48
  · refine lv_iload_n hx hb dX6_digits_11 rfl (lv_at hl 1 rfl) ?_
    obtain ⟨r13, c12, h⟩ := zd_at h
    refine z_cS hx hb hq hml hown hK hW hS [.int a1] [] (c_X6_stuck l G st a1 c12) (zi zm176) (zi zm177) (zi zm28) (zi zm178) cal_X6_stuck rfl hl.1 rfl (Nat.le_of_ble_eq_true rfl) (zR_ok (by omega) (by decide)) ⟨(Nat.le_of_ble_eq_true rfl), (Nat.le_of_ble_eq_true rfl)⟩ dX6_digits_12 (fun H locs hW hS => ?_)
    refine W.eq (g2 := F0 m 15 ls [.int r13]) rfl ?_
    obtain rfl := Option.some.inj h
    exact z_ri hx hb hr hlk hW hS (Nat.le_of_ble_eq_true rfl) (Nat.le_of_ble_eq_true rfl) dX6_digits_15
def f_X6_valueOf_5 (N : Nat) (st : zS) (a0 : Nat) (a1 : Int32) (a2 : Int32)  : Nat → Int32 → Int32 → Option Int32
  | 0, _, _ => none
  | n5 + 1, x3, x4 => (if a2 ≤ x4 then (some x3) else (if zTg st a0 ∈ [15] then (Option.bind (f_X5_get st a0 x4) (fun r3 => (zl (((x3 * (nI 10)) + r3) - (nI 48)) (fun v4 => ((f_X6_valueOf_5 N st a0 a1 a2 n5) v4 (x4 + (nI 1))))))) else none))
def f_X6_valueOf (N : Nat) (st : zS) (a0 : Nat) (a1 : Int32) (a2 : Int32) : Option Int32 := (f_X6_valueOf_5 N st a0 a1 a2 N (nI 0) a1)
set_option maxHeartbeats 1000000 in
set_option maxRecDepth 100000 in
theorem c_X6_valueOf (l : Launch) (G : zG) (N : Nat) (st : zS) (a0 : Nat) (a1 : Int32) (a2 : Int32) {r : Int32} (h : f_X6_valueOf N st a0 a1 a2 = some r) : zMet l G yX6_valueOf cX6_valueOf 5 (some .int) 1 0 0 [.ref (G.2.2.2 + a0), .int a1, .int a2] st (some (.int r)) st := by
  refine zMet_of (by decide +kernel) ?_
  intro p e s m args below meth c X
  obtain ⟨hx, hb, hr, hml, hown, hq, hlk, hK, -, hin, hW, hS⟩ := X
  have hown : s.vm.findClass RX6 = some m.cls := hown
  refine z_ent (by exact Nat.le_of_ble_eq_true rfl) (fun ls hl => ?_)
  have hl : lv_has ls 5 [(0, .ref (G.2.2.2 + a0)), (1, .int a1), (2, .int a2)] := hl
  unfold f_X6_valueOf at h
  have B5 : ∀ (n5 : Nat) (x3 : Int32) (x4 : Int32) (H : Heap) (locs : List Loc) (ls : Array Slot), f_X6_valueOf_5 N st a0 a1 a2 n5 x3 x4 = some r → zWd G st H → va_S (zA G) s.heap H locs → lv_has ls 5 [(0, .ref (G.2.2.2 + a0)), (2, .int a2), (3, .int x3), (4, .int x4)] → W p l e (zRm 1 0 0) s m args below meth c H locs 0 0 (MQ below (zQ G (some (.int r)) st) args s 0 0 (zA G)) (F0 m 5 ls []) := by
    intro n5
    induction n5 with
    | zero =>
      intro x3 x4 H locs ls h
      unfold f_X6_valueOf_5 at h
      cases h
    | succ n5 ih5 =>
      intro x3 x4 H locs ls h hW hS hl
      unfold f_X6_valueOf_5 at h
      refine lv_iload hx hb dX6_valueOf_5 (lv_at hl 3 rfl) ?_
      refine lv_iload_n hx hb dX6_valueOf_7 rfl (lv_at hl 1 rfl) ?_
      refine z_br (lv_icmp_ge (tgt := 32) hx hb dX6_valueOf_8 (by decide)) h (fun h => ?_) (fun h => ?_)
      · refine lv_iload_n hx hb dX6_valueOf_32 rfl (lv_at hl 2 rfl) ?_
        obtain rfl := Option.some.inj h
        exact z_ri hx hb hr hlk hW hS (Nat.le_of_ble_eq_true rfl) (Nat.le_of_ble_eq_true rfl) dX6_valueOf_33
      · refine lv_iload_n hx hb dX6_valueOf_11 rfl (lv_at hl 2 rfl) ?_
        refine lv_bipush (v := (nI 10)) hx hb dX6_valueOf_12 (by decide) ?_
        refine lv_imul hx hb dX6_valueOf_14 ?_
        refine lv_aload_n hx hb dX6_valueOf_15 rfl (lv_at hl 0 rfl) ?_
        refine lv_iload hx hb dX6_valueOf_16 (lv_at hl 3 rfl) ?_
        obtain ⟨t1, h⟩ := zc_at h
        obtain ⟨r3, c2, h⟩ := zd_at h
        refine z_cV hx hb hq hml hown hK hW hS 5 [.int x4] [.int ((x3 * (nI 10)))] rfl (List.mem_singleton.mp t1) (c_X5_get l G st a0 x4 c2) (zi zm108) (zi zm109) (zi zm110) (zi zm32) (zi zm111) cal_X5_get rfl rfl hl.1 rfl (Nat.le_of_ble_eq_true rfl) (zR_ok (by omega) (by decide)) ⟨(Nat.le_of_ble_eq_true rfl), (Nat.le_of_ble_eq_true rfl)⟩ dX6_valueOf_18 (fun H locs hW hS => ?_)
        refine W.eq (g2 := F0 m 21 ls [.int r3, .int ((x3 * (nI 10)))]) rfl ?_
        refine lv_iadd hx hb dX6_valueOf_21 ?_
        refine lv_bipush (v := (nI 48)) hx hb dX6_valueOf_22 (by decide) ?_
        refine lv_isub hx hb dX6_valueOf_24 ?_
        refine lv_topi (fun v4 ev4 => ?_)
        have h := zl_at ev4 h
        refine lv_istore_n (lv' := [(3, .int v4), (0, .ref (G.2.2.2 + a0)), (2, .int a2), (4, .int x4)]) hx hb dX6_valueOf_25 rfl hl (by decide) rfl (fun ls hl => ?_)
        refine lv_iinc (v := (x4 + (nI 1))) (lv' := [(4, .int ((x4 + (nI 1)))), (3, .int v4), (0, .ref (G.2.2.2 + a0)), (2, .int a2)]) hx hb dX6_valueOf_26 hl (k := 3) rfl rfl (by decide) rfl (fun ls hl => ?_)
        refine lv_goto (tgt := 5) hx hb dX6_valueOf_29 (by decide) ?_
        exact ih5 v4 (x4 + (nI 1)) _ _ _ h hW hS (lv_sub hl [2, 3, 1, 0] rfl)
  refine lv_iconst (v := (nI 0)) hx hb dX6_valueOf_0 (by decide) ?_
  refine lv_istore_n (lv' := [(3, .int ((nI 0))), (0, .ref (G.2.2.2 + a0)), (1, .int a1), (2, .int a2)]) hx hb dX6_valueOf_1 rfl hl (by decide) rfl (fun ls hl => ?_)
  refine lv_iload_n hx hb dX6_valueOf_2 rfl (lv_at hl 2 rfl) ?_
  refine lv_istore (lv' := [(4, .int a1), (3, .int ((nI 0))), (0, .ref (G.2.2.2 + a0)), (1, .int a1), (2, .int a2)]) hx hb dX6_valueOf_3 hl (by decide) rfl (fun ls hl => ?_)
  exact B5 N (nI 0) a1 _ _ _ h hW hS (lv_sub hl [2, 4, 1, 0] rfl)
def f_X6_setting (N : Nat) (st : zS) (o : Nat) (a1 : Nat) (a2 : Int32) (a3 : Nat) : Option (zS × Int32) := (Option.bind (f_X6_words N st a1 a2 a3) (fun r2 => (Option.bind (f_X6_digits st a1 r2) (fun r4 => (if 0 ≤ r4 then (Option.bind (f_X6_valueOf N st a1 r2 r4) (fun r6 => (if zTg st a1 ∈ [15] then (Option.bind (f_X5_get st a1 a2) (fun r9 => (if r9 = (nI 108) then (if zTg st o ∈ [16] then (some ((zPM st o 1 (if (nI 1) < (if r6 < (nI 5) then r6 else (nI 5)) then (if r6 < (nI 5) then r6 else (nI 5)) else (nI 1))), r4)) else none) else (if r9 = (nI 119) then (if zTg st o ∈ [16] then (some ((zPM st o 0 (if (nI 1) < (if r6 < (nI 40) then r6 else (nI 40)) then (if r6 < (nI 40) then r6 else (nI 40)) else (nI 1))), r4)) else none) else (if zTg st o ∈ [16] then (some ((zPM st o 2 r6), r4)) else none))))) else none))) else (some (st, r4)))))))
set_option maxHeartbeats 1000000 in
set_option maxRecDepth 100000 in
theorem c_X6_setting (l : Launch) (G : zG) (N : Nat) (st : zS) (o : Nat) (a1 : Nat) (a2 : Int32) (a3 : Nat) {st' : zS} {r : Int32} (h : f_X6_setting N st o a1 a2 a3 = some (st', r)) : zMet l G yX6_setting cX6_setting 7 (some .int) 6 0 0 [.ref (G.2.2.2 + o), .ref (G.2.2.2 + a1), .int a2, .ref (G.2.2.1.1 (a3))] st (some (.int r)) st' := by
  refine zMet_of (by decide +kernel) ?_
  intro p e s m args below meth c X
  obtain ⟨hx, hb, hr, hml, hown, hq, hlk, hK, -, hin, hW, hS⟩ := X
  have hown : s.vm.findClass RX6 = some m.cls := hown
  refine z_ent (by exact Nat.le_of_ble_eq_true rfl) (fun ls hl => ?_)
  have hl : lv_has ls 7 [(0, .ref (G.2.2.2 + o)), (1, .ref (G.2.2.2 + a1)), (2, .int a2), (3, .ref (G.2.2.1.1 (a3)))] := hl
  unfold f_X6_setting at h
  refine lv_aload_n hx hb dX6_setting_0 rfl (lv_at hl 1 rfl) ?_
  refine lv_iload_n hx hb dX6_setting_1 rfl (lv_at hl 2 rfl) ?_
  refine lv_aload_n hx hb dX6_setting_2 rfl (lv_at hl 3 rfl) ?_
  obtain ⟨r2, c1, h⟩ := zd_at h
  refine z_cS hx hb hq hml hown hK hW hS [.ref (G.2.2.2 + a1), .int a2, .ref (G.2.2.1.1 (a3))] [] (c_X6_words l G N st a1 a2 a3 c1) (zi zm121) (zi zm122) (zi zm28) (zi zm123) cal_X6_words rfl hl.1 rfl (Nat.le_of_ble_eq_true rfl) (zR_ok (by omega) (by decide)) ⟨(Nat.le_of_ble_eq_true rfl), (Nat.le_of_ble_eq_true rfl)⟩ dX6_setting_3 (fun H locs hW hS => ?_)
  refine W.eq (g2 := F0 m 6 ls [.int r2]) rfl ?_
  refine lv_istore (lv' := [(4, .int r2), (0, .ref (G.2.2.2 + o)), (1, .ref (G.2.2.2 + a1)), (2, .int a2), (3, .ref (G.2.2.1.1 (a3)))]) hx hb dX6_setting_6 hl (by decide) rfl (fun ls hl => ?_)
  refine lv_aload_n hx hb dX6_setting_8 rfl (lv_at hl 2 rfl) ?_
  refine lv_iload hx hb dX6_setting_9 (lv_at hl 0 rfl) ?_
  obtain ⟨r4, c3, h⟩ := zd_at h
  refine z_cS hx hb hq hml hown hK hW hS [.ref (G.2.2.2 + a1), .int r2] [] (c_X6_digits l G st a1 r2 c3) (zi zm179) (zi zm180) (zi zm28) (zi zm181) cal_X6_digits rfl hl.1 rfl (Nat.le_of_ble_eq_true rfl) (zR_ok (by omega) (by decide)) ⟨(Nat.le_of_ble_eq_true rfl), (Nat.le_of_ble_eq_true rfl)⟩ dX6_setting_11 (fun H locs hW hS => ?_)
  refine W.eq (g2 := F0 m 14 ls [.int r4]) rfl ?_
  refine lv_istore (lv' := [(5, .int r4), (4, .int r2), (0, .ref (G.2.2.2 + o)), (1, .ref (G.2.2.2 + a1)), (2, .int a2), (3, .ref (G.2.2.1.1 (a3)))]) hx hb dX6_setting_14 hl (by decide) rfl (fun ls hl => ?_)
  refine lv_iload hx hb dX6_setting_16 (lv_at hl 0 rfl) ?_
  refine z_br (lv_if_ge (tgt := 24) hx hb dX6_setting_18 (by decide)) h (fun h => ?_) (fun h => ?_)
  · refine lv_aload_n hx hb dX6_setting_24 rfl (lv_at hl 3 rfl) ?_
    refine lv_iload hx hb dX6_setting_25 (lv_at hl 1 rfl) ?_
    refine lv_iload hx hb dX6_setting_27 (lv_at hl 0 rfl) ?_
    obtain ⟨r6, c5, h⟩ := zd_at h
    refine z_cS hx hb hq hml hown hK hW hS [.ref (G.2.2.2 + a1), .int r2, .int r4] [] (c_X6_valueOf l G N st a1 r2 r4 c5) (zi zm185) (zi zm186) (zi zm28) (zi zm187) cal_X6_valueOf rfl hl.1 rfl (Nat.le_of_ble_eq_true rfl) (zR_ok (by omega) (by decide)) ⟨(Nat.le_of_ble_eq_true rfl), (Nat.le_of_ble_eq_true rfl)⟩ dX6_setting_29 (fun H locs hW hS => ?_)
    refine W.eq (g2 := F0 m 32 ls [.int r6]) rfl ?_
    refine lv_istore (lv' := [(6, .int r6), (5, .int r4), (4, .int r2), (0, .ref (G.2.2.2 + o)), (1, .ref (G.2.2.2 + a1)), (2, .int a2), (3, .ref (G.2.2.1.1 (a3)))]) hx hb dX6_setting_32 hl (by decide) rfl (fun ls hl => ?_)
    refine lv_aload_n hx hb dX6_setting_34 rfl (lv_at hl 4 rfl) ?_
    refine lv_iload_n hx hb dX6_setting_35 rfl (lv_at hl 5 rfl) ?_
    obtain ⟨t7, h⟩ := zc_at h
    obtain ⟨r9, c8, h⟩ := zd_at h
    refine z_cV hx hb hq hml hown hK hW hS 5 [.int a2] [] rfl (List.mem_singleton.mp t7) (c_X5_get l G st a1 a2 c8) (zi zm108) (zi zm109) (zi zm110) (zi zm32) (zi zm111) cal_X5_get rfl rfl hl.1 rfl (Nat.le_of_ble_eq_true rfl) (zR_ok (by omega) (by decide)) ⟨(Nat.le_of_ble_eq_true rfl), (Nat.le_of_ble_eq_true rfl)⟩ dX6_setting_36 (fun H locs hW hS => ?_)
    refine W.eq (g2 := F0 m 39 ls [.int r9]) rfl ?_
    rcases zi_at h with ⟨k10, h⟩ | ⟨k10, h⟩
    · refine lv_lookup (off := 43) (tgt := 82) hx hb dX6_setting_39 (by decide) (by rw [k10]; rfl) (by decide) ?_
      refine lv_aload_n hx hb dX6_setting_82 rfl (lv_at hl 3 rfl) ?_
      refine lv_iconst (v := (nI 1)) hx hb dX6_setting_83 (by decide) ?_
      refine lv_iconst (v := (nI 5)) hx hb dX6_setting_84 (by decide) ?_
      refine lv_iload hx hb dX6_setting_85 (lv_at hl 0 rfl) ?_
      refine va_mmin hx hb (hml.trans hl.1.symm) hown (hq _ (zi zm116)) (hq _ (zi zm117)) (hq _ (zi zm53)) (hq _ (zi zm118)) (Nat.le_of_ble_eq_true rfl) (by show _ ≤ 60 * _; exact (Nat.le_of_ble_eq_true rfl)) (Nat.le_of_ble_eq_true rfl) (Nat.le_of_ble_eq_true rfl) dX6_setting_87 ?_
      refine va_mmax hx hb (hml.trans hl.1.symm) hown (hq _ (zi zm119)) (hq _ (zi zm52)) (hq _ (zi zm53)) (hq _ (zi zm54)) (Nat.le_of_ble_eq_true rfl) (by show _ ≤ 60 * _; exact (Nat.le_of_ble_eq_true rfl)) (Nat.le_of_ble_eq_true rfl) (Nat.le_of_ble_eq_true rfl) dX6_setting_90 ?_
      obtain ⟨t11, h⟩ := zc_at h
      refine z_pI hx hb hq hown hK hW hS fp_RX6_15 t11 (fun h => by cases h) rfl rfl dX6_setting_93 (fun H locs hW hS => ?_)
      refine lv_goto (tgt := 105) hx hb dX6_setting_96 (by decide) ?_
      refine lv_iload hx hb dX6_setting_105 (lv_at hl 1 rfl) ?_
      obtain ⟨rfl, rfl⟩ := Prod.mk.inj (Option.some.inj h)
      exact z_ri hx hb hr hlk hW hS (Nat.le_of_ble_eq_true rfl) (Nat.le_of_ble_eq_true rfl) dX6_setting_107
    · rcases zi_at h with ⟨k12, h⟩ | ⟨k12, h⟩
      · refine lv_lookup (off := 25) (tgt := 64) hx hb dX6_setting_39 (by decide) (by rw [k12]; rfl) (by decide) ?_
        refine lv_aload_n hx hb dX6_setting_64 rfl (lv_at hl 3 rfl) ?_
        refine lv_iconst (v := (nI 1)) hx hb dX6_setting_65 (by decide) ?_
        refine lv_bipush (v := (nI 40)) hx hb dX6_setting_66 (by decide) ?_
        refine lv_iload hx hb dX6_setting_68 (lv_at hl 0 rfl) ?_
        refine va_mmin hx hb (hml.trans hl.1.symm) hown (hq _ (zi zm116)) (hq _ (zi zm117)) (hq _ (zi zm53)) (hq _ (zi zm118)) (Nat.le_of_ble_eq_true rfl) (by show _ ≤ 60 * _; exact (Nat.le_of_ble_eq_true rfl)) (Nat.le_of_ble_eq_true rfl) (Nat.le_of_ble_eq_true rfl) dX6_setting_70 ?_
        refine va_mmax hx hb (hml.trans hl.1.symm) hown (hq _ (zi zm119)) (hq _ (zi zm52)) (hq _ (zi zm53)) (hq _ (zi zm54)) (Nat.le_of_ble_eq_true rfl) (by show _ ≤ 60 * _; exact (Nat.le_of_ble_eq_true rfl)) (Nat.le_of_ble_eq_true rfl) (Nat.le_of_ble_eq_true rfl) dX6_setting_73 ?_
        obtain ⟨t13, h⟩ := zc_at h
        refine z_pI hx hb hq hown hK hW hS fp_RX6_9 t13 (fun h => by cases h) rfl rfl dX6_setting_76 (fun H locs hW hS => ?_)
        refine lv_goto (tgt := 105) hx hb dX6_setting_79 (by decide) ?_
        refine lv_iload hx hb dX6_setting_105 (lv_at hl 1 rfl) ?_
        obtain ⟨rfl, rfl⟩ := Prod.mk.inj (Option.some.inj h)
        exact z_ri hx hb hr hlk hW hS (Nat.le_of_ble_eq_true rfl) (Nat.le_of_ble_eq_true rfl) dX6_setting_107
      · refine lv_lookup (off := 60) (tgt := 99) hx hb dX6_setting_39 (by decide) (by show Op.lookupswitch.offset [(108, 43), (119, 25)] 60 _ = _; rw [lv_osw k10 (by decide), lv_osw k12 (by decide)]; rfl) (by decide) ?_
        refine lv_aload_n hx hb dX6_setting_99 rfl (lv_at hl 3 rfl) ?_
        refine lv_iload hx hb dX6_setting_100 (lv_at hl 0 rfl) ?_
        obtain ⟨t14, h⟩ := zc_at h
        refine z_pI hx hb hq hown hK hW hS fp_RX6_74 t14 (fun h => by cases h) rfl rfl dX6_setting_102 (fun H locs hW hS => ?_)
        refine lv_iload hx hb dX6_setting_105 (lv_at hl 1 rfl) ?_
        obtain ⟨rfl, rfl⟩ := Prod.mk.inj (Option.some.inj h)
        exact z_ri hx hb hr hlk hW hS (Nat.le_of_ble_eq_true rfl) (Nat.le_of_ble_eq_true rfl) dX6_setting_107
  · refine lv_iload hx hb dX6_setting_21 (lv_at hl 0 rfl) ?_
    obtain ⟨rfl, rfl⟩ := Prod.mk.inj (Option.some.inj h)
    exact z_ri hx hb hr hlk hW hS (Nat.le_of_ble_eq_true rfl) (Nat.le_of_ble_eq_true rfl) dX6_setting_23
