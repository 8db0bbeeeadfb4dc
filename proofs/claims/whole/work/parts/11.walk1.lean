def f_X6_put (st : zS) (o : Nat) (a1 : Int32) : Option zS := (if zTg st o ∈ [16] then (if (zM st o 4) < 0 then (some st) else (Option.bind (zR st o 3) (fun b2 => (if zTg st b2 ∈ [1] then (if (nI (zLn st b2)) ≤ (zM st o 4) then (some st) else (if zin (zM st o 4) (zLn st b2) then (some (zPM (zPM st b2 ((zM st o 4)).toNatClampNeg a1) o 4 ((zM (zPM st b2 ((zM st o 4)).toNatClampNeg a1) o 4) + (nI 1)))) else none)) else none)))) else none)
set_option maxHeartbeats 1000000 in
set_option maxRecDepth 100000 in
theorem c_X6_put (l : Launch) (G : zG) (st : zS) (o : Nat) (a1 : Int32) {st' : zS} (h : f_X6_put st o a1 = some st') : zMet l G yX6_put cX6_put 2 none 0 0 0 [.ref (G.2.2.2 + o), .int a1] st none st' := by
  refine zMet_of (by decide +kernel) ?_
  intro p e s m args below meth c X
  obtain ⟨hx, hb, hr, hml, hown, hq, hlk, hK, -, hin, hW, hS⟩ := X
  have hown : s.vm.findClass RX6 = some m.cls := hown
  refine z_ent (by exact Nat.le_of_ble_eq_true rfl) (fun ls hl => ?_)
  have hl : lv_has ls 2 [(0, .ref (G.2.2.2 + o)), (1, .int a1)] := hl
  unfold f_X6_put at h
  refine lv_aload_n hx hb dX6_put_0 rfl (lv_at hl 0 rfl) ?_
  obtain ⟨t1, h⟩ := zc_at h
  refine z_gI hx hb hq hown hK hW fs_RX6_119 t1 dX6_put_1 ?_
  refine z_br (lv_if_lt (tgt := 39) hx hb dX6_put_4 (by decide)) h (fun h => ?_) (fun h => ?_)
  · obtain rfl := Option.some.inj h
    exact z_rv hx hb hr hlk hW hS (Nat.le_of_ble_eq_true rfl) (Nat.le_of_ble_eq_true rfl) dX6_put_39
  · refine lv_aload_n hx hb dX6_put_7 rfl (lv_at hl 0 rfl) ?_
    refine z_gI hx hb hq hown hK hW fs_RX6_119 t1 dX6_put_8 ?_
    refine lv_aload_n hx hb dX6_put_11 rfl (lv_at hl 0 rfl) ?_
    obtain ⟨b2, hb2, h⟩ := zd_at h
    refine z_gR hx hb hq hown hK hW fs_RX6_18 t1 hb2 dX6_put_12 ?_
    obtain ⟨t3, h⟩ := zc_at h
    refine z_len hx hb hK hW (Or.inl (List.mem_singleton.mp t3)) dX6_put_15 ?_
    refine z_br (lv_icmp_ge (tgt := 39) hx hb dX6_put_16 (by decide)) h (fun h => ?_) (fun h => ?_)
    · obtain rfl := Option.some.inj h
      exact z_rv hx hb hr hlk hW hS (Nat.le_of_ble_eq_true rfl) (Nat.le_of_ble_eq_true rfl) dX6_put_39
    · refine lv_aload_n hx hb dX6_put_19 rfl (lv_at hl 0 rfl) ?_
      refine z_gR hx hb hq hown hK hW fs_RX6_18 t1 hb2 dX6_put_20 ?_
      refine lv_aload_n hx hb dX6_put_23 rfl (lv_at hl 0 rfl) ?_
      refine z_gI hx hb hq hown hK hW fs_RX6_119 t1 dX6_put_24 ?_
      refine lv_iload_n hx hb dX6_put_27 rfl (lv_at hl 1 rfl) ?_
      obtain ⟨t4, h⟩ := zc_at h
      refine z_asI hx hb hK hW hS (List.mem_singleton.mp t3) t4 dX6_put_28 (fun H locs hW hS => ?_)
      refine lv_aload_n hx hb dX6_put_29 rfl (lv_at hl 0 rfl) ?_
      refine lv_dup hx hb dX6_put_30 rfl ?_
      refine z_gI hx hb hq hown hK hW fs_RX6_119 t1 dX6_put_31 ?_
      refine lv_iconst (v := (nI 1)) hx hb dX6_put_34 (by decide) ?_
      refine lv_iadd hx hb dX6_put_35 ?_
      refine z_pI hx hb hq hown hK hW hS fp_RX6_119 t1 (fun h => by cases h) rfl rfl dX6_put_36 (fun H locs hW hS => ?_)
      obtain rfl := Option.some.inj h
      exact z_rv hx hb hr hlk hW hS (Nat.le_of_ble_eq_true rfl) (Nat.le_of_ble_eq_true rfl) dX6_put_39
def f_X6_either_12 (rec_ : Nat → zS → Nat → Nat → Int32 → Int32 → Option (zS × Int32)) (N : Nat) (o : Nat) (a1 : Nat) (a2 : Int32) (a3 : Int32)  : Nat → zS → Int32 → Int32 → Option (zS × Int32)
  | 0, _, _, _ => none
  | n12 + 1, st, x4, x5 => (if (nI 100) ≤ x5 then (some (st, x4)) else (if zTg st a1 ∈ [15] then (Option.bind (f_X5_get st a1 x4) (fun r7 => (if r7 = (nI 124) then (if zTg st o ∈ [16] then (zb (rec_ 1 st o a1 (x4 + (nI 1)) a3) (fun st10 r11 => (if zTg st10 o ∈ [16] then (Option.bind (f_X6_put st10 o (nI 2002)) (fun st14 => ((f_X6_either_12 rec_ N o a1 a2 a3 n12) st14 r11 (x5 + (nI 1))))) else none))) else none) else (some (st, x4))))) else none))
def f_X6_either (rec_ : Nat → zS → Nat → Nat → Int32 → Int32 → Option (zS × Int32)) (N : Nat) (st : zS) (o : Nat) (a1 : Nat) (a2 : Int32) (a3 : Int32) : Option (zS × Int32) := (if zTg st o ∈ [16] then (zb (rec_ 1 st o a1 a2 a3) (fun st3 r4 => (f_X6_either_12 rec_ N o a1 a2 a3 N st3 r4 (nI 0)))) else none)
set_option maxHeartbeats 1000000 in
set_option maxRecDepth 100000 in
theorem c_X6_either (l : Launch) (G : zG) (D dB : Nat) (hdB : 1 ≤ dB) (rec_ : Nat → zS → Nat → Nat → Int32 → Int32 → Option (zS × Int32)) (hr0 : ∀ (st : zS) (o : Nat) (b0 : Nat) (b1 : Int32) (b2 : Int32) (st' : zS) (r : Int32), rec_ 0 st o b0 b1 b2 = some (st', r) → zMet l G yX6_either cX6_either 6 (some .int) (dB + D) 0 0 [.ref (G.2.2.2 + o), .ref (G.2.2.2 + b0), .int b1, .int b2] st (some (.int r)) st') (hr1 : ∀ (st : zS) (o : Nat) (b0 : Nat) (b1 : Int32) (b2 : Int32) (st' : zS) (r : Int32), rec_ 1 st o b0 b1 b2 = some (st', r) → zMet l G yX6_both cX6_both 6 (some .int) (dB + D) 0 0 [.ref (G.2.2.2 + o), .ref (G.2.2.2 + b0), .int b1, .int b2] st (some (.int r)) st') (hr2 : ∀ (st : zS) (o : Nat) (b0 : Nat) (b1 : Int32) (b2 : Int32) (st' : zS) (r : Int32), rec_ 2 st o b0 b1 b2 = some (st', r) → zMet l G yX6_single cX6_single 6 (some .int) (dB + D) 0 0 [.ref (G.2.2.2 + o), .ref (G.2.2.2 + b0), .int b1, .int b2] st (some (.int r)) st') (N : Nat) (st : zS) (o : Nat) (a1 : Nat) (a2 : Int32) (a3 : Int32) {st' : zS} {r : Int32} (h : f_X6_either rec_ N st o a1 a2 a3 = some (st', r)) : zMet l G yX6_either cX6_either 6 (some .int) (dB + (D + 1)) 0 0 [.ref (G.2.2.2 + o), .ref (G.2.2.2 + a1), .int a2, .int a3] st (some (.int r)) st' := by
  refine zMet_of (by decide +kernel) ?_
  intro p e s m args below meth c X
  obtain ⟨hx, hb, hr, hml, hown, hq, hlk, hK, -, hin, hW, hS⟩ := X
  have hown : s.vm.findClass RX6 = some m.cls := hown
  refine z_ent (by exact Nat.le_of_ble_eq_true rfl) (fun ls hl => ?_)
  have hl : lv_has ls 6 [(0, .ref (G.2.2.2 + o)), (1, .ref (G.2.2.2 + a1)), (2, .int a2), (3, .int a3)] := hl
  unfold f_X6_either at h
  have B12 : ∀ (n12 : Nat) (st : zS) (x4 : Int32) (x5 : Int32) (H : Heap) (locs : List Loc) (ls : Array Slot), f_X6_either_12 rec_ N o a1 a2 a3 n12 st x4 x5 = some (st', r) → zWd G st H → va_S (zA G) s.heap H locs → lv_has ls 6 [(0, .ref (G.2.2.2 + o)), (1, .ref (G.2.2.2 + a1)), (3, .int a3), (4, .int x4), (5, .int x5)] → W p l e (zRm (dB + (D + 1)) 0 0) s m args below meth c H locs 0 0 (MQ below (zQ G (some (.int r)) st') args s 0 0 (zA G)) (F0 m 12 ls []) := by
    intro n12
    induction n12 with
    | zero =>
      intro st x4 x5 H locs ls h
      unfold f_X6_either_12 at h
      cases h
    | succ n12 ih12 =>
      intro st x4 x5 H locs ls h hW hS hl
      unfold f_X6_either_12 at h
      refine lv_iload hx hb dX6_either_12 (lv_at hl 4 rfl) ?_
      refine lv_bipush (v := (nI 100)) hx hb dX6_either_14 (by decide) ?_
      refine z_br (lv_icmp_ge (tgt := 55) hx hb dX6_either_16 (by decide)) h (fun h => ?_) (fun h => ?_)
      · refine lv_iload hx hb dX6_either_55 (lv_at hl 3 rfl) ?_
        obtain ⟨rfl, rfl⟩ := Prod.mk.inj (Option.some.inj h)
        exact z_ri hx hb hr hlk hW hS (Nat.le_of_ble_eq_true rfl) (Nat.le_of_ble_eq_true rfl) dX6_either_57
      · refine lv_aload_n hx hb dX6_either_19 rfl (lv_at hl 1 rfl) ?_
        refine lv_iload hx hb dX6_either_20 (lv_at hl 3 rfl) ?_
        obtain ⟨t5, h⟩ := zc_at h
        obtain ⟨r7, c6, h⟩ := zd_at h
        refine z_cV hx hb hq hml hown hK hW hS 5 [.int x4] [] rfl (List.mem_singleton.mp t5) (c_X5_get l G st a1 x4 c6) (zi zm108) (zi zm109) (zi zm110) (zi zm32) (zi zm111) cal_X5_get rfl rfl hl.1 rfl (Nat.le_of_ble_eq_true rfl) (zR_ok (by omega) (by decide)) ⟨(Nat.le_of_ble_eq_true rfl), (Nat.le_of_ble_eq_true rfl)⟩ dX6_either_22 (fun H locs hW hS => ?_)
        refine W.eq (g2 := F0 m 25 ls [.int r7]) rfl ?_
        refine lv_bipush (v := (nI 124)) hx hb dX6_either_25 (by decide) ?_
        refine z_brn (lv_icmp_ne (tgt := 55) hx hb dX6_either_27 (by decide)) h (fun h => ?_) (fun h => ?_)
        · refine lv_iload hx hb dX6_either_55 (lv_at hl 3 rfl) ?_
          obtain ⟨rfl, rfl⟩ := Prod.mk.inj (Option.some.inj h)
          exact z_ri hx hb hr hlk hW hS (Nat.le_of_ble_eq_true rfl) (Nat.le_of_ble_eq_true rfl) dX6_either_57
        · refine lv_aload_n hx hb dX6_either_30 rfl (lv_at hl 0 rfl) ?_
          refine lv_aload_n hx hb dX6_either_31 rfl (lv_at hl 1 rfl) ?_
          refine lv_iload hx hb dX6_either_32 (lv_at hl 3 rfl) ?_
          refine lv_iconst (v := (nI 1)) hx hb dX6_either_34 (by decide) ?_
          refine lv_iadd hx hb dX6_either_35 ?_
          refine lv_iload_n hx hb dX6_either_36 rfl (lv_at hl 2 rfl) ?_
          obtain ⟨t8, h⟩ := zc_at h
          obtain ⟨st10, r11, c9, h⟩ := zb_at h
          refine z_cV hx hb hq hml hown hK hW hS 6 [.ref (G.2.2.2 + a1), .int ((x4 + (nI 1))), .int a3] [] rfl (List.mem_singleton.mp t8) (hr1 st o a1 (x4 + (nI 1)) a3 _ _ c9) (zi zm196) (zi zm197) (zi zm198) (zi zm28) (zi zm204) cal_X6_both rfl rfl hl.1 rfl (Nat.le_of_ble_eq_true rfl) (zR_ok (by omega) (by decide)) ⟨(Nat.le_of_ble_eq_true rfl), (Nat.le_of_ble_eq_true rfl)⟩ dX6_either_37 (fun H locs hW hS => ?_)
          refine W.eq (g2 := F0 m 40 ls [.int r11]) rfl ?_
          refine lv_istore (lv' := [(4, .int r11), (0, .ref (G.2.2.2 + o)), (1, .ref (G.2.2.2 + a1)), (3, .int a3), (5, .int x5)]) hx hb dX6_either_40 hl (by decide) rfl (fun ls hl => ?_)
          refine lv_aload_n hx hb dX6_either_42 rfl (lv_at hl 1 rfl) ?_
          refine lv_sipush (v := (nI 2002)) hx hb dX6_either_43 (by decide) ?_
          obtain ⟨t12, h⟩ := zc_at h
          obtain ⟨st14, c13, h⟩ := zd_at h
          refine z_cV hx hb hq hml hown hK hW hS 6 [.int ((nI 2002))] [] rfl (List.mem_singleton.mp t12) (c_X6_put l G st10 o (nI 2002) c13) (zi zm199) (zi zm200) (zi zm201) (zi zm28) (zi zm202) cal_X6_put rfl rfl hl.1 rfl (Nat.le_of_ble_eq_true rfl) (zR_ok (by omega) (by decide)) ⟨(Nat.le_of_ble_eq_true rfl), (Nat.le_of_ble_eq_true rfl)⟩ dX6_either_46 (fun H locs hW hS => ?_)
          refine W.eq (g2 := F0 m 49 ls []) rfl ?_
          refine lv_iinc (v := (x5 + (nI 1))) (lv' := [(5, .int ((x5 + (nI 1)))), (4, .int r11), (0, .ref (G.2.2.2 + o)), (1, .ref (G.2.2.2 + a1)), (3, .int a3)]) hx hb dX6_either_49 hl (k := 4) rfl rfl (by decide) rfl (fun ls hl => ?_)
          refine lv_goto (tgt := 12) hx hb dX6_either_52 (by decide) ?_
          exact ih12 st14 r11 (x5 + (nI 1)) _ _ _ h hW hS (lv_sub hl [2, 3, 4, 1, 0] rfl)
  refine lv_aload_n hx hb dX6_either_0 rfl (lv_at hl 0 rfl) ?_
  refine lv_aload_n hx hb dX6_either_1 rfl (lv_at hl 1 rfl) ?_
  refine lv_iload_n hx hb dX6_either_2 rfl (lv_at hl 2 rfl) ?_
  refine lv_iload_n hx hb dX6_either_3 rfl (lv_at hl 3 rfl) ?_
  obtain ⟨t1, h⟩ := zc_at h
  obtain ⟨st3, r4, c2, h⟩ := zb_at h
  refine z_cV hx hb hq hml hown hK hW hS 6 [.ref (G.2.2.2 + a1), .int a2, .int a3] [] rfl (List.mem_singleton.mp t1) (hr1 st o a1 a2 a3 _ _ c2) (zi zm196) (zi zm197) (zi zm198) (zi zm28) (zi zm204) cal_X6_both rfl rfl hl.1 rfl (Nat.le_of_ble_eq_true rfl) (zR_ok (by omega) (by decide)) ⟨(Nat.le_of_ble_eq_true rfl), (Nat.le_of_ble_eq_true rfl)⟩ dX6_either_4 (fun H locs hW hS => ?_)
  refine W.eq (g2 := F0 m 7 ls [.int r4]) rfl ?_
  refine lv_istore (lv' := [(4, .int r4), (0, .ref (G.2.2.2 + o)), (1, .ref (G.2.2.2 + a1)), (2, .int a2), (3, .int a3)]) hx hb dX6_either_7 hl (by decide) rfl (fun ls hl => ?_)
  refine lv_iconst (v := (nI 0)) hx hb dX6_either_9 (by decide) ?_
  refine lv_istore (lv' := [(5, .int ((nI 0))), (4, .int r4), (0, .ref (G.2.2.2 + o)), (1, .ref (G.2.2.2 + a1)), (2, .int a2), (3, .int a3)]) hx hb dX6_either_10 hl (by decide) rfl (fun ls hl => ?_)
  exact B12 N st3 r4 (nI 0) _ _ _ h hW hS (lv_sub hl [2, 3, 5, 1, 0] rfl)
def f_X6_both_12 (rec_ : Nat → zS → Nat → Nat → Int32 → Int32 → Option (zS × Int32)) (N : Nat) (o : Nat) (a1 : Nat) (a2 : Int32) (a3 : Int32)  : Nat → zS → Int32 → Int32 → Option (zS × Int32)
  | 0, _, _, _ => none
  | n12 + 1, st, x4, x5 => (if (nI 100) ≤ x5 then (some (st, x4)) else (if zTg st a1 ∈ [15] then (Option.bind (f_X5_get st a1 x4) (fun r7 => (if r7 = (nI 38) then (if zTg st o ∈ [16] then (zb (rec_ 2 st o a1 (x4 + (nI 1)) a3) (fun st10 r11 => (if zTg st10 o ∈ [16] then (Option.bind (f_X6_put st10 o (nI 2001)) (fun st14 => ((f_X6_both_12 rec_ N o a1 a2 a3 n12) st14 r11 (x5 + (nI 1))))) else none))) else none) else (some (st, x4))))) else none))
def f_X6_both (rec_ : Nat → zS → Nat → Nat → Int32 → Int32 → Option (zS × Int32)) (N : Nat) (st : zS) (o : Nat) (a1 : Nat) (a2 : Int32) (a3 : Int32) : Option (zS × Int32) := (if zTg st o ∈ [16] then (zb (rec_ 2 st o a1 a2 a3) (fun st3 r4 => (f_X6_both_12 rec_ N o a1 a2 a3 N st3 r4 (nI 0)))) else none)
set_option maxHeartbeats 1000000 in
set_option maxRecDepth 100000 in
theorem c_X6_both (l : Launch) (G : zG) (D dB : Nat) (hdB : 1 ≤ dB) (rec_ : Nat → zS → Nat → Nat → Int32 → Int32 → Option (zS × Int32)) (hr0 : ∀ (st : zS) (o : Nat) (b0 : Nat) (b1 : Int32) (b2 : Int32) (st' : zS) (r : Int32), rec_ 0 st o b0 b1 b2 = some (st', r) → zMet l G yX6_either cX6_either 6 (some .int) (dB + D) 0 0 [.ref (G.2.2.2 + o), .ref (G.2.2.2 + b0), .int b1, .int b2] st (some (.int r)) st') (hr1 : ∀ (st : zS) (o : Nat) (b0 : Nat) (b1 : Int32) (b2 : Int32) (st' : zS) (r : Int32), rec_ 1 st o b0 b1 b2 = some (st', r) → zMet l G yX6_both cX6_both 6 (some .int) (dB + D) 0 0 [.ref (G.2.2.2 + o), .ref (G.2.2.2 + b0), .int b1, .int b2] st (some (.int r)) st') (hr2 : ∀ (st : zS) (o : Nat) (b0 : Nat) (b1 : Int32) (b2 : Int32) (st' : zS) (r : Int32), rec_ 2 st o b0 b1 b2 = some (st', r) → zMet l G yX6_single cX6_single 6 (some .int) (dB + D) 0 0 [.ref (G.2.2.2 + o), .ref (G.2.2.2 + b0), .int b1, .int b2] st (some (.int r)) st') (N : Nat) (st : zS) (o : Nat) (a1 : Nat) (a2 : Int32) (a3 : Int32) {st' : zS} {r : Int32} (h : f_X6_both rec_ N st o a1 a2 a3 = some (st', r)) : zMet l G yX6_both cX6_both 6 (some .int) (dB + (D + 1)) 0 0 [.ref (G.2.2.2 + o), .ref (G.2.2.2 + a1), .int a2, .int a3] st (some (.int r)) st' := by
  refine zMet_of (by decide +kernel) ?_
  intro p e s m args below meth c X
  obtain ⟨hx, hb, hr, hml, hown, hq, hlk, hK, -, hin, hW, hS⟩ := X
  have hown : s.vm.findClass RX6 = some m.cls := hown
  refine z_ent (by exact Nat.le_of_ble_eq_true rfl) (fun ls hl => ?_)
  have hl : lv_has ls 6 [(0, .ref (G.2.2.2 + o)), (1, .ref (G.2.2.2 + a1)), (2, .int a2), (3, .int a3)] := hl
  unfold f_X6_both at h
  have B12 : ∀ (n12 : Nat) (st : zS) (x4 : Int32) (x5 : Int32) (H : Heap) (locs : List Loc) (ls : Array Slot), f_X6_both_12 rec_ N o a1 a2 a3 n12 st x4 x5 = some (st', r) → zWd G st H → va_S (zA G) s.heap H locs → lv_has ls 6 [(0, .ref (G.2.2.2 + o)), (1, .ref (G.2.2.2 + a1)), (3, .int a3), (4, .int x4), (5, .int x5)] → W p l e (zRm (dB + (D + 1)) 0 0) s m args below meth c H locs 0 0 (MQ below (zQ G (some (.int r)) st') args s 0 0 (zA G)) (F0 m 12 ls []) := by
    intro n12
    induction n12 with
    | zero =>
      intro st x4 x5 H locs ls h
      unfold f_X6_both_12 at h
      cases h
    | succ n12 ih12 =>
      intro st x4 x5 H locs ls h hW hS hl
      unfold f_X6_both_12 at h
      refine lv_iload hx hb dX6_both_12 (lv_at hl 4 rfl) ?_
      refine lv_bipush (v := (nI 100)) hx hb dX6_both_14 (by decide) ?_
      refine z_br (lv_icmp_ge (tgt := 55) hx hb dX6_both_16 (by decide)) h (fun h => ?_) (fun h => ?_)
      · refine lv_iload hx hb dX6_both_55 (lv_at hl 3 rfl) ?_
        obtain ⟨rfl, rfl⟩ := Prod.mk.inj (Option.some.inj h)
        exact z_ri hx hb hr hlk hW hS (Nat.le_of_ble_eq_true rfl) (Nat.le_of_ble_eq_true rfl) dX6_both_57
      · refine lv_aload_n hx hb dX6_both_19 rfl (lv_at hl 1 rfl) ?_
        refine lv_iload hx hb dX6_both_20 (lv_at hl 3 rfl) ?_
        obtain ⟨t5, h⟩ := zc_at h
        obtain ⟨r7, c6, h⟩ := zd_at h
        refine z_cV hx hb hq hml hown hK hW hS 5 [.int x4] [] rfl (List.mem_singleton.mp t5) (c_X5_get l G st a1 x4 c6) (zi zm108) (zi zm109) (zi zm110) (zi zm32) (zi zm111) cal_X5_get rfl rfl hl.1 rfl (Nat.le_of_ble_eq_true rfl) (zR_ok (by omega) (by decide)) ⟨(Nat.le_of_ble_eq_true rfl), (Nat.le_of_ble_eq_true rfl)⟩ dX6_both_22 (fun H locs hW hS => ?_)
        refine W.eq (g2 := F0 m 25 ls [.int r7]) rfl ?_
        refine lv_bipush (v := (nI 38)) hx hb dX6_both_25 (by decide) ?_
        refine z_brn (lv_icmp_ne (tgt := 55) hx hb dX6_both_27 (by decide)) h (fun h => ?_) (fun h => ?_)
        · refine lv_iload hx hb dX6_both_55 (lv_at hl 3 rfl) ?_
          obtain ⟨rfl, rfl⟩ := Prod.mk.inj (Option.some.inj h)
          exact z_ri hx hb hr hlk hW hS (Nat.le_of_ble_eq_true rfl) (Nat.le_of_ble_eq_true rfl) dX6_both_57
        · refine lv_aload_n hx hb dX6_both_30 rfl (lv_at hl 0 rfl) ?_
          refine lv_aload_n hx hb dX6_both_31 rfl (lv_at hl 1 rfl) ?_
          refine lv_iload hx hb dX6_both_32 (lv_at hl 3 rfl) ?_
          refine lv_iconst (v := (nI 1)) hx hb dX6_both_34 (by decide) ?_
          refine lv_iadd hx hb dX6_both_35 ?_
          refine lv_iload_n hx hb dX6_both_36 rfl (lv_at hl 2 rfl) ?_
          obtain ⟨t8, h⟩ := zc_at h
          obtain ⟨st10, r11, c9, h⟩ := zb_at h
          refine z_cV hx hb hq hml hown hK hW hS 6 [.ref (G.2.2.2 + a1), .int ((x4 + (nI 1))), .int a3] [] rfl (List.mem_singleton.mp t8) (hr2 st o a1 (x4 + (nI 1)) a3 _ _ c9) (zi zm205) (zi zm206) (zi zm207) (zi zm28) (zi zm208) cal_X6_single rfl rfl hl.1 rfl (Nat.le_of_ble_eq_true rfl) (zR_ok (by omega) (by decide)) ⟨(Nat.le_of_ble_eq_true rfl), (Nat.le_of_ble_eq_true rfl)⟩ dX6_both_37 (fun H locs hW hS => ?_)
          refine W.eq (g2 := F0 m 40 ls [.int r11]) rfl ?_
          refine lv_istore (lv' := [(4, .int r11), (0, .ref (G.2.2.2 + o)), (1, .ref (G.2.2.2 + a1)), (3, .int a3), (5, .int x5)]) hx hb dX6_both_40 hl (by decide) rfl (fun ls hl => ?_)
          refine lv_aload_n hx hb dX6_both_42 rfl (lv_at hl 1 rfl) ?_
          refine lv_sipush (v := (nI 2001)) hx hb dX6_both_43 (by decide) ?_
          obtain ⟨t12, h⟩ := zc_at h
          obtain ⟨st14, c13, h⟩ := zd_at h
          refine z_cV hx hb hq hml hown hK hW hS 6 [.int ((nI 2001))] [] rfl (List.mem_singleton.mp t12) (c_X6_put l G st10 o (nI 2001) c13) (zi zm199) (zi zm200) (zi zm201) (zi zm28) (zi zm202) cal_X6_put rfl rfl hl.1 rfl (Nat.le_of_ble_eq_true rfl) (zR_ok (by omega) (by decide)) ⟨(Nat.le_of_ble_eq_true rfl), (Nat.le_of_ble_eq_true rfl)⟩ dX6_both_46 (fun H locs hW hS => ?_)
          refine W.eq (g2 := F0 m 49 ls []) rfl ?_
          refine lv_iinc (v := (x5 + (nI 1))) (lv' := [(5, .int ((x5 + (nI 1)))), (4, .int r11), (0, .ref (G.2.2.2 + o)), (1, .ref (G.2.2.2 + a1)), (3, .int a3)]) hx hb dX6_both_49 hl (k := 4) rfl rfl (by decide) rfl (fun ls hl => ?_)
          refine lv_goto (tgt := 12) hx hb dX6_both_52 (by decide) ?_
          exact ih12 st14 r11 (x5 + (nI 1)) _ _ _ h hW hS (lv_sub hl [2, 3, 4, 1, 0] rfl)
  refine lv_aload_n hx hb dX6_both_0 rfl (lv_at hl 0 rfl) ?_
  refine lv_aload_n hx hb dX6_both_1 rfl (lv_at hl 1 rfl) ?_
  refine lv_iload_n hx hb dX6_both_2 rfl (lv_at hl 2 rfl) ?_
  refine lv_iload_n hx hb dX6_both_3 rfl (lv_at hl 3 rfl) ?_
  obtain ⟨t1, h⟩ := zc_at h
  obtain ⟨st3, r4, c2, h⟩ := zb_at h
  refine z_cV hx hb hq hml hown hK hW hS 6 [.ref (G.2.2.2 + a1), .int a2, .int a3] [] rfl (List.mem_singleton.mp t1) (hr2 st o a1 a2 a3 _ _ c2) (zi zm205) (zi zm206) (zi zm207) (zi zm28) (zi zm208) cal_X6_single rfl rfl hl.1 rfl (Nat.le_of_ble_eq_true rfl) (zR_ok (by omega) (by decide)) ⟨(Nat.le_of_ble_eq_true rfl), (Nat.le_of_ble_eq_true rfl)⟩ dX6_both_4 (fun H locs hW hS => ?_)
  refine W.eq (g2 := F0 m 7 ls [.int r4]) rfl ?_
  refine lv_istore (lv' := [(4, .int r4), (0, .ref (G.2.2.2 + o)), (1, .ref (G.2.2.2 + a1)), (2, .int a2), (3, .int a3)]) hx hb dX6_both_7 hl (by decide) rfl (fun ls hl => ?_)
  refine lv_iconst (v := (nI 0)) hx hb dX6_both_9 (by decide) ?_
  refine lv_istore (lv' := [(5, .int ((nI 0))), (4, .int r4), (0, .ref (G.2.2.2 + o)), (1, .ref (G.2.2.2 + a1)), (2, .int a2), (3, .int a3)]) hx hb dX6_both_10 hl (by decide) rfl (fun ls hl => ?_)
  exact B12 N st3 r4 (nI 0) _ _ _ h hW hS (lv_sub hl [2, 3, 5, 1, 0] rfl)
def f_J1_canEncode_9a6ad (a0 : Int32) : Option Int32 := (if a0 < 0 then (some (nI 0)) else (if (nI 255) < a0 then (some (nI 0)) else (some (nI 1))))
set_option maxHeartbeats 1000000 in
set_option maxRecDepth 100000 in
theorem c_J1_canEncode_9a6ad (l : Launch) (G : zG) (st : zS) (a0 : Int32) {r : Int32} (h : f_J1_canEncode_9a6ad a0 = some r) : zMet l G yJ1_canEncode_9a6ad cJ1_canEncode_9a6ad 1 (some .boolean) 0 0 0 [.int a0] st (some (.int r)) st := by
  refine zMet_of (by decide +kernel) ?_
  intro p e s m args below meth c X
  obtain ⟨hx, hb, hr, hml, hown, hq, hlk, hK, -, hin, hW, hS⟩ := X
  have hown : s.vm.findClass RJ1 = some m.cls := hown
  refine z_ent (by exact Nat.le_of_ble_eq_true rfl) (fun ls hl => ?_)
  have hl : lv_has ls 1 [(0, .int a0)] := hl
  unfold f_J1_canEncode_9a6ad at h
  refine lv_iload_n hx hb dJ1_canEncode_9a6ad_0 rfl (lv_at hl 0 rfl) ?_
  refine z_br (lv_if_lt (tgt := 15) hx hb dJ1_canEncode_9a6ad_1 (by decide)) h (fun h => ?_) (fun h => ?_)
  · refine lv_iconst (v := (nI 0)) hx hb dJ1_canEncode_9a6ad_15 (by decide) ?_
    obtain rfl := Option.some.inj h
    exact z_rz hx hb hr hlk rfl hW hS (Nat.le_of_ble_eq_true rfl) (Nat.le_of_ble_eq_true rfl) dJ1_canEncode_9a6ad_16
  · refine lv_iload_n hx hb dJ1_canEncode_9a6ad_4 rfl (lv_at hl 0 rfl) ?_
    refine lv_sipush (v := (nI 255)) hx hb dJ1_canEncode_9a6ad_5 (by decide) ?_
    refine z_br (lv_icmp_gt (tgt := 15) hx hb dJ1_canEncode_9a6ad_8 (by decide)) h (fun h => ?_) (fun h => ?_)
    · refine lv_iconst (v := (nI 0)) hx hb dJ1_canEncode_9a6ad_15 (by decide) ?_
      obtain rfl := Option.some.inj h
      exact z_rz hx hb hr hlk rfl hW hS (Nat.le_of_ble_eq_true rfl) (Nat.le_of_ble_eq_true rfl) dJ1_canEncode_9a6ad_16
    · refine lv_iconst (v := (nI 1)) hx hb dJ1_canEncode_9a6ad_11 (by decide) ?_
      refine lv_goto (tgt := 16) hx hb dJ1_canEncode_9a6ad_12 (by decide) ?_
      obtain rfl := Option.some.inj h
      exact z_rz hx hb hr hlk rfl hW hS (Nat.le_of_ble_eq_true rfl) (Nat.le_of_ble_eq_true rfl) dJ1_canEncode_9a6ad_16
def f_J1_indexOfChar_4cfef_7 (N : Nat) (a0 : Nat) (a1 : Int32) (a2 : Int32) (a3 : Int32)  : Nat → Int32 → Int32 → Option Int32
  | 0, _, _ => none
  | n7 + 1, x4, x5 => (if a3 ≤ x5 then (some (-1 : Int32)) else (if a0 < zsN then (if zin x5 (zsl a0) then (if ((zsb a0).getD (x5).toNatClampNeg 0) = x4 then (some x5) else ((f_J1_indexOfChar_4cfef_7 N a0 a1 a2 a3 n7) x4 (x5 + (nI 1)))) else none) else none))
def f_J1_indexOfChar_4cfef (N : Nat) (a0 : Nat) (a1 : Int32) (a2 : Int32) (a3 : Int32) : Option Int32 := (zl (a1).toInt8.toInt32 (fun v1 => (f_J1_indexOfChar_4cfef_7 N a0 a1 a2 a3 N v1 a2)))
set_option maxHeartbeats 1000000 in
set_option maxRecDepth 100000 in
theorem c_J1_indexOfChar_4cfef (l : Launch) (G : zG) (N : Nat) (st : zS) (a0 : Nat) (a1 : Int32) (a2 : Int32) (a3 : Int32) {r : Int32} (h : f_J1_indexOfChar_4cfef N a0 a1 a2 a3 = some r) : zMet l G yJ1_indexOfChar_4cfef cJ1_indexOfChar_4cfef 6 (some .int) 0 0 0 [.ref (G.2.2.1.2 (a0)), .int a1, .int a2, .int a3] st (some (.int r)) st := by
  refine zMet_of (by decide +kernel) ?_
  intro p e s m args below meth c X
  obtain ⟨hx, hb, hr, hml, hown, hq, hlk, hK, -, hin, hW, hS⟩ := X
  have hown : s.vm.findClass RJ1 = some m.cls := hown
  refine z_ent (by exact Nat.le_of_ble_eq_true rfl) (fun ls hl => ?_)
  have hl : lv_has ls 6 [(0, .ref (G.2.2.1.2 (a0))), (1, .int a1), (2, .int a2), (3, .int a3)] := hl
  unfold f_J1_indexOfChar_4cfef at h
  have B7 : ∀ (n7 : Nat) (x4 : Int32) (x5 : Int32) (H : Heap) (locs : List Loc) (ls : Array Slot), f_J1_indexOfChar_4cfef_7 N a0 a1 a2 a3 n7 x4 x5 = some r → zWd G st H → va_S (zA G) s.heap H locs → lv_has ls 6 [(0, .ref (G.2.2.1.2 (a0))), (3, .int a3), (4, .int x4), (5, .int x5)] → W p l e (zRm 0 0 0) s m args below meth c H locs 0 0 (MQ below (zQ G (some (.int r)) st) args s 0 0 (zA G)) (F0 m 7 ls []) := by
    intro n7
    induction n7 with
    | zero =>
      intro x4 x5 H locs ls h
      unfold f_J1_indexOfChar_4cfef_7 at h
      cases h
    | succ n7 ih7 =>
      intro x4 x5 H locs ls h hW hS hl
      unfold f_J1_indexOfChar_4cfef_7 at h
      refine lv_iload hx hb dJ1_indexOfChar_4cfef_7 (lv_at hl 3 rfl) ?_
      refine lv_iload_n hx hb dJ1_indexOfChar_4cfef_9 rfl (lv_at hl 1 rfl) ?_
      refine z_br (lv_icmp_ge (tgt := 31) hx hb dJ1_indexOfChar_4cfef_10 (by decide)) h (fun h => ?_) (fun h => ?_)
      · refine lv_iconst (v := (-1)) hx hb dJ1_indexOfChar_4cfef_31 (by decide) ?_
        obtain rfl := Option.some.inj h
        exact z_ri hx hb hr hlk hW hS (Nat.le_of_ble_eq_true rfl) (Nat.le_of_ble_eq_true rfl) dJ1_indexOfChar_4cfef_32
      · refine lv_aload_n hx hb dJ1_indexOfChar_4cfef_13 rfl (lv_at hl 0 rfl) ?_
        refine lv_iload hx hb dJ1_indexOfChar_4cfef_14 (lv_at hl 3 rfl) ?_
        obtain ⟨t2, h⟩ := zc_at h
        obtain ⟨t3, h⟩ := zc_at h
        refine z_sald hx hb hK hS t2 t3 dJ1_indexOfChar_4cfef_16 ?_
        refine lv_iload hx hb dJ1_indexOfChar_4cfef_17 (lv_at hl 2 rfl) ?_
        refine z_brn (lv_icmp_ne (tgt := 25) hx hb dJ1_indexOfChar_4cfef_19 (by decide)) h (fun h => ?_) (fun h => ?_)
        · refine lv_iinc (v := (x5 + (nI 1))) (lv' := [(5, .int ((x5 + (nI 1)))), (0, .ref (G.2.2.1.2 (a0))), (3, .int a3), (4, .int x4)]) hx hb dJ1_indexOfChar_4cfef_25 hl (k := 3) rfl rfl (by decide) rfl (fun ls hl => ?_)
          refine lv_goto (tgt := 7) hx hb dJ1_indexOfChar_4cfef_28 (by decide) ?_
          exact ih7 x4 (x5 + (nI 1)) _ _ _ h hW hS (lv_sub hl [1, 2, 3, 0] rfl)
        · refine lv_iload hx hb dJ1_indexOfChar_4cfef_22 (lv_at hl 3 rfl) ?_
          obtain rfl := Option.some.inj h
          exact z_ri hx hb hr hlk hW hS (Nat.le_of_ble_eq_true rfl) (Nat.le_of_ble_eq_true rfl) dJ1_indexOfChar_4cfef_24
  refine lv_iload_n hx hb dJ1_indexOfChar_4cfef_0 rfl (lv_at hl 1 rfl) ?_
  refine lv_i2b hx hb dJ1_indexOfChar_4cfef_1 rfl ?_
  refine lv_topi (fun v1 ev1 => ?_)
  have h := zl_at ev1 h
  refine lv_istore (lv' := [(4, .int v1), (0, .ref (G.2.2.1.2 (a0))), (1, .int a1), (2, .int a2), (3, .int a3)]) hx hb dJ1_indexOfChar_4cfef_2 hl (by decide) rfl (fun ls hl => ?_)
  refine lv_iload_n hx hb dJ1_indexOfChar_4cfef_4 rfl (lv_at hl 3 rfl) ?_
  refine lv_istore (lv' := [(5, .int a2), (4, .int v1), (0, .ref (G.2.2.1.2 (a0))), (1, .int a1), (2, .int a2), (3, .int a3)]) hx hb dJ1_indexOfChar_4cfef_5 hl (by decide) rfl (fun ls hl => ?_)
  exact B7 N v1 a2 _ _ _ h hW hS (lv_sub hl [2, 5, 1, 0] rfl)
def f_J1_indexOf_4cfef (N : Nat) (a0 : Nat) (a1 : Int32) (a2 : Int32) (a3 : Int32) : Option Int32 := (Option.bind (f_J1_canEncode_9a6ad a1) (fun r2 => (if r2 = 0 then (some (-1 : Int32)) else (zl (if a2 < (nI 0) then (nI 0) else a2) (fun v3 => (if a0 < zsN then (zl (if (nI (zsl a0)) < a3 then (nI (zsl a0)) else a3) (fun v5 => (if v3 < v5 then (Option.bind (f_J1_indexOfChar_4cfef N a0 a1 v3 v5) (fun r7 => (some r7))) else (some (-1 : Int32))))) else none))))))
set_option maxHeartbeats 1000000 in
set_option maxRecDepth 100000 in
theorem c_J1_indexOf_4cfef (l : Launch) (G : zG) (N : Nat) (st : zS) (a0 : Nat) (a1 : Int32) (a2 : Int32) (a3 : Int32) {r : Int32} (h : f_J1_indexOf_4cfef N a0 a1 a2 a3 = some r) : zMet l G yJ1_indexOf_4cfef cJ1_indexOf_4cfef 4 (some .int) 1 0 0 [.ref (G.2.2.1.2 (a0)), .int a1, .int a2, .int a3] st (some (.int r)) st := by
  refine zMet_of (by decide +kernel) ?_
  intro p e s m args below meth c X
  obtain ⟨hx, hb, hr, hml, hown, hq, hlk, hK, -, hin, hW, hS⟩ := X
  have hown : s.vm.findClass RJ1 = some m.cls := hown
  refine z_ent (by exact Nat.le_of_ble_eq_true rfl) (fun ls hl => ?_)
  have hl : lv_has ls 4 [(0, .ref (G.2.2.1.2 (a0))), (1, .int a1), (2, .int a2), (3, .int a3)] := hl
  unfold f_J1_indexOf_4cfef at h
  refine lv_iload_n hx hb dJ1_indexOf_4cfef_0 rfl (lv_at hl 1 rfl) ?_
  obtain ⟨r2, c1, h⟩ := zd_at h
  refine z_cS hx hb hq hml hown hK hW hS [.int a1] [] (c_J1_canEncode_9a6ad l G st a1 c1) (zi zm230) (zi zm231) (zi zm146) (zi zm232) cal_J1_canEncode_9a6ad rfl hl.1 rfl (Nat.le_of_ble_eq_true rfl) (zR_ok (by omega) (by decide)) ⟨(Nat.le_of_ble_eq_true rfl), (Nat.le_of_ble_eq_true rfl)⟩ dJ1_indexOf_4cfef_1 (fun H locs hW hS => ?_)
  refine W.eq (g2 := F0 m 4 ls [.int r2]) rfl ?_
  refine z_brn (lv_if_ne (tgt := 9) hx hb dJ1_indexOf_4cfef_4 (by decide)) h (fun h => ?_) (fun h => ?_)
  · refine lv_iload_n hx hb dJ1_indexOf_4cfef_9 rfl (lv_at hl 2 rfl) ?_
    refine lv_iconst (v := (nI 0)) hx hb dJ1_indexOf_4cfef_10 (by decide) ?_
    refine va_mmax hx hb (hml.trans hl.1.symm) hown (hq _ (zi zm228)) (hq _ (zi zm52)) (hq _ (zi zm53)) (hq _ (zi zm54)) (Nat.le_of_ble_eq_true rfl) (by show _ ≤ 60 * _; exact (Nat.le_of_ble_eq_true rfl)) (Nat.le_of_ble_eq_true rfl) (Nat.le_of_ble_eq_true rfl) dJ1_indexOf_4cfef_11 ?_
    refine lv_topi (fun v3 ev3 => ?_)
    have h := zl_at ev3 h
    refine lv_istore_n (lv' := [(2, .int v3), (0, .ref (G.2.2.1.2 (a0))), (1, .int a1), (3, .int a3)]) hx hb dJ1_indexOf_4cfef_14 rfl hl (by decide) rfl (fun ls hl => ?_)
    refine lv_iload_n hx hb dJ1_indexOf_4cfef_15 rfl (lv_at hl 3 rfl) ?_
    refine lv_aload_n hx hb dJ1_indexOf_4cfef_16 rfl (lv_at hl 1 rfl) ?_
    obtain ⟨t4, h⟩ := zc_at h
    refine z_slen hx hb hK hS t4 dJ1_indexOf_4cfef_17 ?_
    refine va_mmin hx hb (hml.trans hl.1.symm) hown (hq _ (zi zm229)) (hq _ (zi zm117)) (hq _ (zi zm53)) (hq _ (zi zm118)) (Nat.le_of_ble_eq_true rfl) (by show _ ≤ 60 * _; exact (Nat.le_of_ble_eq_true rfl)) (Nat.le_of_ble_eq_true rfl) (Nat.le_of_ble_eq_true rfl) dJ1_indexOf_4cfef_18 ?_
    refine lv_topi (fun v5 ev5 => ?_)
    have h := zl_at ev5 h
    refine lv_istore_n (lv' := [(3, .int v5), (2, .int v3), (0, .ref (G.2.2.1.2 (a0))), (1, .int a1)]) hx hb dJ1_indexOf_4cfef_21 rfl hl (by decide) rfl (fun ls hl => ?_)
    refine lv_iload_n hx hb dJ1_indexOf_4cfef_22 rfl (lv_at hl 1 rfl) ?_
    refine lv_iload_n hx hb dJ1_indexOf_4cfef_23 rfl (lv_at hl 0 rfl) ?_
    refine z_br (lv_icmp_lt (tgt := 29) hx hb dJ1_indexOf_4cfef_24 (by decide)) h (fun h => ?_) (fun h => ?_)
    · refine lv_aload_n hx hb dJ1_indexOf_4cfef_29 rfl (lv_at hl 2 rfl) ?_
      refine lv_iload_n hx hb dJ1_indexOf_4cfef_30 rfl (lv_at hl 3 rfl) ?_
      refine lv_iload_n hx hb dJ1_indexOf_4cfef_31 rfl (lv_at hl 1 rfl) ?_
      refine lv_iload_n hx hb dJ1_indexOf_4cfef_32 rfl (lv_at hl 0 rfl) ?_
      obtain ⟨r7, c6, h⟩ := zd_at h
      refine z_cS hx hb hq hml hown hK hW hS [.ref (G.2.2.1.2 (a0)), .int a1, .int v3, .int v5] [] (c_J1_indexOfChar_4cfef l G N st a0 a1 v3 v5 c6) (zi zm233) (zi zm234) (zi zm146) (zi zm235) cal_J1_indexOfChar_4cfef rfl hl.1 rfl (Nat.le_of_ble_eq_true rfl) (zR_ok (by omega) (by decide)) ⟨(Nat.le_of_ble_eq_true rfl), (Nat.le_of_ble_eq_true rfl)⟩ dJ1_indexOf_4cfef_33 (fun H locs hW hS => ?_)
      refine W.eq (g2 := F0 m 36 ls [.int r7]) rfl ?_
      obtain rfl := Option.some.inj h
      exact z_ri hx hb hr hlk hW hS (Nat.le_of_ble_eq_true rfl) (Nat.le_of_ble_eq_true rfl) dJ1_indexOf_4cfef_36
    · refine lv_iconst (v := (-1)) hx hb dJ1_indexOf_4cfef_27 (by decide) ?_
      obtain rfl := Option.some.inj h
      exact z_ri hx hb hr hlk hW hS (Nat.le_of_ble_eq_true rfl) (Nat.le_of_ble_eq_true rfl) dJ1_indexOf_4cfef_28
  · refine lv_iconst (v := (-1)) hx hb dJ1_indexOf_4cfef_7 (by decide) ?_
    obtain rfl := Option.some.inj h
    exact z_ri hx hb hr hlk hW hS (Nat.le_of_ble_eq_true rfl) (Nat.le_of_ble_eq_true rfl) dJ1_indexOf_4cfef_8
def f_J0_indexOf_7cf53 (N : Nat) (o : Nat) (a1 : Int32) (a2 : Int32) : Option Int32 := (if o < zsN then (Option.bind (f_J0_isLatin1_aae02 o) (fun r3 => (if r3 = 0 then (Option.bind (f_J0_length_8abf5 o) (fun r5 => none)) else (Option.bind (f_J0_length_8abf5 o) (fun r7 => (Option.bind (f_J1_indexOf_4cfef N o a1 a2 r7) (fun r9 => (some r9)))))))) else none)
set_option maxHeartbeats 1000000 in
set_option maxRecDepth 100000 in
theorem c_J0_indexOf_7cf53 (l : Launch) (G : zG) (N : Nat) (st : zS) (o : Nat) (a1 : Int32) (a2 : Int32) {r : Int32} (h : f_J0_indexOf_7cf53 N o a1 a2 = some r) : zMet l G yJ0_indexOf_7cf53 cJ0_indexOf_7cf53 3 (some .int) 2 0 0 [.ref (G.2.2.1.1 (o)), .int a1, .int a2] st (some (.int r)) st := by
  refine zMet_of (by decide +kernel) ?_
  intro p e s m args below meth c X
  obtain ⟨hx, hb, hr, hml, hown, hq, hlk, hK, -, hin, hW, hS⟩ := X
  have hown : s.vm.findClass RJ0 = some m.cls := hown
  refine z_ent (by exact Nat.le_of_ble_eq_true rfl) (fun ls hl => ?_)
  have hl : lv_has ls 3 [(0, .ref (G.2.2.1.1 (o))), (1, .int a1), (2, .int a2)] := hl
  unfold f_J0_indexOf_7cf53 at h
  refine lv_aload_n hx hb dJ0_indexOf_7cf53_0 rfl (lv_at hl 0 rfl) ?_
  obtain ⟨t1, h⟩ := zc_at h
  obtain ⟨r3, c2, h⟩ := zd_at h
  refine z_cStr hx hb hq hml hown hK hW hS t1 [] [] (c_J0_isLatin1_aae02 l G st o c2) (zi zm140) (zi zm141) (zi zm142) (zi zm127) (zi zm143) cal_J0_isLatin1_aae02 rfl rfl hl.1 rfl (Nat.le_of_ble_eq_true rfl) (zR_ok (by omega) (by decide)) ⟨(Nat.le_of_ble_eq_true rfl), (Nat.le_of_ble_eq_true rfl)⟩ dJ0_indexOf_7cf53_1 (fun H locs hW hS => ?_)
  refine W.eq (g2 := F0 m 4 ls [.int r3]) rfl ?_
  refine z_br (lv_if_eq (tgt := 23) hx hb dJ0_indexOf_7cf53_4 (by decide)) h (fun h => ?_) (fun h => ?_)
  · refine lv_aload_n hx hb dJ0_indexOf_7cf53_23 rfl (lv_at hl 0 rfl) ?_
    refine vk_getf hx hb (hK.2.2.2.2.2.2.1 _ t1).1.2.2.1 hS hown (hq _ (zi zm129)) (fun _ h => h) dJ0_indexOf_7cf53_24 ?_
    refine lv_iload_n hx hb dJ0_indexOf_7cf53_27 rfl (lv_at hl 1 rfl) ?_
    refine lv_iload_n hx hb dJ0_indexOf_7cf53_28 rfl (lv_at hl 2 rfl) ?_
    refine lv_aload_n hx hb dJ0_indexOf_7cf53_29 rfl (lv_at hl 0 rfl) ?_
    obtain ⟨r5, c4, h⟩ := zd_at h
    refine z_cStr hx hb hq hml hown hK hW hS t1 [] [.int a2, .int a1, .ref (G.2.2.1.2 (o))] (c_J0_length_8abf5 l G st o c4) (zi zm224) (zi zm125) (zi zm126) (zi zm127) (zi zm128) cal_J0_length_8abf5 rfl rfl hl.1 rfl (Nat.le_of_ble_eq_true rfl) (zR_ok (by omega) (by decide)) ⟨(Nat.le_of_ble_eq_true rfl), (Nat.le_of_ble_eq_true rfl)⟩ dJ0_indexOf_7cf53_30 (fun H locs hW hS => ?_)
    refine W.eq (g2 := F0 m 33 ls [.int r5, .int a2, .int a1, .ref (G.2.2.1.2 (o))]) rfl ?_
    cases h
  · refine lv_aload_n hx hb dJ0_indexOf_7cf53_7 rfl (lv_at hl 0 rfl) ?_
    refine vk_getf hx hb (hK.2.2.2.2.2.2.1 _ t1).1.2.2.1 hS hown (hq _ (zi zm129)) (fun _ h => h) dJ0_indexOf_7cf53_8 ?_
    refine lv_iload_n hx hb dJ0_indexOf_7cf53_11 rfl (lv_at hl 1 rfl) ?_
    refine lv_iload_n hx hb dJ0_indexOf_7cf53_12 rfl (lv_at hl 2 rfl) ?_
    refine lv_aload_n hx hb dJ0_indexOf_7cf53_13 rfl (lv_at hl 0 rfl) ?_
    obtain ⟨r7, c6, h⟩ := zd_at h
    refine z_cStr hx hb hq hml hown hK hW hS t1 [] [.int a2, .int a1, .ref (G.2.2.1.2 (o))] (c_J0_length_8abf5 l G st o c6) (zi zm224) (zi zm125) (zi zm126) (zi zm127) (zi zm128) cal_J0_length_8abf5 rfl rfl hl.1 rfl (Nat.le_of_ble_eq_true rfl) (zR_ok (by omega) (by decide)) ⟨(Nat.le_of_ble_eq_true rfl), (Nat.le_of_ble_eq_true rfl)⟩ dJ0_indexOf_7cf53_14 (fun H locs hW hS => ?_)
    refine W.eq (g2 := F0 m 17 ls [.int r7, .int a2, .int a1, .ref (G.2.2.1.2 (o))]) rfl ?_
    obtain ⟨r9, c8, h⟩ := zd_at h
    refine z_cS hx hb hq hml hown hK hW hS [.ref (G.2.2.1.2 (o)), .int a1, .int a2, .int r7] [] (c_J1_indexOf_4cfef l G N st o a1 a2 r7 c8) (zi zm225) (zi zm226) (zi zm146) (zi zm227) cal_J1_indexOf_4cfef rfl hl.1 rfl (Nat.le_of_ble_eq_true rfl) (zR_ok (by omega) (by decide)) ⟨(Nat.le_of_ble_eq_true rfl), (Nat.le_of_ble_eq_true rfl)⟩ dJ0_indexOf_7cf53_17 (fun H locs hW hS => ?_)
    refine W.eq (g2 := F0 m 20 ls [.int r9]) rfl ?_
    refine lv_goto (tgt := 36) hx hb dJ0_indexOf_7cf53_20 (by decide) ?_
    obtain rfl := Option.some.inj h
    exact z_ri hx hb hr hlk hW hS (Nat.le_of_ble_eq_true rfl) (Nat.le_of_ble_eq_true rfl) dJ0_indexOf_7cf53_36
def f_J0_indexOf_0f7a4 (N : Nat) (o : Nat) (a1 : Int32) : Option Int32 := (if o < zsN then (Option.bind (f_J0_indexOf_7cf53 N o a1 (nI 0)) (fun r3 => (some r3))) else none)
set_option maxHeartbeats 1000000 in
set_option maxRecDepth 100000 in
theorem c_J0_indexOf_0f7a4 (l : Launch) (G : zG) (N : Nat) (st : zS) (o : Nat) (a1 : Int32) {r : Int32} (h : f_J0_indexOf_0f7a4 N o a1 = some r) : zMet l G yJ0_indexOf_0f7a4 cJ0_indexOf_0f7a4 2 (some .int) 3 0 0 [.ref (G.2.2.1.1 (o)), .int a1] st (some (.int r)) st := by
  refine zMet_of (by decide +kernel) ?_
  intro p e s m args below meth c X
  obtain ⟨hx, hb, hr, hml, hown, hq, hlk, hK, -, hin, hW, hS⟩ := X
  have hown : s.vm.findClass RJ0 = some m.cls := hown
  refine z_ent (by exact Nat.le_of_ble_eq_true rfl) (fun ls hl => ?_)
  have hl : lv_has ls 2 [(0, .ref (G.2.2.1.1 (o))), (1, .int a1)] := hl
  unfold f_J0_indexOf_0f7a4 at h
  refine lv_aload_n hx hb dJ0_indexOf_0f7a4_0 rfl (lv_at hl 0 rfl) ?_
  refine lv_iload_n hx hb dJ0_indexOf_0f7a4_1 rfl (lv_at hl 1 rfl) ?_
  refine lv_iconst (v := (nI 0)) hx hb dJ0_indexOf_0f7a4_2 (by decide) ?_
  obtain ⟨t1, h⟩ := zc_at h
  obtain ⟨r3, c2, h⟩ := zd_at h
  refine z_cStr hx hb hq hml hown hK hW hS t1 [.int a1, .int ((nI 0))] [] (c_J0_indexOf_7cf53 l G N st o a1 (nI 0) c2) (zi zm220) (zi zm221) (zi zm222) (zi zm127) (zi zm223) cal_J0_indexOf_7cf53 rfl rfl hl.1 rfl (Nat.le_of_ble_eq_true rfl) (zR_ok (by omega) (by decide)) ⟨(Nat.le_of_ble_eq_true rfl), (Nat.le_of_ble_eq_true rfl)⟩ dJ0_indexOf_0f7a4_3 (fun H locs hW hS => ?_)
  refine W.eq (g2 := F0 m 6 ls [.int r3]) rfl ?_
  obtain rfl := Option.some.inj h
  exact z_ri hx hb hr hlk hW hS (Nat.le_of_ble_eq_true rfl) (Nat.le_of_ble_eq_true rfl) dJ0_indexOf_0f7a4_6
def f_X6_placeIn (N : Nat) (a0 : Nat) (a1 : Int32) : Option Int32 := (if 0 ≤ a1 then (if a0 < zsN then (Option.bind (f_J0_indexOf_0f7a4 N a0 (((a1).toUInt32 % 65536).toInt32)) (fun r3 => (some r3))) else none) else (some (-1 : Int32)))
set_option maxHeartbeats 1000000 in
set_option maxRecDepth 100000 in
theorem c_X6_placeIn (l : Launch) (G : zG) (N : Nat) (st : zS) (a0 : Nat) (a1 : Int32) {r : Int32} (h : f_X6_placeIn N a0 a1 = some r) : zMet l G yX6_placeIn cX6_placeIn 2 (some .int) 4 0 0 [.ref (G.2.2.1.1 (a0)), .int a1] st (some (.int r)) st := by
  refine zMet_of (by decide +kernel) ?_
  intro p e s m args below meth c X
  obtain ⟨hx, hb, hr, hml, hown, hq, hlk, hK, -, hin, hW, hS⟩ := X
  have hown : s.vm.findClass RX6 = some m.cls := hown
  refine z_ent (by exact Nat.le_of_ble_eq_true rfl) (fun ls hl => ?_)
  have hl : lv_has ls 2 [(0, .ref (G.2.2.1.1 (a0))), (1, .int a1)] := hl
  unfold f_X6_placeIn at h
  refine lv_iload_n hx hb dX6_placeIn_0 rfl (lv_at hl 1 rfl) ?_
  refine z_br (lv_if_ge (tgt := 8) hx hb dX6_placeIn_1 (by decide)) h (fun h => ?_) (fun h => ?_)
  · refine lv_aload_n hx hb dX6_placeIn_8 rfl (lv_at hl 0 rfl) ?_
    refine lv_iload_n hx hb dX6_placeIn_9 rfl (lv_at hl 1 rfl) ?_
    refine lv_i2c hx hb dX6_placeIn_10 rfl ?_
    obtain ⟨t1, h⟩ := zc_at h
    obtain ⟨r3, c2, h⟩ := zd_at h
    refine z_cStr hx hb hq hml hown hK hW hS t1 [.int (((a1).toUInt32 % 65536).toInt32)] [] (c_J0_indexOf_0f7a4 l G N st a0 (((a1).toUInt32 % 65536).toInt32) c2) (zi zm216) (zi zm217) (zi zm218) (zi zm127) (zi zm219) cal_J0_indexOf_0f7a4 rfl rfl hl.1 rfl (Nat.le_of_ble_eq_true rfl) (zR_ok (by omega) (by decide)) ⟨(Nat.le_of_ble_eq_true rfl), (Nat.le_of_ble_eq_true rfl)⟩ dX6_placeIn_11 (fun H locs hW hS => ?_)
    refine W.eq (g2 := F0 m 14 ls [.int r3]) rfl ?_
    obtain rfl := Option.some.inj h
    exact z_ri hx hb hr hlk hW hS (Nat.le_of_ble_eq_true rfl) (Nat.le_of_ble_eq_true rfl) dX6_placeIn_14
  · refine lv_iconst (v := (-1)) hx hb dX6_placeIn_4 (by decide) ?_
    refine lv_goto (tgt := 14) hx hb dX6_placeIn_5 (by decide) ?_
    obtain rfl := Option.some.inj h
    exact z_ri hx hb hr hlk hW hS (Nat.le_of_ble_eq_true rfl) (Nat.le_of_ble_eq_true rfl) dX6_placeIn_14
def f_X6_test (N : Nat) (st : zS) (o : Nat) (a1 : Nat) (a2 : Int32) : Option (zS × Int32) := (if zTg st a1 ∈ [15] then (Option.bind (f_X5_get st a1 a2) (fun r3 => (Option.bind (f_X6_placeIn N 4 r3) (fun r5 => (if 0 ≤ r5 then (Option.bind (f_X5_get st a1 (a2 + (nI 1))) (fun r7 => (Option.bind (f_X6_placeIn N 5 r7) (fun r9 => (if 0 ≤ r9 then (Option.bind (f_X6_digits st a1 (a2 + (nI 2))) (fun r11 => (if r11 < 0 then (some (st, r11)) else (Option.bind (f_X6_valueOf N st a1 (a2 + (nI 2)) r11) (fun r13 => (if zTg st o ∈ [16] then (Option.bind (f_X6_put st o (((r5 * (nI 300)) + (r9 * (nI 100))) + r13)) (fun st16 => (some (st16, r11)))) else none)))))) else (Option.bind (f_X6_stuck (a2 + (nI 1))) (fun r18 => (some (st, r18))))))))) else (Option.bind (f_X6_stuck a2) (fun r20 => (some (st, r20))))))))) else none)
set_option maxHeartbeats 1000000 in
set_option maxRecDepth 100000 in
theorem c_X6_test (l : Launch) (G : zG) (N : Nat) (st : zS) (o : Nat) (a1 : Nat) (a2 : Int32) {st' : zS} {r : Int32} (h : f_X6_test N st o a1 a2 = some (st', r)) : zMet l G yX6_test cX6_test 6 (some .int) 5 0 0 [.ref (G.2.2.2 + o), .ref (G.2.2.2 + a1), .int a2] st (some (.int r)) st' := by
  refine zMet_of (by decide +kernel) ?_
  intro p e s m args below meth c X
  obtain ⟨hx, hb, hr, hml, hown, hq, hlk, hK, -, hin, hW, hS⟩ := X
  have hown : s.vm.findClass RX6 = some m.cls := hown
  refine z_ent (by exact Nat.le_of_ble_eq_true rfl) (fun ls hl => ?_)
  have hl : lv_has ls 6 [(0, .ref (G.2.2.2 + o)), (1, .ref (G.2.2.2 + a1)), (2, .int a2)] := hl
  unfold f_X6_test at h
  refine va_ldcS hx hb hown (hK.2.2.2.2.2.2.1 4 (by decide)).2 dX6_test_0 ?_
  refine lv_aload_n hx hb dX6_test_2 rfl (lv_at hl 1 rfl) ?_
  refine lv_iload_n hx hb dX6_test_3 rfl (lv_at hl 2 rfl) ?_
  obtain ⟨t1, h⟩ := zc_at h
  obtain ⟨r3, c2, h⟩ := zd_at h
  refine z_cV hx hb hq hml hown hK hW hS 5 [.int a2] [.ref (G.2.2.1.1 (4))] rfl (List.mem_singleton.mp t1) (c_X5_get l G st a1 a2 c2) (zi zm108) (zi zm109) (zi zm110) (zi zm32) (zi zm111) cal_X5_get rfl rfl hl.1 rfl (Nat.le_of_ble_eq_true rfl) (zR_ok (by omega) (by decide)) ⟨(Nat.le_of_ble_eq_true rfl), (Nat.le_of_ble_eq_true rfl)⟩ dX6_test_4 (fun H locs hW hS => ?_)
  refine W.eq (g2 := F0 m 7 ls [.int r3, .ref (G.2.2.1.1 (4))]) rfl ?_
  obtain ⟨r5, c4, h⟩ := zd_at h
  refine z_cS hx hb hq hml hown hK hW hS [.ref (G.2.2.1.1 (4)), .int r3] [] (c_X6_placeIn l G N st 4 r3 c4) (zi zm213) (zi zm214) (zi zm28) (zi zm215) cal_X6_placeIn rfl hl.1 rfl (Nat.le_of_ble_eq_true rfl) (zR_ok (by omega) (by decide)) ⟨(Nat.le_of_ble_eq_true rfl), (Nat.le_of_ble_eq_true rfl)⟩ dX6_test_7 (fun H locs hW hS => ?_)
  refine W.eq (g2 := F0 m 10 ls [.int r5]) rfl ?_
  refine lv_istore_n (lv' := [(3, .int r5), (0, .ref (G.2.2.2 + o)), (1, .ref (G.2.2.2 + a1)), (2, .int a2)]) hx hb dX6_test_10 rfl hl (by decide) rfl (fun ls hl => ?_)
  refine lv_iload_n hx hb dX6_test_11 rfl (lv_at hl 0 rfl) ?_
  refine z_br (lv_if_ge (tgt := 20) hx hb dX6_test_12 (by decide)) h (fun h => ?_) (fun h => ?_)
  · refine va_ldcS hx hb hown (hK.2.2.2.2.2.2.1 5 (by decide)).2 dX6_test_20 ?_
    refine lv_aload_n hx hb dX6_test_22 rfl (lv_at hl 2 rfl) ?_
    refine lv_iload_n hx hb dX6_test_23 rfl (lv_at hl 3 rfl) ?_
    refine lv_iconst (v := (nI 1)) hx hb dX6_test_24 (by decide) ?_
    refine lv_iadd hx hb dX6_test_25 ?_
    obtain ⟨r7, c6, h⟩ := zd_at h
    refine z_cV hx hb hq hml hown hK hW hS 5 [.int ((a2 + (nI 1)))] [.ref (G.2.2.1.1 (5))] rfl (List.mem_singleton.mp t1) (c_X5_get l G st a1 (a2 + (nI 1)) c6) (zi zm108) (zi zm109) (zi zm110) (zi zm32) (zi zm111) cal_X5_get rfl rfl hl.1 rfl (Nat.le_of_ble_eq_true rfl) (zR_ok (by omega) (by decide)) ⟨(Nat.le_of_ble_eq_true rfl), (Nat.le_of_ble_eq_true rfl)⟩ dX6_test_26 (fun H locs hW hS => ?_)
    refine W.eq (g2 := F0 m 29 ls [.int r7, .ref (G.2.2.1.1 (5))]) rfl ?_
    obtain ⟨r9, c8, h⟩ := zd_at h
    refine z_cS hx hb hq hml hown hK hW hS [.ref (G.2.2.1.1 (5)), .int r7] [] (c_X6_placeIn l G N st 5 r7 c8) (zi zm213) (zi zm214) (zi zm28) (zi zm215) cal_X6_placeIn rfl hl.1 rfl (Nat.le_of_ble_eq_true rfl) (zR_ok (by omega) (by decide)) ⟨(Nat.le_of_ble_eq_true rfl), (Nat.le_of_ble_eq_true rfl)⟩ dX6_test_29 (fun H locs hW hS => ?_)
    refine W.eq (g2 := F0 m 32 ls [.int r9]) rfl ?_
    refine lv_istore (lv' := [(4, .int r9), (3, .int r5), (0, .ref (G.2.2.2 + o)), (1, .ref (G.2.2.2 + a1)), (2, .int a2)]) hx hb dX6_test_32 hl (by decide) rfl (fun ls hl => ?_)
    refine lv_iload hx hb dX6_test_34 (lv_at hl 0 rfl) ?_
    refine z_br (lv_if_ge (tgt := 46) hx hb dX6_test_36 (by decide)) h (fun h => ?_) (fun h => ?_)
    · refine lv_aload_n hx hb dX6_test_46 rfl (lv_at hl 3 rfl) ?_
      refine lv_iload_n hx hb dX6_test_47 rfl (lv_at hl 4 rfl) ?_
      refine lv_iconst (v := (nI 2)) hx hb dX6_test_48 (by decide) ?_
      refine lv_iadd hx hb dX6_test_49 ?_
      obtain ⟨r11, c10, h⟩ := zd_at h
      refine z_cS hx hb hq hml hown hK hW hS [.ref (G.2.2.2 + a1), .int ((a2 + (nI 2)))] [] (c_X6_digits l G st a1 (a2 + (nI 2)) c10) (zi zm179) (zi zm180) (zi zm28) (zi zm181) cal_X6_digits rfl hl.1 rfl (Nat.le_of_ble_eq_true rfl) (zR_ok (by omega) (by decide)) ⟨(Nat.le_of_ble_eq_true rfl), (Nat.le_of_ble_eq_true rfl)⟩ dX6_test_50 (fun H locs hW hS => ?_)
      refine W.eq (g2 := F0 m 53 ls [.int r11]) rfl ?_
      refine lv_istore (lv' := [(5, .int r11), (4, .int r9), (3, .int r5), (0, .ref (G.2.2.2 + o)), (1, .ref (G.2.2.2 + a1)), (2, .int a2)]) hx hb dX6_test_53 hl (by decide) rfl (fun ls hl => ?_)
      refine lv_iload hx hb dX6_test_55 (lv_at hl 0 rfl) ?_
      refine z_br (lv_if_lt (tgt := 85) hx hb dX6_test_57 (by decide)) h (fun h => ?_) (fun h => ?_)
      · refine lv_iload hx hb dX6_test_85 (lv_at hl 0 rfl) ?_
        obtain ⟨rfl, rfl⟩ := Prod.mk.inj (Option.some.inj h)
        exact z_ri hx hb hr hlk hW hS (Nat.le_of_ble_eq_true rfl) (Nat.le_of_ble_eq_true rfl) dX6_test_87
      · refine lv_aload_n hx hb dX6_test_60 rfl (lv_at hl 3 rfl) ?_
        refine lv_iload_n hx hb dX6_test_61 rfl (lv_at hl 2 rfl) ?_
        refine lv_sipush (v := (nI 300)) hx hb dX6_test_62 (by decide) ?_
        refine lv_imul hx hb dX6_test_65 ?_
        refine lv_iload hx hb dX6_test_66 (lv_at hl 1 rfl) ?_
        refine lv_bipush (v := (nI 100)) hx hb dX6_test_68 (by decide) ?_
        refine lv_imul hx hb dX6_test_70 ?_
        refine lv_iadd hx hb dX6_test_71 ?_
        refine lv_aload_n hx hb dX6_test_72 rfl (lv_at hl 4 rfl) ?_
        refine lv_iload_n hx hb dX6_test_73 rfl (lv_at hl 5 rfl) ?_
        refine lv_iconst (v := (nI 2)) hx hb dX6_test_74 (by decide) ?_
        refine lv_iadd hx hb dX6_test_75 ?_
        refine lv_iload hx hb dX6_test_76 (lv_at hl 0 rfl) ?_
        obtain ⟨r13, c12, h⟩ := zd_at h
        refine z_cS hx hb hq hml hown hK hW hS [.ref (G.2.2.2 + a1), .int ((a2 + (nI 2))), .int r11] [.int (((r5 * (nI 300)) + (r9 * (nI 100)))), .ref (G.2.2.2 + o)] (c_X6_valueOf l G N st a1 (a2 + (nI 2)) r11 c12) (zi zm185) (zi zm186) (zi zm28) (zi zm187) cal_X6_valueOf rfl hl.1 rfl (Nat.le_of_ble_eq_true rfl) (zR_ok (by omega) (by decide)) ⟨(Nat.le_of_ble_eq_true rfl), (Nat.le_of_ble_eq_true rfl)⟩ dX6_test_78 (fun H locs hW hS => ?_)
        refine W.eq (g2 := F0 m 81 ls [.int r13, .int (((r5 * (nI 300)) + (r9 * (nI 100)))), .ref (G.2.2.2 + o)]) rfl ?_
        refine lv_iadd hx hb dX6_test_81 ?_
        obtain ⟨t14, h⟩ := zc_at h
        obtain ⟨st16, c15, h⟩ := zd_at h
        refine z_cV hx hb hq hml hown hK hW hS 6 [.int ((((r5 * (nI 300)) + (r9 * (nI 100))) + r13))] [] rfl (List.mem_singleton.mp t14) (c_X6_put l G st o (((r5 * (nI 300)) + (r9 * (nI 100))) + r13) c15) (zi zm199) (zi zm200) (zi zm201) (zi zm28) (zi zm202) cal_X6_put rfl rfl hl.1 rfl (Nat.le_of_ble_eq_true rfl) (zR_ok (by omega) (by decide)) ⟨(Nat.le_of_ble_eq_true rfl), (Nat.le_of_ble_eq_true rfl)⟩ dX6_test_82 (fun H locs hW hS => ?_)
        refine W.eq (g2 := F0 m 85 ls []) rfl ?_
        refine lv_iload hx hb dX6_test_85 (lv_at hl 0 rfl) ?_
        obtain ⟨rfl, rfl⟩ := Prod.mk.inj (Option.some.inj h)
        exact z_ri hx hb hr hlk hW hS (Nat.le_of_ble_eq_true rfl) (Nat.le_of_ble_eq_true rfl) dX6_test_87
    · refine lv_iload_n hx hb dX6_test_39 rfl (lv_at hl 4 rfl) ?_
      refine lv_iconst (v := (nI 1)) hx hb dX6_test_40 (by decide) ?_
      refine lv_iadd hx hb dX6_test_41 ?_
      obtain ⟨r18, c17, h⟩ := zd_at h
      refine z_cS hx hb hq hml hown hK hW hS [.int ((a2 + (nI 1)))] [] (c_X6_stuck l G st (a2 + (nI 1)) c17) (zi zm176) (zi zm177) (zi zm28) (zi zm178) cal_X6_stuck rfl hl.1 rfl (Nat.le_of_ble_eq_true rfl) (zR_ok (by omega) (by decide)) ⟨(Nat.le_of_ble_eq_true rfl), (Nat.le_of_ble_eq_true rfl)⟩ dX6_test_42 (fun H locs hW hS => ?_)
      refine W.eq (g2 := F0 m 45 ls [.int r18]) rfl ?_
      obtain ⟨rfl, rfl⟩ := Prod.mk.inj (Option.some.inj h)
      exact z_ri hx hb hr hlk hW hS (Nat.le_of_ble_eq_true rfl) (Nat.le_of_ble_eq_true rfl) dX6_test_45
  · refine lv_iload_n hx hb dX6_test_15 rfl (lv_at hl 3 rfl) ?_
    obtain ⟨r20, c19, h⟩ := zd_at h
    refine z_cS hx hb hq hml hown hK hW hS [.int a2] [] (c_X6_stuck l G st a2 c19) (zi zm176) (zi zm177) (zi zm28) (zi zm178) cal_X6_stuck rfl hl.1 rfl (Nat.le_of_ble_eq_true rfl) (zR_ok (by omega) (by decide)) ⟨(Nat.le_of_ble_eq_true rfl), (Nat.le_of_ble_eq_true rfl)⟩ dX6_test_16 (fun H locs hW hS => ?_)
    refine W.eq (g2 := F0 m 19 ls [.int r20]) rfl ?_
    obtain ⟨rfl, rfl⟩ := Prod.mk.inj (Option.some.inj h)
    exact z_ri hx hb hr hlk hW hS (Nat.le_of_ble_eq_true rfl) (Nat.le_of_ble_eq_true rfl) dX6_test_19
def f_X6_single_28 (rec_ : Nat → zS → Nat → Nat → Int32 → Int32 → Option (zS × Int32)) (N : Nat) (o : Nat) (a1 : Nat) (a2 : Int32) (a3 : Int32)  (st : zS) (x4 : Int32) : Option (zS × Int32) := (if a3 < (nI 5) then (if x4 = (nI 40) then (if zTg st o ∈ [16] then (zb (rec_ 0 st o a1 (a2 + (nI 1)) (a3 + (nI 1))) (fun st13 r14 => (Option.bind (f_X6_expect st13 a1 r14 (nI 41)) (fun r16 => (some (st13, r16)))))) else none) else (if zTg st o ∈ [16] then (zb (rec_ 2 st o a1 (a2 + (nI 1)) (a3 + (nI 1))) (fun st6 r7 => (if zTg st6 o ∈ [16] then (Option.bind (f_X6_put st6 o (nI 2000)) (fun st10 => (some (st10, r7)))) else none))) else none)) else (Option.bind (f_X6_stuck a2) (fun r18 => (some (st, r18)))))
def f_X6_single (rec_ : Nat → zS → Nat → Nat → Int32 → Int32 → Option (zS × Int32)) (N : Nat) (st : zS) (o : Nat) (a1 : Nat) (a2 : Int32) (a3 : Int32) : Option (zS × Int32) := (if zTg st a1 ∈ [15] then (Option.bind (f_X5_get st a1 a2) (fun r3 => (if r3 = (nI 33) then (f_X6_single_28 rec_ N o a1 a2 a3 st r3) else (if r3 = (nI 40) then (f_X6_single_28 rec_ N o a1 a2 a3 st r3) else (if zTg st o ∈ [16] then (zb (f_X6_test N st o a1 a2) (fun st21 r22 => (some (st21, r22)))) else none))))) else none)
set_option maxHeartbeats 1000000 in
set_option maxRecDepth 100000 in
theorem c_X6_single (l : Launch) (G : zG) (D dB : Nat) (hdB : 6 ≤ dB) (rec_ : Nat → zS → Nat → Nat → Int32 → Int32 → Option (zS × Int32)) (hr0 : ∀ (st : zS) (o : Nat) (b0 : Nat) (b1 : Int32) (b2 : Int32) (st' : zS) (r : Int32), rec_ 0 st o b0 b1 b2 = some (st', r) → zMet l G yX6_either cX6_either 6 (some .int) (dB + D) 0 0 [.ref (G.2.2.2 + o), .ref (G.2.2.2 + b0), .int b1, .int b2] st (some (.int r)) st') (hr1 : ∀ (st : zS) (o : Nat) (b0 : Nat) (b1 : Int32) (b2 : Int32) (st' : zS) (r : Int32), rec_ 1 st o b0 b1 b2 = some (st', r) → zMet l G yX6_both cX6_both 6 (some .int) (dB + D) 0 0 [.ref (G.2.2.2 + o), .ref (G.2.2.2 + b0), .int b1, .int b2] st (some (.int r)) st') (hr2 : ∀ (st : zS) (o : Nat) (b0 : Nat) (b1 : Int32) (b2 : Int32) (st' : zS) (r : Int32), rec_ 2 st o b0 b1 b2 = some (st', r) → zMet l G yX6_single cX6_single 6 (some .int) (dB + D) 0 0 [.ref (G.2.2.2 + o), .ref (G.2.2.2 + b0), .int b1, .int b2] st (some (.int r)) st') (N : Nat) (st : zS) (o : Nat) (a1 : Nat) (a2 : Int32) (a3 : Int32) {st' : zS} {r : Int32} (h : f_X6_single rec_ N st o a1 a2 a3 = some (st', r)) : zMet l G yX6_single cX6_single 6 (some .int) (dB + (D + 1)) 0 0 [.ref (G.2.2.2 + o), .ref (G.2.2.2 + a1), .int a2, .int a3] st (some (.int r)) st' := by
  refine zMet_of (by decide +kernel) ?_
  intro p e s m args below meth c X
  obtain ⟨hx, hb, hr, hml, hown, hq, hlk, hK, -, hin, hW, hS⟩ := X
  have hown : s.vm.findClass RX6 = some m.cls := hown
  refine z_ent (by exact Nat.le_of_ble_eq_true rfl) (fun ls hl => ?_)
  have hl : lv_has ls 6 [(0, .ref (G.2.2.2 + o)), (1, .ref (G.2.2.2 + a1)), (2, .int a2), (3, .int a3)] := hl
  unfold f_X6_single at h
  have B28 : ∀ (st : zS) (x4 : Int32) (H : Heap) (locs : List Loc) (ls : Array Slot), f_X6_single_28 rec_ N o a1 a2 a3 st x4 = some (st', r) → zWd G st H → va_S (zA G) s.heap H locs → lv_has ls 6 [(0, .ref (G.2.2.2 + o)), (1, .ref (G.2.2.2 + a1)), (2, .int a2), (3, .int a3), (4, .int x4)] → W p l e (zRm (dB + (D + 1)) 0 0) s m args below meth c H locs 0 0 (MQ below (zQ G (some (.int r)) st') args s 0 0 (zA G)) (F0 m 28 ls []) := by
    intro st x4 H locs ls h hW hS hl
    unfold f_X6_single_28 at h
    refine lv_iload_n hx hb dX6_single_28 rfl (lv_at hl 3 rfl) ?_
    refine lv_iconst (v := (nI 5)) hx hb dX6_single_29 (by decide) ?_
    refine z_br (lv_icmp_lt (tgt := 38) hx hb dX6_single_30 (by decide)) h (fun h => ?_) (fun h => ?_)
    · refine lv_iload hx hb dX6_single_38 (lv_at hl 4 rfl) ?_
      refine lv_bipush (v := (nI 40)) hx hb dX6_single_40 (by decide) ?_
      refine z_brn (lv_icmp_ne (tgt := 63) hx hb dX6_single_42 (by decide)) h (fun h => ?_) (fun h => ?_)
      · refine lv_aload_n hx hb dX6_single_63 rfl (lv_at hl 0 rfl) ?_
        refine lv_aload_n hx hb dX6_single_64 rfl (lv_at hl 1 rfl) ?_
        refine lv_iload_n hx hb dX6_single_65 rfl (lv_at hl 2 rfl) ?_
        refine lv_iconst (v := (nI 1)) hx hb dX6_single_66 (by decide) ?_
        refine lv_iadd hx hb dX6_single_67 ?_
        refine lv_iload_n hx hb dX6_single_68 rfl (lv_at hl 3 rfl) ?_
        refine lv_iconst (v := (nI 1)) hx hb dX6_single_69 (by decide) ?_
        refine lv_iadd hx hb dX6_single_70 ?_
        obtain ⟨t4, h⟩ := zc_at h
        obtain ⟨st6, r7, c5, h⟩ := zb_at h
        refine z_cV hx hb hq hml hown hK hW hS 6 [.ref (G.2.2.2 + a1), .int ((a2 + (nI 1))), .int ((a3 + (nI 1)))] [] rfl (List.mem_singleton.mp t4) (hr2 st o a1 (a2 + (nI 1)) (a3 + (nI 1)) _ _ c5) (zi zm205) (zi zm206) (zi zm207) (zi zm28) (zi zm208) cal_X6_single rfl rfl hl.1 rfl (Nat.le_of_ble_eq_true rfl) (zR_ok (by omega) (by decide)) ⟨(Nat.le_of_ble_eq_true rfl), (Nat.le_of_ble_eq_true rfl)⟩ dX6_single_71 (fun H locs hW hS => ?_)
        refine W.eq (g2 := F0 m 74 ls [.int r7]) rfl ?_
        refine lv_istore (lv' := [(5, .int r7), (0, .ref (G.2.2.2 + o)), (1, .ref (G.2.2.2 + a1)), (2, .int a2), (3, .int a3), (4, .int x4)]) hx hb dX6_single_74 hl (by decide) rfl (fun ls hl => ?_)
        refine lv_aload_n hx hb dX6_single_76 rfl (lv_at hl 1 rfl) ?_
        refine lv_sipush (v := (nI 2000)) hx hb dX6_single_77 (by decide) ?_
        obtain ⟨t8, h⟩ := zc_at h
        obtain ⟨st10, c9, h⟩ := zd_at h
        refine z_cV hx hb hq hml hown hK hW hS 6 [.int ((nI 2000))] [] rfl (List.mem_singleton.mp t8) (c_X6_put l G st6 o (nI 2000) c9) (zi zm199) (zi zm200) (zi zm201) (zi zm28) (zi zm202) cal_X6_put rfl rfl hl.1 rfl (Nat.le_of_ble_eq_true rfl) (zR_ok (by omega) (by decide)) ⟨(Nat.le_of_ble_eq_true rfl), (Nat.le_of_ble_eq_true rfl)⟩ dX6_single_80 (fun H locs hW hS => ?_)
        refine W.eq (g2 := F0 m 83 ls []) rfl ?_
        refine lv_iload hx hb dX6_single_83 (lv_at hl 0 rfl) ?_
        obtain ⟨rfl, rfl⟩ := Prod.mk.inj (Option.some.inj h)
        exact z_ri hx hb hr hlk hW hS (Nat.le_of_ble_eq_true rfl) (Nat.le_of_ble_eq_true rfl) dX6_single_85
      · refine lv_aload_n hx hb dX6_single_45 rfl (lv_at hl 1 rfl) ?_
        refine lv_aload_n hx hb dX6_single_46 rfl (lv_at hl 0 rfl) ?_
        refine lv_aload_n hx hb dX6_single_47 rfl (lv_at hl 1 rfl) ?_
        refine lv_iload_n hx hb dX6_single_48 rfl (lv_at hl 2 rfl) ?_
        refine lv_iconst (v := (nI 1)) hx hb dX6_single_49 (by decide) ?_
        refine lv_iadd hx hb dX6_single_50 ?_
        refine lv_iload_n hx hb dX6_single_51 rfl (lv_at hl 3 rfl) ?_
        refine lv_iconst (v := (nI 1)) hx hb dX6_single_52 (by decide) ?_
        refine lv_iadd hx hb dX6_single_53 ?_
        obtain ⟨t11, h⟩ := zc_at h
        obtain ⟨st13, r14, c12, h⟩ := zb_at h
        refine z_cV hx hb hq hml hown hK hW hS 6 [.ref (G.2.2.2 + a1), .int ((a2 + (nI 1))), .int ((a3 + (nI 1)))] [.ref (G.2.2.2 + a1)] rfl (List.mem_singleton.mp t11) (hr0 st o a1 (a2 + (nI 1)) (a3 + (nI 1)) _ _ c12) (zi zm192) (zi zm193) (zi zm194) (zi zm28) (zi zm195) cal_X6_either rfl rfl hl.1 rfl (Nat.le_of_ble_eq_true rfl) (zR_ok (by omega) (by decide)) ⟨(Nat.le_of_ble_eq_true rfl), (Nat.le_of_ble_eq_true rfl)⟩ dX6_single_54 (fun H locs hW hS => ?_)
        refine W.eq (g2 := F0 m 57 ls [.int r14, .ref (G.2.2.2 + a1)]) rfl ?_
        refine lv_bipush (v := (nI 41)) hx hb dX6_single_57 (by decide) ?_
        obtain ⟨r16, c15, h⟩ := zd_at h
        refine z_cS hx hb hq hml hown hK hW hS [.ref (G.2.2.2 + a1), .int r14, .int ((nI 41))] [] (c_X6_expect l G st13 a1 r14 (nI 41) c15) (zi zm173) (zi zm174) (zi zm28) (zi zm175) cal_X6_expect rfl hl.1 rfl (Nat.le_of_ble_eq_true rfl) (zR_ok (by omega) (by decide)) ⟨(Nat.le_of_ble_eq_true rfl), (Nat.le_of_ble_eq_true rfl)⟩ dX6_single_59 (fun H locs hW hS => ?_)
        refine W.eq (g2 := F0 m 62 ls [.int r16]) rfl ?_
        obtain ⟨rfl, rfl⟩ := Prod.mk.inj (Option.some.inj h)
        exact z_ri hx hb hr hlk hW hS (Nat.le_of_ble_eq_true rfl) (Nat.le_of_ble_eq_true rfl) dX6_single_62
    · refine lv_iload_n hx hb dX6_single_33 rfl (lv_at hl 2 rfl) ?_
      obtain ⟨r18, c17, h⟩ := zd_at h
      refine z_cS hx hb hq hml hown hK hW hS [.int a2] [] (c_X6_stuck l G st a2 c17) (zi zm176) (zi zm177) (zi zm28) (zi zm178) cal_X6_stuck rfl hl.1 rfl (Nat.le_of_ble_eq_true rfl) (zR_ok (by omega) (by decide)) ⟨(Nat.le_of_ble_eq_true rfl), (Nat.le_of_ble_eq_true rfl)⟩ dX6_single_34 (fun H locs hW hS => ?_)
      refine W.eq (g2 := F0 m 37 ls [.int r18]) rfl ?_
      obtain ⟨rfl, rfl⟩ := Prod.mk.inj (Option.some.inj h)
      exact z_ri hx hb hr hlk hW hS (Nat.le_of_ble_eq_true rfl) (Nat.le_of_ble_eq_true rfl) dX6_single_37
  refine lv_aload_n hx hb dX6_single_0 rfl (lv_at hl 1 rfl) ?_
  refine lv_iload_n hx hb dX6_single_1 rfl (lv_at hl 2 rfl) ?_
  obtain ⟨t1, h⟩ := zc_at h
  obtain ⟨r3, c2, h⟩ := zd_at h
  refine z_cV hx hb hq hml hown hK hW hS 5 [.int a2] [] rfl (List.mem_singleton.mp t1) (c_X5_get l G st a1 a2 c2) (zi zm108) (zi zm109) (zi zm110) (zi zm32) (zi zm111) cal_X5_get rfl rfl hl.1 rfl (Nat.le_of_ble_eq_true rfl) (zR_ok (by omega) (by decide)) ⟨(Nat.le_of_ble_eq_true rfl), (Nat.le_of_ble_eq_true rfl)⟩ dX6_single_2 (fun H locs hW hS => ?_)
  refine W.eq (g2 := F0 m 5 ls [.int r3]) rfl ?_
  refine lv_istore (lv' := [(4, .int r3), (0, .ref (G.2.2.2 + o)), (1, .ref (G.2.2.2 + a1)), (2, .int a2), (3, .int a3)]) hx hb dX6_single_5 hl (by decide) rfl (fun ls hl => ?_)
  refine lv_iload hx hb dX6_single_7 (lv_at hl 0 rfl) ?_
  refine lv_bipush (v := (nI 33)) hx hb dX6_single_9 (by decide) ?_
  refine z_br (lv_icmp_eq (tgt := 28) hx hb dX6_single_11 (by decide)) h (fun h => ?_) (fun h => ?_)
  · exact B28 st r3 _ _ _ h hW hS (lv_sub hl [1, 2, 3, 4, 0] rfl)
  · refine lv_iload hx hb dX6_single_14 (lv_at hl 0 rfl) ?_
    refine lv_bipush (v := (nI 40)) hx hb dX6_single_16 (by decide) ?_
    refine z_br (lv_icmp_eq (tgt := 28) hx hb dX6_single_18 (by decide)) h (fun h => ?_) (fun h => ?_)
    · exact B28 st r3 _ _ _ h hW hS (lv_sub hl [1, 2, 3, 4, 0] rfl)
    · refine lv_aload_n hx hb dX6_single_21 rfl (lv_at hl 1 rfl) ?_
      refine lv_aload_n hx hb dX6_single_22 rfl (lv_at hl 2 rfl) ?_
      refine lv_iload_n hx hb dX6_single_23 rfl (lv_at hl 3 rfl) ?_
      obtain ⟨t19, h⟩ := zc_at h
      obtain ⟨st21, r22, c20, h⟩ := zb_at h
      refine z_cV hx hb hq hml hown hK hW hS 6 [.ref (G.2.2.2 + a1), .int a2] [] rfl (List.mem_singleton.mp t19) (c_X6_test l G N st o a1 a2 c20) (zi zm209) (zi zm210) (zi zm211) (zi zm28) (zi zm212) cal_X6_test rfl rfl hl.1 rfl (Nat.le_of_ble_eq_true rfl) (zR_ok (by omega) (by decide)) ⟨(Nat.le_of_ble_eq_true rfl), (Nat.le_of_ble_eq_true rfl)⟩ dX6_single_24 (fun H locs hW hS => ?_)
      refine W.eq (g2 := F0 m 27 ls [.int r22]) rfl ?_
      obtain ⟨rfl, rfl⟩ := Prod.mk.inj (Option.some.inj h)
      exact z_ri hx hb hr hlk hW hS (Nat.le_of_ble_eq_true rfl) (Nat.le_of_ble_eq_true rfl) dX6_single_27
def fg_X6 (N : Nat) : Nat → Nat → zS → Nat → Nat → Int32 → Int32 → Option (zS × Int32)
  | 0, _, _, _, _, _, _ => none
  | D + 1, k, st, o, b0, b1, b2 => if k = 0 then f_X6_either (fg_X6 N D) N st o b0 b1 b2 else if k = 1 then f_X6_both (fg_X6 N D) N st o b0 b1 b2 else f_X6_single (fg_X6 N D) N st o b0 b1 b2
def g_X6_either (N D : Nat) (st : zS) (o : Nat) (b0 : Nat) (b1 : Int32) (b2 : Int32) : Option (zS × Int32) := fg_X6 N D 0 st o b0 b1 b2
def g_X6_both (N D : Nat) (st : zS) (o : Nat) (b0 : Nat) (b1 : Int32) (b2 : Int32) : Option (zS × Int32) := fg_X6 N D 1 st o b0 b1 b2
def g_X6_single (N D : Nat) (st : zS) (o : Nat) (b0 : Nat) (b1 : Int32) (b2 : Int32) : Option (zS × Int32) := fg_X6 N D 2 st o b0 b1 b2
theorem cg_X6_all (l : Launch) (G : zG) (N : Nat) : ∀ D : Nat, (∀ (st : zS) (o : Nat) (b0 : Nat) (b1 : Int32) (b2 : Int32) (st' : zS) (r : Int32), fg_X6 N D 0 st o b0 b1 b2 = some (st', r) → zMet l G yX6_either cX6_either 6 (some .int) (6 + D) 0 0 [.ref (G.2.2.2 + o), .ref (G.2.2.2 + b0), .int b1, .int b2] st (some (.int r)) st') ∧ (∀ (st : zS) (o : Nat) (b0 : Nat) (b1 : Int32) (b2 : Int32) (st' : zS) (r : Int32), fg_X6 N D 1 st o b0 b1 b2 = some (st', r) → zMet l G yX6_both cX6_both 6 (some .int) (6 + D) 0 0 [.ref (G.2.2.2 + o), .ref (G.2.2.2 + b0), .int b1, .int b2] st (some (.int r)) st') ∧ (∀ (st : zS) (o : Nat) (b0 : Nat) (b1 : Int32) (b2 : Int32) (st' : zS) (r : Int32), fg_X6 N D 2 st o b0 b1 b2 = some (st', r) → zMet l G yX6_single cX6_single 6 (some .int) (6 + D) 0 0 [.ref (G.2.2.2 + o), .ref (G.2.2.2 + b0), .int b1, .int b2] st (some (.int r)) st') := by
  intro D
  induction D with
  | zero => exact ⟨fun st o b0 b1 b2 st' r h => (by unfold fg_X6 at h; cases h), fun st o b0 b1 b2 st' r h => (by unfold fg_X6 at h; cases h), fun st o b0 b1 b2 st' r h => (by unfold fg_X6 at h; cases h)⟩
  | succ D ih =>
    obtain ⟨i0, i1, i2⟩ := ih
    have q0 : ∀ (st : zS) (o : Nat) (b0 : Nat) (b1 : Int32) (b2 : Int32) (st' : zS) (r : Int32), fg_X6 N (D + 1) 0 st o b0 b1 b2 = some (st', r) → f_X6_either (fg_X6 N D) N st o b0 b1 b2 = some (st', r) := fun st o b0 b1 b2 st' r h => h
    have q1 : ∀ (st : zS) (o : Nat) (b0 : Nat) (b1 : Int32) (b2 : Int32) (st' : zS) (r : Int32), fg_X6 N (D + 1) 1 st o b0 b1 b2 = some (st', r) → f_X6_both (fg_X6 N D) N st o b0 b1 b2 = some (st', r) := fun st o b0 b1 b2 st' r h => h
    have q2 : ∀ (st : zS) (o : Nat) (b0 : Nat) (b1 : Int32) (b2 : Int32) (st' : zS) (r : Int32), fg_X6 N (D + 1) 2 st o b0 b1 b2 = some (st', r) → f_X6_single (fg_X6 N D) N st o b0 b1 b2 = some (st', r) := fun st o b0 b1 b2 st' r h => h
    exact ⟨fun st o b0 b1 b2 st' r h => c_X6_either l G D 6 (by decide) (fg_X6 N D) i0 i1 i2 N st o b0 b1 b2 (q0 _ _ _ _ _ _ _ h), fun st o b0 b1 b2 st' r h => c_X6_both l G D 6 (by decide) (fg_X6 N D) i0 i1 i2 N st o b0 b1 b2 (q1 _ _ _ _ _ _ _ h), fun st o b0 b1 b2 st' r h => c_X6_single l G D 6 (by decide) (fg_X6 N D) i0 i1 i2 N st o b0 b1 b2 (q2 _ _ _ _ _ _ _ h)⟩
theorem cg_X6_either (l : Launch) (G : zG) (N D : Nat) (st : zS) (o : Nat) (b0 : Nat) (b1 : Int32) (b2 : Int32) {st' : zS} {r : Int32} (h : g_X6_either N D st o b0 b1 b2 = some (st', r)) : zMet l G yX6_either cX6_either 6 (some .int) (6 + D) 0 0 [.ref (G.2.2.2 + o), .ref (G.2.2.2 + b0), .int b1, .int b2] st (some (.int r)) st' := (cg_X6_all l G N D).1 st o b0 b1 b2 st' r h
theorem cg_X6_both (l : Launch) (G : zG) (N D : Nat) (st : zS) (o : Nat) (b0 : Nat) (b1 : Int32) (b2 : Int32) {st' : zS} {r : Int32} (h : g_X6_both N D st o b0 b1 b2 = some (st', r)) : zMet l G yX6_both cX6_both 6 (some .int) (6 + D) 0 0 [.ref (G.2.2.2 + o), .ref (G.2.2.2 + b0), .int b1, .int b2] st (some (.int r)) st' := (cg_X6_all l G N D).2.1 st o b0 b1 b2 st' r h
theorem cg_X6_single (l : Launch) (G : zG) (N D : Nat) (st : zS) (o : Nat) (b0 : Nat) (b1 : Int32) (b2 : Int32) {st' : zS} {r : Int32} (h : g_X6_single N D st o b0 b1 b2 = some (st', r)) : zMet l G yX6_single cX6_single 6 (some .int) (6 + D) 0 0 [.ref (G.2.2.2 + o), .ref (G.2.2.2 + b0), .int b1, .int b2] st (some (.int r)) st' := (cg_X6_all l G N D).2.2 st o b0 b1 b2 st' r h
def f_X6_sees (N : Nat) (st : zS) (o : Nat) (a1 : Nat) (a2 : Int32) : Option (zS × Int32) := (Option.bind (f_X6_words N st a1 a2 3) (fun r2 => (Option.bind (f_X6_digits st a1 r2) (fun r4 => (Option.bind (f_X6_expect st a1 r4 (nI 32)) (fun r6 => (if zTg st o ∈ [16] then (zb (g_X6_either N 25 st o a1 r6 (nI 0)) (fun st9 r10 => (if r10 < 0 then (some (st9, r10)) else (Option.bind (f_X6_valueOf N st9 a1 r2 r4) (fun r12 => (if zTg st9 o ∈ [16] then (Option.bind (f_X6_put st9 o ((nI 3000) + r12)) (fun st15 => (some (st15, r10)))) else none)))))) else none)))))))
set_option maxHeartbeats 1000000 in
set_option maxRecDepth 100000 in
theorem c_X6_sees (l : Launch) (G : zG) (N : Nat) (st : zS) (o : Nat) (a1 : Nat) (a2 : Int32) {st' : zS} {r : Int32} (h : f_X6_sees N st o a1 a2 = some (st', r)) : zMet l G yX6_sees cX6_sees 6 (some .int) 32 0 0 [.ref (G.2.2.2 + o), .ref (G.2.2.2 + a1), .int a2] st (some (.int r)) st' := by
  refine zMet_of (by decide +kernel) ?_
  intro p e s m args below meth c X
  obtain ⟨hx, hb, hr, hml, hown, hq, hlk, hK, -, hin, hW, hS⟩ := X
  have hown : s.vm.findClass RX6 = some m.cls := hown
  refine z_ent (by exact Nat.le_of_ble_eq_true rfl) (fun ls hl => ?_)
  have hl : lv_has ls 6 [(0, .ref (G.2.2.2 + o)), (1, .ref (G.2.2.2 + a1)), (2, .int a2)] := hl
  unfold f_X6_sees at h
  refine lv_aload_n hx hb dX6_sees_0 rfl (lv_at hl 1 rfl) ?_
  refine lv_iload_n hx hb dX6_sees_1 rfl (lv_at hl 2 rfl) ?_
  refine va_ldcS hx hb hown (hK.2.2.2.2.2.2.1 3 (by decide)).2 dX6_sees_2 ?_
  obtain ⟨r2, c1, h⟩ := zd_at h
  refine z_cS hx hb hq hml hown hK hW hS [.ref (G.2.2.2 + a1), .int a2, .ref (G.2.2.1.1 (3))] [] (c_X6_words l G N st a1 a2 3 c1) (zi zm121) (zi zm122) (zi zm28) (zi zm123) cal_X6_words rfl hl.1 rfl (Nat.le_of_ble_eq_true rfl) (zR_ok (by omega) (by decide)) ⟨(Nat.le_of_ble_eq_true rfl), (Nat.le_of_ble_eq_true rfl)⟩ dX6_sees_4 (fun H locs hW hS => ?_)
  refine W.eq (g2 := F0 m 7 ls [.int r2]) rfl ?_
  refine lv_istore_n (lv' := [(3, .int r2), (0, .ref (G.2.2.2 + o)), (1, .ref (G.2.2.2 + a1)), (2, .int a2)]) hx hb dX6_sees_7 rfl hl (by decide) rfl (fun ls hl => ?_)
  refine lv_aload_n hx hb dX6_sees_8 rfl (lv_at hl 2 rfl) ?_
  refine lv_iload_n hx hb dX6_sees_9 rfl (lv_at hl 0 rfl) ?_
  obtain ⟨r4, c3, h⟩ := zd_at h
  refine z_cS hx hb hq hml hown hK hW hS [.ref (G.2.2.2 + a1), .int r2] [] (c_X6_digits l G st a1 r2 c3) (zi zm179) (zi zm180) (zi zm28) (zi zm181) cal_X6_digits rfl hl.1 rfl (Nat.le_of_ble_eq_true rfl) (zR_ok (by omega) (by decide)) ⟨(Nat.le_of_ble_eq_true rfl), (Nat.le_of_ble_eq_true rfl)⟩ dX6_sees_10 (fun H locs hW hS => ?_)
  refine W.eq (g2 := F0 m 13 ls [.int r4]) rfl ?_
  refine lv_istore (lv' := [(4, .int r4), (3, .int r2), (0, .ref (G.2.2.2 + o)), (1, .ref (G.2.2.2 + a1)), (2, .int a2)]) hx hb dX6_sees_13 hl (by decide) rfl (fun ls hl => ?_)
  refine lv_aload_n hx hb dX6_sees_15 rfl (lv_at hl 2 rfl) ?_
  refine lv_aload_n hx hb dX6_sees_16 rfl (lv_at hl 3 rfl) ?_
  refine lv_aload_n hx hb dX6_sees_17 rfl (lv_at hl 3 rfl) ?_
  refine lv_iload hx hb dX6_sees_18 (lv_at hl 0 rfl) ?_
  refine lv_bipush (v := (nI 32)) hx hb dX6_sees_20 (by decide) ?_
  obtain ⟨r6, c5, h⟩ := zd_at h
  refine z_cS hx hb hq hml hown hK hW hS [.ref (G.2.2.2 + a1), .int r4, .int ((nI 32))] [.ref (G.2.2.2 + a1), .ref (G.2.2.2 + o)] (c_X6_expect l G st a1 r4 (nI 32) c5) (zi zm173) (zi zm174) (zi zm28) (zi zm175) cal_X6_expect rfl hl.1 rfl (Nat.le_of_ble_eq_true rfl) (zR_ok (by omega) (by decide)) ⟨(Nat.le_of_ble_eq_true rfl), (Nat.le_of_ble_eq_true rfl)⟩ dX6_sees_22 (fun H locs hW hS => ?_)
  refine W.eq (g2 := F0 m 25 ls [.int r6, .ref (G.2.2.2 + a1), .ref (G.2.2.2 + o)]) rfl ?_
  refine lv_iconst (v := (nI 0)) hx hb dX6_sees_25 (by decide) ?_
  obtain ⟨t7, h⟩ := zc_at h
  obtain ⟨st9, r10, c8, h⟩ := zb_at h
  refine z_cV hx hb hq hml hown hK hW hS 6 [.ref (G.2.2.2 + a1), .int r6, .int ((nI 0))] [] rfl (List.mem_singleton.mp t7) (cg_X6_either l G N 25 st o a1 r6 (nI 0) c8) (zi zm192) (zi zm193) (zi zm194) (zi zm28) (zi zm195) cal_X6_either rfl rfl hl.1 rfl (Nat.le_of_ble_eq_true rfl) (zR_ok (by omega) (by decide)) ⟨(Nat.le_of_ble_eq_true rfl), (Nat.le_of_ble_eq_true rfl)⟩ dX6_sees_26 (fun H locs hW hS => ?_)
  refine W.eq (g2 := F0 m 29 ls [.int r10]) rfl ?_
  refine lv_istore (lv' := [(5, .int r10), (4, .int r4), (3, .int r2), (0, .ref (G.2.2.2 + o)), (1, .ref (G.2.2.2 + a1)), (2, .int a2)]) hx hb dX6_sees_29 hl (by decide) rfl (fun ls hl => ?_)
  refine lv_iload hx hb dX6_sees_31 (lv_at hl 0 rfl) ?_
  refine z_br (lv_if_lt (tgt := 51) hx hb dX6_sees_33 (by decide)) h (fun h => ?_) (fun h => ?_)
  · refine lv_iload hx hb dX6_sees_51 (lv_at hl 0 rfl) ?_
    obtain ⟨rfl, rfl⟩ := Prod.mk.inj (Option.some.inj h)
    exact z_ri hx hb hr hlk hW hS (Nat.le_of_ble_eq_true rfl) (Nat.le_of_ble_eq_true rfl) dX6_sees_53
  · refine lv_aload_n hx hb dX6_sees_36 rfl (lv_at hl 3 rfl) ?_
    refine lv_sipush (v := (nI 3000)) hx hb dX6_sees_37 (by decide) ?_
    refine lv_aload_n hx hb dX6_sees_40 rfl (lv_at hl 4 rfl) ?_
    refine lv_iload_n hx hb dX6_sees_41 rfl (lv_at hl 2 rfl) ?_
    refine lv_iload hx hb dX6_sees_42 (lv_at hl 1 rfl) ?_
    obtain ⟨r12, c11, h⟩ := zd_at h
    refine z_cS hx hb hq hml hown hK hW hS [.ref (G.2.2.2 + a1), .int r2, .int r4] [.int ((nI 3000)), .ref (G.2.2.2 + o)] (c_X6_valueOf l G N st9 a1 r2 r4 c11) (zi zm185) (zi zm186) (zi zm28) (zi zm187) cal_X6_valueOf rfl hl.1 rfl (Nat.le_of_ble_eq_true rfl) (zR_ok (by omega) (by decide)) ⟨(Nat.le_of_ble_eq_true rfl), (Nat.le_of_ble_eq_true rfl)⟩ dX6_sees_44 (fun H locs hW hS => ?_)
    refine W.eq (g2 := F0 m 47 ls [.int r12, .int ((nI 3000)), .ref (G.2.2.2 + o)]) rfl ?_
    refine lv_iadd hx hb dX6_sees_47 ?_
    obtain ⟨t13, h⟩ := zc_at h
    obtain ⟨st15, c14, h⟩ := zd_at h
    refine z_cV hx hb hq hml hown hK hW hS 6 [.int (((nI 3000) + r12))] [] rfl (List.mem_singleton.mp t13) (c_X6_put l G st9 o ((nI 3000) + r12) c14) (zi zm199) (zi zm200) (zi zm201) (zi zm28) (zi zm202) cal_X6_put rfl rfl hl.1 rfl (Nat.le_of_ble_eq_true rfl) (zR_ok (by omega) (by decide)) ⟨(Nat.le_of_ble_eq_true rfl), (Nat.le_of_ble_eq_true rfl)⟩ dX6_sees_48 (fun H locs hW hS => ?_)
    refine W.eq (g2 := F0 m 51 ls []) rfl ?_
    refine lv_iload hx hb dX6_sees_51 (lv_at hl 0 rfl) ?_
    obtain ⟨rfl, rfl⟩ := Prod.mk.inj (Option.some.inj h)
    exact z_ri hx hb hr hlk hW hS (Nat.le_of_ble_eq_true rfl) (Nat.le_of_ble_eq_true rfl) dX6_sees_53
def f_X6_clause (N : Nat) (st : zS) (o : Nat) (a1 : Nat) (a2 : Int32) : Option (zS × Int32) := (if zTg st a1 ∈ [15] then (Option.bind (f_X5_get st a1 a2) (fun r3 => (if r3 = (nI 99) then (if zTg st o ∈ [16] then (zb (f_X6_setting N st o a1 a2 2) (fun st7 r8 => (some (st7, r8)))) else none) else (if r3 = (nI 108) then (if zTg st o ∈ [16] then (zb (f_X6_setting N st o a1 a2 1) (fun st12 r13 => (some (st12, r13)))) else none) else (if r3 = (nI 115) then (if zTg st o ∈ [16] then (zb (f_X6_sees N st o a1 a2) (fun st17 r18 => (some (st17, r18)))) else none) else (if r3 = (nI 119) then (if zTg st o ∈ [16] then (zb (f_X6_setting N st o a1 a2 0) (fun st22 r23 => (some (st22, r23)))) else none) else (Option.bind (f_X6_stuck a2) (fun r25 => (some (st, r25)))))))))) else none)
set_option maxHeartbeats 1000000 in
set_option maxRecDepth 100000 in
theorem c_X6_clause (l : Launch) (G : zG) (N : Nat) (st : zS) (o : Nat) (a1 : Nat) (a2 : Int32) {st' : zS} {r : Int32} (h : f_X6_clause N st o a1 a2 = some (st', r)) : zMet l G yX6_clause cX6_clause 3 (some .int) 33 0 0 [.ref (G.2.2.2 + o), .ref (G.2.2.2 + a1), .int a2] st (some (.int r)) st' := by
  refine zMet_of (by decide +kernel) ?_
  intro p e s m args below meth c X
  obtain ⟨hx, hb, hr, hml, hown, hq, hlk, hK, -, hin, hW, hS⟩ := X
  have hown : s.vm.findClass RX6 = some m.cls := hown
  refine z_ent (by exact Nat.le_of_ble_eq_true rfl) (fun ls hl => ?_)
  have hl : lv_has ls 3 [(0, .ref (G.2.2.2 + o)), (1, .ref (G.2.2.2 + a1)), (2, .int a2)] := hl
  unfold f_X6_clause at h
  refine lv_aload_n hx hb dX6_clause_0 rfl (lv_at hl 1 rfl) ?_
  refine lv_iload_n hx hb dX6_clause_1 rfl (lv_at hl 2 rfl) ?_
  obtain ⟨t1, h⟩ := zc_at h
  obtain ⟨r3, c2, h⟩ := zd_at h
  refine z_cV hx hb hq hml hown hK hW hS 5 [.int a2] [] rfl (List.mem_singleton.mp t1) (c_X5_get l G st a1 a2 c2) (zi zm108) (zi zm109) (zi zm110) (zi zm32) (zi zm111) cal_X5_get rfl rfl hl.1 rfl (Nat.le_of_ble_eq_true rfl) (zR_ok (by omega) (by decide)) ⟨(Nat.le_of_ble_eq_true rfl), (Nat.le_of_ble_eq_true rfl)⟩ dX6_clause_2 (fun H locs hW hS => ?_)
  refine W.eq (g2 := F0 m 5 ls [.int r3]) rfl ?_
  rcases zi_at h with ⟨k4, h⟩ | ⟨k4, h⟩
  · refine lv_lookup (off := 61) (tgt := 66) hx hb dX6_clause_5 (by decide) (by rw [k4]; rfl) (by decide) ?_
    refine lv_aload_n hx hb dX6_clause_66 rfl (lv_at hl 0 rfl) ?_
    refine lv_aload_n hx hb dX6_clause_67 rfl (lv_at hl 1 rfl) ?_
    refine lv_iload_n hx hb dX6_clause_68 rfl (lv_at hl 2 rfl) ?_
    refine va_ldcS hx hb hown (hK.2.2.2.2.2.2.1 2 (by decide)).2 dX6_clause_69 ?_
    obtain ⟨t5, h⟩ := zc_at h
    obtain ⟨st7, r8, c6, h⟩ := zb_at h
    refine z_cV hx hb hq hml hown hK hW hS 6 [.ref (G.2.2.2 + a1), .int a2, .ref (G.2.2.1.1 (2))] [] rfl (List.mem_singleton.mp t5) (c_X6_setting l G N st o a1 a2 2 c6) (zi zm112) (zi zm113) (zi zm114) (zi zm28) (zi zm115) cal_X6_setting rfl rfl hl.1 rfl (Nat.le_of_ble_eq_true rfl) (zR_ok (by omega) (by decide)) ⟨(Nat.le_of_ble_eq_true rfl), (Nat.le_of_ble_eq_true rfl)⟩ dX6_clause_71 (fun H locs hW hS => ?_)
    refine W.eq (g2 := F0 m 74 ls [.int r8]) rfl ?_
    obtain ⟨rfl, rfl⟩ := Prod.mk.inj (Option.some.inj h)
    exact z_ri hx hb hr hlk hW hS (Nat.le_of_ble_eq_true rfl) (Nat.le_of_ble_eq_true rfl) dX6_clause_74
  · rcases zi_at h with ⟨k9, h⟩ | ⟨k9, h⟩
    · refine lv_lookup (off := 52) (tgt := 57) hx hb dX6_clause_5 (by decide) (by rw [k9]; rfl) (by decide) ?_
      refine lv_aload_n hx hb dX6_clause_57 rfl (lv_at hl 0 rfl) ?_
      refine lv_aload_n hx hb dX6_clause_58 rfl (lv_at hl 1 rfl) ?_
      refine lv_iload_n hx hb dX6_clause_59 rfl (lv_at hl 2 rfl) ?_
      refine va_ldcS hx hb hown (hK.2.2.2.2.2.2.1 1 (by decide)).2 dX6_clause_60 ?_
      obtain ⟨t10, h⟩ := zc_at h
      obtain ⟨st12, r13, c11, h⟩ := zb_at h
      refine z_cV hx hb hq hml hown hK hW hS 6 [.ref (G.2.2.2 + a1), .int a2, .ref (G.2.2.1.1 (1))] [] rfl (List.mem_singleton.mp t10) (c_X6_setting l G N st o a1 a2 1 c11) (zi zm112) (zi zm113) (zi zm114) (zi zm28) (zi zm115) cal_X6_setting rfl rfl hl.1 rfl (Nat.le_of_ble_eq_true rfl) (zR_ok (by omega) (by decide)) ⟨(Nat.le_of_ble_eq_true rfl), (Nat.le_of_ble_eq_true rfl)⟩ dX6_clause_62 (fun H locs hW hS => ?_)
      refine W.eq (g2 := F0 m 65 ls [.int r13]) rfl ?_
      obtain ⟨rfl, rfl⟩ := Prod.mk.inj (Option.some.inj h)
      exact z_ri hx hb hr hlk hW hS (Nat.le_of_ble_eq_true rfl) (Nat.le_of_ble_eq_true rfl) dX6_clause_65
    · rcases zi_at h with ⟨k14, h⟩ | ⟨k14, h⟩
      · refine lv_lookup (off := 70) (tgt := 75) hx hb dX6_clause_5 (by decide) (by rw [k14]; rfl) (by decide) ?_
        refine lv_aload_n hx hb dX6_clause_75 rfl (lv_at hl 0 rfl) ?_
        refine lv_aload_n hx hb dX6_clause_76 rfl (lv_at hl 1 rfl) ?_
        refine lv_iload_n hx hb dX6_clause_77 rfl (lv_at hl 2 rfl) ?_
        obtain ⟨t15, h⟩ := zc_at h
        obtain ⟨st17, r18, c16, h⟩ := zb_at h
        refine z_cV hx hb hq hml hown hK hW hS 6 [.ref (G.2.2.2 + a1), .int a2] [] rfl (List.mem_singleton.mp t15) (c_X6_sees l G N st o a1 a2 c16) (zi zm188) (zi zm189) (zi zm190) (zi zm28) (zi zm191) cal_X6_sees rfl rfl hl.1 rfl (Nat.le_of_ble_eq_true rfl) (zR_ok (by omega) (by decide)) ⟨(Nat.le_of_ble_eq_true rfl), (Nat.le_of_ble_eq_true rfl)⟩ dX6_clause_78 (fun H locs hW hS => ?_)
        refine W.eq (g2 := F0 m 81 ls [.int r18]) rfl ?_
        obtain ⟨rfl, rfl⟩ := Prod.mk.inj (Option.some.inj h)
        exact z_ri hx hb hr hlk hW hS (Nat.le_of_ble_eq_true rfl) (Nat.le_of_ble_eq_true rfl) dX6_clause_81
      · rcases zi_at h with ⟨k19, h⟩ | ⟨k19, h⟩
        · refine lv_lookup (off := 43) (tgt := 48) hx hb dX6_clause_5 (by decide) (by rw [k19]; rfl) (by decide) ?_
          refine lv_aload_n hx hb dX6_clause_48 rfl (lv_at hl 0 rfl) ?_
          refine lv_aload_n hx hb dX6_clause_49 rfl (lv_at hl 1 rfl) ?_
          refine lv_iload_n hx hb dX6_clause_50 rfl (lv_at hl 2 rfl) ?_
          refine va_ldcS hx hb hown (hK.2.2.2.2.2.2.1 0 (by decide)).2 dX6_clause_51 ?_
          obtain ⟨t20, h⟩ := zc_at h
          obtain ⟨st22, r23, c21, h⟩ := zb_at h
          refine z_cV hx hb hq hml hown hK hW hS 6 [.ref (G.2.2.2 + a1), .int a2, .ref (G.2.2.1.1 (0))] [] rfl (List.mem_singleton.mp t20) (c_X6_setting l G N st o a1 a2 0 c21) (zi zm112) (zi zm113) (zi zm114) (zi zm28) (zi zm115) cal_X6_setting rfl rfl hl.1 rfl (Nat.le_of_ble_eq_true rfl) (zR_ok (by omega) (by decide)) ⟨(Nat.le_of_ble_eq_true rfl), (Nat.le_of_ble_eq_true rfl)⟩ dX6_clause_53 (fun H locs hW hS => ?_)
          refine W.eq (g2 := F0 m 56 ls [.int r23]) rfl ?_
          obtain ⟨rfl, rfl⟩ := Prod.mk.inj (Option.some.inj h)
          exact z_ri hx hb hr hlk hW hS (Nat.le_of_ble_eq_true rfl) (Nat.le_of_ble_eq_true rfl) dX6_clause_56
        · refine lv_lookup (off := 77) (tgt := 82) hx hb dX6_clause_5 (by decide) (by show Op.lookupswitch.offset [(99, 61), (108, 52), (115, 70), (119, 43)] 77 _ = _; rw [lv_osw k4 (by decide), lv_osw k9 (by decide), lv_osw k14 (by decide), lv_osw k19 (by decide)]; rfl) (by decide) ?_
          refine lv_iload_n hx hb dX6_clause_82 rfl (lv_at hl 2 rfl) ?_
          obtain ⟨r25, c24, h⟩ := zd_at h
          refine z_cS hx hb hq hml hown hK hW hS [.int a2] [] (c_X6_stuck l G st a2 c24) (zi zm176) (zi zm177) (zi zm28) (zi zm178) cal_X6_stuck rfl hl.1 rfl (Nat.le_of_ble_eq_true rfl) (zR_ok (by omega) (by decide)) ⟨(Nat.le_of_ble_eq_true rfl), (Nat.le_of_ble_eq_true rfl)⟩ dX6_clause_83 (fun H locs hW hS => ?_)
          refine W.eq (g2 := F0 m 86 ls [.int r25]) rfl ?_
          obtain ⟨rfl, rfl⟩ := Prod.mk.inj (Option.some.inj h)
          exact z_ri hx hb hr hlk hW hS (Nat.le_of_ble_eq_true rfl) (Nat.le_of_ble_eq_true rfl) dX6_clause_86
def f_X6_read_51 (N : Nat) (o : Nat) (a1 : Nat) (k4 : zS → Int32 → Int32 → Option (zS × Int32)) (st : zS) (x3 : Int32) (y0 : Int32) : Option (zS × Int32) := (k4 st y0 (x3 + (nI 1)))
def f_X6_read_4 (N : Nat) (o : Nat) (a1 : Nat)  : Nat → zS → Int32 → Int32 → Option (zS × Int32)
  | 0, _, _, _ => none
  | n4 + 1, st, x2, x3 => (if x2 < 0 then (some (st, ((-1 : Int32) - x2))) else (if (nI 10) < x3 then (some (st, ((-1 : Int32) - x2))) else (if zTg st o ∈ [16] then (zb (f_X6_clause N st o a1 x2) (fun st3 r4 => (if zTg st3 a1 ∈ [15] then (Option.bind (f_X5_size st3 a1) (fun r7 => (if r4 = r7 then (some (st3, (-1 : Int32))) else (if x3 = (nI 10) then (Option.bind (f_X6_stuck r4) (fun r11 => (f_X6_read_51 N o a1 (f_X6_read_4 N o a1 n4) st3 x3 r11))) else (Option.bind (f_X6_expect st3 a1 r4 (nI 59)) (fun r9 => (f_X6_read_51 N o a1 (f_X6_read_4 N o a1 n4) st3 x3 r9))))))) else none))) else none)))
def f_X6_read (N : Nat) (st : zS) (o : Nat) (a1 : Nat) : Option (zS × Int32) := (f_X6_read_4 N o a1 N st (nI 0) (nI 1))
set_option maxHeartbeats 1000000 in
set_option maxRecDepth 100000 in
theorem c_X6_read (l : Launch) (G : zG) (N : Nat) (st : zS) (o : Nat) (a1 : Nat) {st' : zS} {r : Int32} (h : f_X6_read N st o a1 = some (st', r)) : zMet l G yX6_read cX6_read 4 (some .int) 34 0 0 [.ref (G.2.2.2 + o), .ref (G.2.2.2 + a1)] st (some (.int r)) st' := by
  refine zMet_of (by decide +kernel) ?_
  intro p e s m args below meth c X
  obtain ⟨hx, hb, hr, hml, hown, hq, hlk, hK, -, hin, hW, hS⟩ := X
  have hown : s.vm.findClass RX6 = some m.cls := hown
  refine z_ent (by exact Nat.le_of_ble_eq_true rfl) (fun ls hl => ?_)
  have hl : lv_has ls 4 [(0, .ref (G.2.2.2 + o)), (1, .ref (G.2.2.2 + a1))] := hl
  unfold f_X6_read at h
  have B4 : ∀ (n4 : Nat) (st : zS) (x2 : Int32) (x3 : Int32) (H : Heap) (locs : List Loc) (ls : Array Slot), f_X6_read_4 N o a1 n4 st x2 x3 = some (st', r) → zWd G st H → va_S (zA G) s.heap H locs → lv_has ls 4 [(0, .ref (G.2.2.2 + o)), (1, .ref (G.2.2.2 + a1)), (2, .int x2), (3, .int x3)] → W p l e (zRm 34 0 0) s m args below meth c H locs 0 0 (MQ below (zQ G (some (.int r)) st') args s 0 0 (zA G)) (F0 m 4 ls []) := by
    intro n4
    induction n4 with
    | zero =>
      intro st x2 x3 H locs ls h
      unfold f_X6_read_4 at h
      cases h
    | succ n4 ih4 =>
      have B51 : ∀ (st : zS) (x3 : Int32) (y0 : Int32) (H : Heap) (locs : List Loc) (ls : Array Slot), f_X6_read_51 N o a1 (f_X6_read_4 N o a1 n4) st x3 y0 = some (st', r) → zWd G st H → va_S (zA G) s.heap H locs → lv_has ls 4 [(0, .ref (G.2.2.2 + o)), (1, .ref (G.2.2.2 + a1)), (3, .int x3)] → W p l e (zRm 34 0 0) s m args below meth c H locs 0 0 (MQ below (zQ G (some (.int r)) st') args s 0 0 (zA G)) (F0 m 51 ls [.int y0]) := by
        intro st x3 y0 H locs ls h hW hS hl
        unfold f_X6_read_51 at h
        refine lv_istore_n (lv' := [(2, .int y0), (0, .ref (G.2.2.2 + o)), (1, .ref (G.2.2.2 + a1)), (3, .int x3)]) hx hb dX6_read_51 rfl hl (by decide) rfl (fun ls hl => ?_)
        refine lv_iinc (v := (x3 + (nI 1))) (lv' := [(3, .int ((x3 + (nI 1)))), (2, .int y0), (0, .ref (G.2.2.2 + o)), (1, .ref (G.2.2.2 + a1))]) hx hb dX6_read_52 hl (k := 3) rfl rfl (by decide) rfl (fun ls hl => ?_)
        refine lv_goto (tgt := 4) hx hb dX6_read_55 (by decide) ?_
        exact ih4 st y0 (x3 + (nI 1)) _ _ _ h hW hS (lv_sub hl [2, 3, 1, 0] rfl)
      intro st x2 x3 H locs ls h hW hS hl
      unfold f_X6_read_4 at h
      refine lv_iload_n hx hb dX6_read_4 rfl (lv_at hl 2 rfl) ?_
      refine z_br (lv_if_lt (tgt := 58) hx hb dX6_read_5 (by decide)) h (fun h => ?_) (fun h => ?_)
      · refine lv_iconst (v := (-1)) hx hb dX6_read_58 (by decide) ?_
        refine lv_iload_n hx hb dX6_read_59 rfl (lv_at hl 2 rfl) ?_
        refine lv_isub hx hb dX6_read_60 ?_
        obtain ⟨rfl, rfl⟩ := Prod.mk.inj (Option.some.inj h)
        exact z_ri hx hb hr hlk hW hS (Nat.le_of_ble_eq_true rfl) (Nat.le_of_ble_eq_true rfl) dX6_read_61
      · refine lv_iload_n hx hb dX6_read_8 rfl (lv_at hl 3 rfl) ?_
        refine lv_bipush (v := (nI 10)) hx hb dX6_read_9 (by decide) ?_
        refine z_br (lv_icmp_gt (tgt := 58) hx hb dX6_read_11 (by decide)) h (fun h => ?_) (fun h => ?_)
        · refine lv_iconst (v := (-1)) hx hb dX6_read_58 (by decide) ?_
          refine lv_iload_n hx hb dX6_read_59 rfl (lv_at hl 2 rfl) ?_
          refine lv_isub hx hb dX6_read_60 ?_
          obtain ⟨rfl, rfl⟩ := Prod.mk.inj (Option.some.inj h)
          exact z_ri hx hb hr hlk hW hS (Nat.le_of_ble_eq_true rfl) (Nat.le_of_ble_eq_true rfl) dX6_read_61
        · refine lv_aload_n hx hb dX6_read_14 rfl (lv_at hl 0 rfl) ?_
          refine lv_aload_n hx hb dX6_read_15 rfl (lv_at hl 1 rfl) ?_
          refine lv_iload_n hx hb dX6_read_16 rfl (lv_at hl 2 rfl) ?_
          obtain ⟨t1, h⟩ := zc_at h
          obtain ⟨st3, r4, c2, h⟩ := zb_at h
          refine z_cV hx hb hq hml hown hK hW hS 6 [.ref (G.2.2.2 + a1), .int x2] [] rfl (List.mem_singleton.mp t1) (c_X6_clause l G N st o a1 x2 c2) (zi zm104) (zi zm105) (zi zm106) (zi zm28) (zi zm107) cal_X6_clause rfl rfl hl.1 rfl (Nat.le_of_ble_eq_true rfl) (zR_ok (by omega) (by decide)) ⟨(Nat.le_of_ble_eq_true rfl), (Nat.le_of_ble_eq_true rfl)⟩ dX6_read_17 (fun H locs hW hS => ?_)
          refine W.eq (g2 := F0 m 20 ls [.int r4]) rfl ?_
          refine lv_istore_n (lv' := [(2, .int r4), (0, .ref (G.2.2.2 + o)), (1, .ref (G.2.2.2 + a1)), (3, .int x3)]) hx hb dX6_read_20 rfl hl (by decide) rfl (fun ls hl => ?_)
          refine lv_iload_n hx hb dX6_read_21 rfl (lv_at hl 0 rfl) ?_
          refine lv_aload_n hx hb dX6_read_22 rfl (lv_at hl 2 rfl) ?_
          obtain ⟨t5, h⟩ := zc_at h
          obtain ⟨r7, c6, h⟩ := zd_at h
          refine z_cV hx hb hq hml hown hK hW hS 5 [] [.int r4] rfl (List.mem_singleton.mp t5) (c_X5_size l G st3 a1 c6) (zi zm272) (zi zm83) (zi zm84) (zi zm32) (zi zm85) cal_X5_size rfl rfl hl.1 rfl (Nat.le_of_ble_eq_true rfl) (zR_ok (by omega) (by decide)) ⟨(Nat.le_of_ble_eq_true rfl), (Nat.le_of_ble_eq_true rfl)⟩ dX6_read_23 (fun H locs hW hS => ?_)
          refine W.eq (g2 := F0 m 26 ls [.int r7, .int r4]) rfl ?_
          refine z_brn (lv_icmp_ne (tgt := 31) hx hb dX6_read_26 (by decide)) h (fun h => ?_) (fun h => ?_)
          · refine lv_iload_n hx hb dX6_read_31 rfl (lv_at hl 3 rfl) ?_
            refine lv_bipush (v := (nI 10)) hx hb dX6_read_32 (by decide) ?_
            refine z_brn (lv_icmp_ne (tgt := 44) hx hb dX6_read_34 (by decide)) h (fun h => ?_) (fun h => ?_)
            · refine lv_aload_n hx hb dX6_read_44 rfl (lv_at hl 2 rfl) ?_
              refine lv_iload_n hx hb dX6_read_45 rfl (lv_at hl 0 rfl) ?_
              refine lv_bipush (v := (nI 59)) hx hb dX6_read_46 (by decide) ?_
              obtain ⟨r9, c8, h⟩ := zd_at h
              refine z_cS hx hb hq hml hown hK hW hS [.ref (G.2.2.2 + a1), .int r4, .int ((nI 59))] [] (c_X6_expect l G st3 a1 r4 (nI 59) c8) (zi zm173) (zi zm174) (zi zm28) (zi zm175) cal_X6_expect rfl hl.1 rfl (Nat.le_of_ble_eq_true rfl) (zR_ok (by omega) (by decide)) ⟨(Nat.le_of_ble_eq_true rfl), (Nat.le_of_ble_eq_true rfl)⟩ dX6_read_48 (fun H locs hW hS => ?_)
              refine W.eq (g2 := F0 m 51 ls [.int r9]) rfl ?_
              exact B51 st3 x3 r9 _ _ _ h hW hS (lv_sub hl [1, 2, 3] rfl)
            · refine lv_iload_n hx hb dX6_read_37 rfl (lv_at hl 0 rfl) ?_
              obtain ⟨r11, c10, h⟩ := zd_at h
              refine z_cS hx hb hq hml hown hK hW hS [.int r4] [] (c_X6_stuck l G st3 r4 c10) (zi zm176) (zi zm177) (zi zm28) (zi zm178) cal_X6_stuck rfl hl.1 rfl (Nat.le_of_ble_eq_true rfl) (zR_ok (by omega) (by decide)) ⟨(Nat.le_of_ble_eq_true rfl), (Nat.le_of_ble_eq_true rfl)⟩ dX6_read_38 (fun H locs hW hS => ?_)
              refine W.eq (g2 := F0 m 41 ls [.int r11]) rfl ?_
              refine lv_goto (tgt := 51) hx hb dX6_read_41 (by decide) ?_
              exact B51 st3 x3 r11 _ _ _ h hW hS (lv_sub hl [1, 2, 3] rfl)
          · refine lv_iconst (v := (-1)) hx hb dX6_read_29 (by decide) ?_
            obtain ⟨rfl, rfl⟩ := Prod.mk.inj (Option.some.inj h)
            exact z_ri hx hb hr hlk hW hS (Nat.le_of_ble_eq_true rfl) (Nat.le_of_ble_eq_true rfl) dX6_read_30
  refine lv_iconst (v := (nI 0)) hx hb dX6_read_0 (by decide) ?_
  refine lv_istore_n (lv' := [(2, .int ((nI 0))), (0, .ref (G.2.2.2 + o)), (1, .ref (G.2.2.2 + a1))]) hx hb dX6_read_1 rfl hl (by decide) rfl (fun ls hl => ?_)
  refine lv_iconst (v := (nI 1)) hx hb dX6_read_2 (by decide) ?_
  refine lv_istore_n (lv' := [(3, .int ((nI 1))), (2, .int ((nI 0))), (0, .ref (G.2.2.2 + o)), (1, .ref (G.2.2.2 + a1))]) hx hb dX6_read_3 rfl hl (by decide) rfl (fun ls hl => ?_)
  exact B4 N st (nI 0) (nI 1) _ _ _ h hW hS (lv_sub hl [2, 3, 1, 0] rfl)
def f_X7_init (st : zS) (o : Nat) (a1 : Int32) (a2 : Int32) (a3 : Int32) (a4 : Nat) : Option zS := (Option.bind (f_X3_init st o (nI 6) a1 a2 a3) (fun st2 => (if zTg st2 o ∈ [17] then (some (zPR st2 o 4 (some a4))) else none)))
set_option maxHeartbeats 1000000 in
set_option maxRecDepth 100000 in
theorem c_X7_init (l : Launch) (G : zG) (st : zS) (o : Nat) (a1 : Int32) (a2 : Int32) (a3 : Int32) (a4 : Nat) {st' : zS} (h : f_X7_init st o a1 a2 a3 a4 = some st') : zMet l G yX7_init cX7_init 5 none 3 0 0 [.ref (G.2.2.2 + o), .int a1, .int a2, .int a3, .ref (G.2.2.2 + a4)] st none st' := by
  refine zMet_of (by decide +kernel) ?_
  intro p e s m args below meth c X
  obtain ⟨hx, hb, hr, hml, hown, hq, hlk, hK, -, hin, hW, hS⟩ := X
  have hown : s.vm.findClass RX7 = some m.cls := hown
  refine z_ent (by exact Nat.le_of_ble_eq_true rfl) (fun ls hl => ?_)
  have hl : lv_has ls 5 [(0, .ref (G.2.2.2 + o)), (1, .int a1), (2, .int a2), (3, .int a3), (4, .ref (G.2.2.2 + a4))] := hl
  unfold f_X7_init at h
  refine lv_aload_n hx hb dX7_init_0 rfl (lv_at hl 0 rfl) ?_
  refine lv_bipush (v := (nI 6)) hx hb dX7_init_1 (by decide) ?_
  refine lv_iload_n hx hb dX7_init_3 rfl (lv_at hl 1 rfl) ?_
  refine lv_iload_n hx hb dX7_init_4 rfl (lv_at hl 2 rfl) ?_
  refine lv_iload_n hx hb dX7_init_5 rfl (lv_at hl 3 rfl) ?_
  obtain ⟨st2, c1, h⟩ := zd_at h
  refine z_cI hx hb hq hml hown hK hW hS [.int ((nI 6)), .int a1, .int a2, .int a3] [] (c_X3_init l G st o (nI 6) a1 a2 a3 c1) (zi zm399) (zi zm384) (zi zm355) (zi zm385) cal_X3_init rfl rfl hl.1 rfl (Nat.le_of_ble_eq_true rfl) (zR_ok (by omega) (by decide)) ⟨(Nat.le_of_ble_eq_true rfl), (Nat.le_of_ble_eq_true rfl)⟩ dX7_init_6 (fun H locs hW hS => ?_)
  refine W.eq (g2 := F0 m 9 ls []) rfl ?_
  refine lv_aload_n hx hb dX7_init_9 rfl (lv_at hl 0 rfl) ?_
  refine lv_aload hx hb dX7_init_10 (lv_at hl 4 rfl) ?_
  obtain ⟨t3, h⟩ := zc_at h
  refine z_pR hx hb hq hown hK hW hS fp_RX7_7 t3 (fun _ => hin) (fun _ => rfl) (fun _ => rfl) dX7_init_12 (fun H locs hW hS => ?_)
  obtain rfl := Option.some.inj h
  exact z_rv hx hb hr hlk hW hS (Nat.le_of_ble_eq_true rfl) (Nat.le_of_ble_eq_true rfl) dX7_init_15
def f_X7_withRow_25 (o : Nat) (a1 : Int32) (a2 : Int32)  (st : zS) (x3 : Nat) : Option (zS × (Option Nat)) := (if zTg (zNw st 17 0) o ∈ [17] then (Option.bind (f_X7_init (zNw st 17 0) ((st).1) (zM (zNw st 17 0) o 1) (zM (zNw st 17 0) o 2) (zM (zNw st 17 0) o 3) x3) (fun st8 => (some (st8, ((some (st).1) : Option Nat))))) else none)
def f_X7_withRow (st : zS) (o : Nat) (a1 : Int32) (a2 : Int32) : Option (zS × (Option Nat)) := (if zTg st o ∈ [17] then (Option.bind (zR st o 4) (fun b2 => (if zTg st b2 ∈ [1] then (if zLn st b2 = 4 then (if zTg (zCl st b2) (st).1 ∈ [1] then (if a1 < 0 then (f_X7_withRow_25 o a1 a2 (zCl st b2) ((st).1)) else (if (nI (zLn (zCl st b2) (st).1)) ≤ a1 then (f_X7_withRow_25 o a1 a2 (zCl st b2) ((st).1)) else (if zin a1 (zLn (zCl st b2) (st).1) then (f_X7_withRow_25 o a1 a2 (zPM (zCl st b2) (st).1 (a1).toNatClampNeg a2) ((st).1)) else none))) else none) else none) else none))) else none)
set_option maxHeartbeats 1000000 in
set_option maxRecDepth 100000 in
theorem c_X7_withRow (l : Launch) (G : zG) (st : zS) (o : Nat) (a1 : Int32) (a2 : Int32) {st' : zS} {r : Option Nat} (h : f_X7_withRow st o a1 a2 = some (st', r)) : zMet l G yX7_withRow cX7_withRow 4 (some (.object "TwoPens$Told")) 4 2 9 [.ref (G.2.2.2 + o), .int a1, .int a2] st (some (zrf G.2.2.2 r)) st' := by
  refine zMet_of (by decide +kernel) ?_
  intro p e s m args below meth c X
  obtain ⟨hx, hb, hr, hml, hown, hq, hlk, hK, -, hin, hW, hS⟩ := X
  have hown : s.vm.findClass RX7 = some m.cls := hown
  refine z_ent (by exact Nat.le_of_ble_eq_true rfl) (fun ls hl => ?_)
  have hl : lv_has ls 4 [(0, .ref (G.2.2.2 + o)), (1, .int a1), (2, .int a2)] := hl
  unfold f_X7_withRow at h
  have B25 : ∀ (st : zS) (x3 : Nat) (H : Heap) (locs : List Loc) (ls : Array Slot), f_X7_withRow_25 o a1 a2 st x3 = some (st', r) → zWd G st H → va_S (zA G) s.heap H locs → lv_has ls 4 [(0, .ref (G.2.2.2 + o)), (3, .ref (G.2.2.2 + x3))] → W p l e (zRm 4 2 9) s m args below meth c H locs 1 4 (MQ below (zQ G (some (zrf G.2.2.2 r)) st') args s 2 9 (zA G)) (F0 m 25 ls []) := by
    intro st x3 H locs ls h hW hS hl
    unfold f_X7_withRow_25 at h
    refine z_new (ci := 7) hx hb hq hown hK hW hS rfl (zi zm449) (zi zm363) (zi zm364) df_X7 (Nat.le_of_ble_eq_true rfl) (Nat.le_of_ble_eq_true rfl) dX7_withRow_25 (fun H hW hS => ?_)
    refine lv_dup hx hb dX7_withRow_28 rfl ?_
    refine lv_aload_n hx hb dX7_withRow_29 rfl (lv_at hl 0 rfl) ?_
    obtain ⟨t6, h⟩ := zc_at h
    refine z_gI hx hb hq hown hK hW fs_RX7_18 t6 dX7_withRow_30 ?_
    refine lv_aload_n hx hb dX7_withRow_33 rfl (lv_at hl 0 rfl) ?_
    refine z_gI hx hb hq hown hK hW fs_RX7_22 t6 dX7_withRow_34 ?_
    refine lv_aload_n hx hb dX7_withRow_37 rfl (lv_at hl 0 rfl) ?_
    refine z_gI hx hb hq hown hK hW fs_RX7_25 t6 dX7_withRow_38 ?_
    refine lv_aload_n hx hb dX7_withRow_41 rfl (lv_at hl 1 rfl) ?_
    obtain ⟨st8, c7, h⟩ := zd_at h
    refine z_cI hx hb hq hml hown hK hW hS [.int ((zM (zNw st 17 0) o 1)), .int ((zM (zNw st 17 0) o 2)), .int ((zM (zNw st 17 0) o 3)), .ref (G.2.2.2 + x3)] [.ref (G.2.2.2 + (st).1)] (c_X7_init l G (zNw st 17 0) ((st).1) (zM (zNw st 17 0) o 1) (zM (zNw st 17 0) o 2) (zM (zNw st 17 0) o 3) x3 c7) (zi zm456) (zi zm396) (zi zm364) (zi zm397) cal_X7_init rfl rfl hl.1 rfl (Nat.le_of_ble_eq_true rfl) (zR_ok (by omega) (by decide)) ⟨(Nat.le_of_ble_eq_true rfl), (Nat.le_of_ble_eq_true rfl)⟩ dX7_withRow_42 (fun H locs hW hS => ?_)
    refine W.eq (g2 := F0 m 45 ls [.ref (G.2.2.2 + (st).1)]) rfl ?_
    obtain ⟨rfl, rfl⟩ := Prod.mk.inj (Option.some.inj h)
    exact z_ra (r := (some (st).1)) hx hb hr hlk hW hS (Nat.le_of_ble_eq_true rfl) (Nat.le_of_ble_eq_true rfl) dX7_withRow_45
  refine lv_aload_n hx hb dX7_withRow_0 rfl (lv_at hl 0 rfl) ?_
  obtain ⟨t1, h⟩ := zc_at h
  obtain ⟨b2, hb2, h⟩ := zd_at h
  refine z_gR hx hb hq hown hK hW fs_RX7_7 t1 hb2 dX7_withRow_1 ?_
  obtain ⟨t3, h⟩ := zc_at h
  obtain ⟨t4, h⟩ := zc_at h
  refine z_clo (N := 4) hx hb hq (hml.trans hl.1.symm) hown hK hW hS (zi zm443) (zi zm444) (zi zm445) (zi zm446) (zi zm447) (by decide +kernel) (List.mem_singleton.mp t3) t4 (Nat.le_of_ble_eq_true rfl) (by show _ ≤ 60 * _; exact (Nat.le_of_ble_eq_true rfl)) (Nat.le_of_ble_eq_true rfl) (Nat.le_of_ble_eq_true rfl) dX7_withRow_4 (fun H hW hS => ?_)
  refine W.eq (g2 := F0 m 7 ls [.ref (G.2.2.2 + (st).1)]) rfl ?_
  obtain ⟨t5, h⟩ := zc_at h
  refine z_castI hx hb hq hown hK hW (zi zm448) (List.mem_singleton.mp t5) dX7_withRow_7 ?_
  refine lv_astore_n (lv' := [(3, .ref (G.2.2.2 + (st).1)), (0, .ref (G.2.2.2 + o)), (1, .int a1), (2, .int a2)]) hx hb dX7_withRow_10 rfl hl (by decide) rfl (fun ls hl => ?_)
  refine lv_iload_n hx hb dX7_withRow_11 rfl (lv_at hl 2 rfl) ?_
  refine z_br (lv_if_lt (tgt := 25) hx hb dX7_withRow_12 (by decide)) h (fun h => ?_) (fun h => ?_)
  · exact B25 (zCl st b2) ((st).1) _ _ _ h hW hS (lv_sub hl [1, 0] rfl)
  · refine lv_iload_n hx hb dX7_withRow_15 rfl (lv_at hl 2 rfl) ?_
    refine lv_aload_n hx hb dX7_withRow_16 rfl (lv_at hl 0 rfl) ?_
    refine z_len hx hb hK hW (Or.inl (List.mem_singleton.mp t5)) dX7_withRow_17 ?_
    refine z_br (lv_icmp_ge (tgt := 25) hx hb dX7_withRow_18 (by decide)) h (fun h => ?_) (fun h => ?_)
    · exact B25 (zCl st b2) ((st).1) _ _ _ h hW hS (lv_sub hl [1, 0] rfl)
    · refine lv_aload_n hx hb dX7_withRow_21 rfl (lv_at hl 0 rfl) ?_
      refine lv_iload_n hx hb dX7_withRow_22 rfl (lv_at hl 2 rfl) ?_
      refine lv_iload_n hx hb dX7_withRow_23 rfl (lv_at hl 3 rfl) ?_
      obtain ⟨t9, h⟩ := zc_at h
      refine z_asI hx hb hK hW hS (List.mem_singleton.mp t5) t9 dX7_withRow_24 (fun H locs hW hS => ?_)
      exact B25 (zPM (zCl st b2) (st).1 (a1).toNatClampNeg a2) ((st).1) _ _ _ h hW hS (lv_sub hl [1, 0] rfl)
def f_X8_init (st : zS) (o : Nat) : Option zS := (if zTg (zNw st 1 20) o ∈ [18] then (some (zPR (zNw st 1 20) o 0 (some (st).1))) else none)
set_option maxHeartbeats 1000000 in
set_option maxRecDepth 100000 in
theorem c_X8_init (l : Launch) (G : zG) (st : zS) (o : Nat) {st' : zS} (h : f_X8_init st o = some st') : zMet l G yX8_init cX8_init 1 none 1 1 20 [.ref (G.2.2.2 + o)] st none st' := by
  refine zMet_of (by decide +kernel) ?_
  intro p e s m args below meth c X
  obtain ⟨hx, hb, hr, hml, hown, hq, hlk, hK, -, hin, hW, hS⟩ := X
  have hown : s.vm.findClass RX8 = some m.cls := hown
  refine z_ent (by exact Nat.le_of_ble_eq_true rfl) (fun ls hl => ?_)
  have hl : lv_has ls 1 [(0, .ref (G.2.2.2 + o))] := hl
  unfold f_X8_init at h
  refine lv_aload_n hx hb dX8_init_0 rfl (lv_at hl 0 rfl) ?_
  refine W.objInit hx hb hown (hq _ (zi zm58)) (hq _ (zi zm10)) (hq _ (zi zm11)) rfl (by rw [hml]; exact hl.1) rfl dX8_init_1 (Nat.le_of_ble_eq_true rfl) (Nat.le_of_ble_eq_true rfl) ?_
  refine W.eq (g2 := F0 m 4 ls []) rfl ?_
  refine lv_aload_n hx hb dX8_init_4 rfl (lv_at hl 0 rfl) ?_
  refine lv_bipush (v := (nI 20)) hx hb dX8_init_5 (by decide) ?_
  refine z_nwI (N := 20) hx hb hq hK hW hS (zi zm45) (by decide) (by decide) (by decide) (Nat.le_of_ble_eq_true rfl) (Nat.le_of_ble_eq_true rfl) dX8_init_7 (fun H hW hS => ?_)
  obtain ⟨t1, h⟩ := zc_at h
  refine z_pR hx hb hq hown hK hW hS fp_RX8_9 t1 (fun _ => hin) (fun _ => rfl) (fun _ => rfl) dX8_init_9 (fun H locs hW hS => ?_)
  obtain rfl := Option.some.inj h
  exact z_rv hx hb hr hlk hW hS (Nat.le_of_ble_eq_true rfl) (Nat.le_of_ble_eq_true rfl) dX8_init_12
def f_X8_clear (st : zS) (o : Nat) : Option zS := (if zTg st o ∈ [18] then (some (zPM st o 1 (nI 0))) else none)
set_option maxHeartbeats 1000000 in
set_option maxRecDepth 100000 in
theorem c_X8_clear (l : Launch) (G : zG) (st : zS) (o : Nat) {st' : zS} (h : f_X8_clear st o = some st') : zMet l G yX8_clear cX8_clear 1 none 0 0 0 [.ref (G.2.2.2 + o)] st none st' := by
  refine zMet_of (by decide +kernel) ?_
  intro p e s m args below meth c X
  obtain ⟨hx, hb, hr, hml, hown, hq, hlk, hK, -, hin, hW, hS⟩ := X
  have hown : s.vm.findClass RX8 = some m.cls := hown
  refine z_ent (by exact Nat.le_of_ble_eq_true rfl) (fun ls hl => ?_)
  have hl : lv_has ls 1 [(0, .ref (G.2.2.2 + o))] := hl
  unfold f_X8_clear at h
  refine lv_aload_n hx hb dX8_clear_0 rfl (lv_at hl 0 rfl) ?_
  refine lv_iconst (v := (nI 0)) hx hb dX8_clear_1 (by decide) ?_
  obtain ⟨t1, h⟩ := zc_at h
  refine z_pI hx hb hq hown hK hW hS fp_RX8_15 t1 (fun h => by cases h) rfl rfl dX8_clear_2 (fun H locs hW hS => ?_)
  obtain rfl := Option.some.inj h
  exact z_rv hx hb hr hlk hW hS (Nat.le_of_ble_eq_true rfl) (Nat.le_of_ble_eq_true rfl) dX8_clear_5
def f_X8_bodyAt (st : zS) (o : Nat) (a1 : Int32) : Option Int32 := (if a1 < 0 then (some (-1 : Int32)) else (if zTg st o ∈ [18] then (if (zM st o 1) ≤ a1 then (some (-1 : Int32)) else (Option.bind (zR st o 0) (fun b2 => (if zTg st b2 ∈ [1] then (if (nI (zLn st b2)) ≤ a1 then (some (-1 : Int32)) else (if zin a1 (zLn st b2) then (some (zM st b2 (a1).toNatClampNeg)) else none)) else none)))) else none))
set_option maxHeartbeats 1000000 in
set_option maxRecDepth 100000 in
theorem c_X8_bodyAt (l : Launch) (G : zG) (st : zS) (o : Nat) (a1 : Int32) {r : Int32} (h : f_X8_bodyAt st o a1 = some r) : zMet l G yX8_bodyAt cX8_bodyAt 2 (some .int) 0 0 0 [.ref (G.2.2.2 + o), .int a1] st (some (.int r)) st := by
  refine zMet_of (by decide +kernel) ?_
  intro p e s m args below meth c X
  obtain ⟨hx, hb, hr, hml, hown, hq, hlk, hK, -, hin, hW, hS⟩ := X
  have hown : s.vm.findClass RX8 = some m.cls := hown
  refine z_ent (by exact Nat.le_of_ble_eq_true rfl) (fun ls hl => ?_)
  have hl : lv_has ls 2 [(0, .ref (G.2.2.2 + o)), (1, .int a1)] := hl
  unfold f_X8_bodyAt at h
  refine lv_iload_n hx hb dX8_bodyAt_0 rfl (lv_at hl 1 rfl) ?_
  refine z_br (lv_if_lt (tgt := 30) hx hb dX8_bodyAt_1 (by decide)) h (fun h => ?_) (fun h => ?_)
  · refine lv_iconst (v := (-1)) hx hb dX8_bodyAt_30 (by decide) ?_
    obtain rfl := Option.some.inj h
    exact z_ri hx hb hr hlk hW hS (Nat.le_of_ble_eq_true rfl) (Nat.le_of_ble_eq_true rfl) dX8_bodyAt_31
  · refine lv_iload_n hx hb dX8_bodyAt_4 rfl (lv_at hl 1 rfl) ?_
    refine lv_aload_n hx hb dX8_bodyAt_5 rfl (lv_at hl 0 rfl) ?_
    obtain ⟨t1, h⟩ := zc_at h
    refine z_gI hx hb hq hown hK hW fs_RX8_15 t1 dX8_bodyAt_6 ?_
    refine z_br (lv_icmp_ge (tgt := 30) hx hb dX8_bodyAt_9 (by decide)) h (fun h => ?_) (fun h => ?_)
    · refine lv_iconst (v := (-1)) hx hb dX8_bodyAt_30 (by decide) ?_
      obtain rfl := Option.some.inj h
      exact z_ri hx hb hr hlk hW hS (Nat.le_of_ble_eq_true rfl) (Nat.le_of_ble_eq_true rfl) dX8_bodyAt_31
    · refine lv_iload_n hx hb dX8_bodyAt_12 rfl (lv_at hl 1 rfl) ?_
      refine lv_aload_n hx hb dX8_bodyAt_13 rfl (lv_at hl 0 rfl) ?_
      obtain ⟨b2, hb2, h⟩ := zd_at h
      refine z_gR hx hb hq hown hK hW fs_RX8_9 t1 hb2 dX8_bodyAt_14 ?_
      obtain ⟨t3, h⟩ := zc_at h
      refine z_len hx hb hK hW (Or.inl (List.mem_singleton.mp t3)) dX8_bodyAt_17 ?_
      refine z_br (lv_icmp_ge (tgt := 30) hx hb dX8_bodyAt_18 (by decide)) h (fun h => ?_) (fun h => ?_)
      · refine lv_iconst (v := (-1)) hx hb dX8_bodyAt_30 (by decide) ?_
        obtain rfl := Option.some.inj h
        exact z_ri hx hb hr hlk hW hS (Nat.le_of_ble_eq_true rfl) (Nat.le_of_ble_eq_true rfl) dX8_bodyAt_31
      · refine lv_aload_n hx hb dX8_bodyAt_21 rfl (lv_at hl 0 rfl) ?_
        refine z_gR hx hb hq hown hK hW fs_RX8_9 t1 hb2 dX8_bodyAt_22 ?_
        refine lv_iload_n hx hb dX8_bodyAt_25 rfl (lv_at hl 1 rfl) ?_
        obtain ⟨t4, h⟩ := zc_at h
        refine z_alI hx hb hK hW (List.mem_singleton.mp t3) t4 dX8_bodyAt_26 ?_
        refine lv_goto (tgt := 31) hx hb dX8_bodyAt_27 (by decide) ?_
        obtain rfl := Option.some.inj h
        exact z_ri hx hb hr hlk hW hS (Nat.le_of_ble_eq_true rfl) (Nat.le_of_ble_eq_true rfl) dX8_bodyAt_31
def f_X10_init (st : zS) (o : Nat) (a1 : Int32) (a2 : Int32) (a3 : Int32) (a4 : Int32) : Option zS := (Option.bind (f_X4_init st o a1 a2 a3 a4) (fun st2 => (some st2)))
set_option maxHeartbeats 1000000 in
set_option maxRecDepth 100000 in
theorem c_X10_init (l : Launch) (G : zG) (st : zS) (o : Nat) (a1 : Int32) (a2 : Int32) (a3 : Int32) (a4 : Int32) {st' : zS} (h : f_X10_init st o a1 a2 a3 a4 = some st') : zMet l G yX10_init cX10_init 5 none 2 0 0 [.ref (G.2.2.2 + o), .int a1, .int a2, .int a3, .int a4] st none st' := by
  refine zMet_of (by decide +kernel) ?_
  intro p e s m args below meth c X
  obtain ⟨hx, hb, hr, hml, hown, hq, hlk, hK, -, hin, hW, hS⟩ := X
  have hown : s.vm.findClass RX10 = some m.cls := hown
  refine z_ent (by exact Nat.le_of_ble_eq_true rfl) (fun ls hl => ?_)
  have hl : lv_has ls 5 [(0, .ref (G.2.2.2 + o)), (1, .int a1), (2, .int a2), (3, .int a3), (4, .int a4)] := hl
  unfold f_X10_init at h
  refine lv_aload_n hx hb dX10_init_0 rfl (lv_at hl 0 rfl) ?_
  refine lv_iload_n hx hb dX10_init_1 rfl (lv_at hl 1 rfl) ?_
  refine lv_iload_n hx hb dX10_init_2 rfl (lv_at hl 2 rfl) ?_
  refine lv_iload_n hx hb dX10_init_3 rfl (lv_at hl 3 rfl) ?_
  refine lv_iload hx hb dX10_init_4 (lv_at hl 4 rfl) ?_
  obtain ⟨st2, c1, h⟩ := zd_at h
  refine z_cI hx hb hq hml hown hK hW hS [.int a1, .int a2, .int a3, .int a4] [] (c_X4_init l G st o a1 a2 a3 a4 c1) (zi zm371) (zi zm372) (zi zm367) (zi zm373) cal_X4_init rfl rfl hl.1 rfl (Nat.le_of_ble_eq_true rfl) (zR_ok (by omega) (by decide)) ⟨(Nat.le_of_ble_eq_true rfl), (Nat.le_of_ble_eq_true rfl)⟩ dX10_init_6 (fun H locs hW hS => ?_)
  refine W.eq (g2 := F0 m 9 ls []) rfl ?_
  obtain rfl := Option.some.inj h
  exact z_rv hx hb hr hlk hW hS (Nat.le_of_ble_eq_true rfl) (Nat.le_of_ble_eq_true rfl) dX10_init_9
def f_X9_init (st : zS) (o : Nat) (a1 : Int32) (a2 : Int32) (a3 : Int32) : Option zS := (Option.bind (f_X10_init st o (nI 4) a1 a2 a3) (fun st2 => (some st2)))
set_option maxHeartbeats 1000000 in
set_option maxRecDepth 100000 in
theorem c_X9_init (l : Launch) (G : zG) (st : zS) (o : Nat) (a1 : Int32) (a2 : Int32) (a3 : Int32) {st' : zS} (h : f_X9_init st o a1 a2 a3 = some st') : zMet l G yX9_init cX9_init 4 none 3 0 0 [.ref (G.2.2.2 + o), .int a1, .int a2, .int a3] st none st' := by
  refine zMet_of (by decide +kernel) ?_
  intro p e s m args below meth c X
  obtain ⟨hx, hb, hr, hml, hown, hq, hlk, hK, -, hin, hW, hS⟩ := X
  have hown : s.vm.findClass RX9 = some m.cls := hown
  refine z_ent (by exact Nat.le_of_ble_eq_true rfl) (fun ls hl => ?_)
  have hl : lv_has ls 4 [(0, .ref (G.2.2.2 + o)), (1, .int a1), (2, .int a2), (3, .int a3)] := hl
  unfold f_X9_init at h
  refine lv_aload_n hx hb dX9_init_0 rfl (lv_at hl 0 rfl) ?_
  refine lv_iconst (v := (nI 4)) hx hb dX9_init_1 (by decide) ?_
  refine lv_iload_n hx hb dX9_init_2 rfl (lv_at hl 1 rfl) ?_
  refine lv_iload_n hx hb dX9_init_3 rfl (lv_at hl 2 rfl) ?_
  refine lv_iload_n hx hb dX9_init_4 rfl (lv_at hl 3 rfl) ?_
  obtain ⟨st2, c1, h⟩ := zd_at h
  refine z_cI hx hb hq hml hown hK hW hS [.int ((nI 4)), .int a1, .int a2, .int a3] [] (c_X10_init l G st o (nI 4) a1 a2 a3 c1) (zi zm390) (zi zm369) (zi zm349) (zi zm370) cal_X10_init rfl rfl hl.1 rfl (Nat.le_of_ble_eq_true rfl) (zR_ok (by omega) (by decide)) ⟨(Nat.le_of_ble_eq_true rfl), (Nat.le_of_ble_eq_true rfl)⟩ dX9_init_5 (fun H locs hW hS => ?_)
  refine W.eq (g2 := F0 m 8 ls []) rfl ?_
  obtain rfl := Option.some.inj h
  exact z_rv hx hb hr hlk hW hS (Nat.le_of_ble_eq_true rfl) (Nat.le_of_ble_eq_true rfl) dX9_init_8
def f_X9_tells (st : zS) (o : Nat) (a1 : Int32) (a2 : Nat) : Option (zS × Int32) := (if zTg st a2 ∈ [18] then (Option.bind (f_X8_ran st a2 (nI 41)) (fun st3 => (if zTg st3 o ∈ zLs then (zb (f_X4_tells st3 o (a1 - (nI 1)) a2) (fun st6 r7 => (if zTg st6 o ∈ [19] then (zb (f_X10_writes st6 o (nI 2) a2) (fun st10 r11 => (some (st10, (r7 + r11))))) else none))) else none))) else none)
set_option maxHeartbeats 1000000 in
set_option maxRecDepth 100000 in
theorem c_X9_tells (l : Launch) (G : zG) (st : zS) (o : Nat) (a1 : Int32) (a2 : Nat) {st' : zS} {r : Int32} (h : f_X9_tells st o a1 a2 = some (st', r)) : zMet l G yX9_tells cX9_tells 3 (some .int) 6 0 0 [.ref (G.2.2.2 + o), .int a1, .ref (G.2.2.2 + a2)] st (some (.int r)) st' := by
  refine zMet_of (by decide +kernel) ?_
  intro p e s m args below meth c X
  obtain ⟨hx, hb, hr, hml, hown, hq, hlk, hK, -, hin, hW, hS⟩ := X
  have hown : s.vm.findClass RX9 = some m.cls := hown
  refine z_ent (by exact Nat.le_of_ble_eq_true rfl) (fun ls hl => ?_)
  have hl : lv_has ls 3 [(0, .ref (G.2.2.2 + o)), (1, .int a1), (2, .ref (G.2.2.2 + a2))] := hl
  unfold f_X9_tells at h
  refine lv_aload_n hx hb dX9_tells_0 rfl (lv_at hl 2 rfl) ?_
  refine lv_bipush (v := (nI 41)) hx hb dX9_tells_1 (by decide) ?_
  obtain ⟨t1, h⟩ := zc_at h
  obtain ⟨st3, c2, h⟩ := zd_at h
  refine z_cV hx hb hq hml hown hK hW hS 8 [.int ((nI 41))] [] rfl (List.mem_singleton.mp t1) (c_X8_ran l G st a2 (nI 41) c2) (zi zm1041) (zi zm976) (zi zm977) (zi zm19) (zi zm978) cal_X8_ran rfl rfl hl.1 rfl (Nat.le_of_ble_eq_true rfl) (zR_ok (by omega) (by decide)) ⟨(Nat.le_of_ble_eq_true rfl), (Nat.le_of_ble_eq_true rfl)⟩ dX9_tells_3 (fun H locs hW hS => ?_)
  refine W.eq (g2 := F0 m 6 ls []) rfl ?_
  refine lv_aload_n hx hb dX9_tells_6 rfl (lv_at hl 0 rfl) ?_
  refine lv_iload_n hx hb dX9_tells_7 rfl (lv_at hl 1 rfl) ?_
  refine lv_iconst (v := (nI 1)) hx hb dX9_tells_8 (by decide) ?_
  refine lv_isub hx hb dX9_tells_9 ?_
  refine lv_aload_n hx hb dX9_tells_10 rfl (lv_at hl 2 rfl) ?_
  obtain ⟨t4, h⟩ := zc_at h
  obtain ⟨st6, r7, c5, h⟩ := zb_at h
  refine z_cSX (x := ⟨"TwoPens$Twin", "tells", "(ILTwoPens$Trace;)I"⟩) (owner := "TwoPens$Line") hx hb hq hml hown hK hW hS [.int ((a1 - (nI 1))), .ref (G.2.2.2 + a2)] [] t4 (c_X4_tells l G st3 o (a1 - (nI 1)) a2 c5) zx5 zx6 (zi zm519) (zi zm995) (zi zm1023) (zi zm367) (zi zm1024) cal_X4_tells (by decide) rfl hl.1 rfl (Nat.le_of_ble_eq_true rfl) (zR_ok (by omega) (by decide)) ⟨(Nat.le_of_ble_eq_true rfl), (Nat.le_of_ble_eq_true rfl)⟩ dX9_tells_11 (fun H locs hW hS => ?_)
  refine W.eq (g2 := F0 m 14 ls [.int r7]) rfl ?_
  refine lv_aload_n hx hb dX9_tells_14 rfl (lv_at hl 0 rfl) ?_
  refine lv_iconst (v := (nI 2)) hx hb dX9_tells_15 (by decide) ?_
  refine lv_aload_n hx hb dX9_tells_16 rfl (lv_at hl 2 rfl) ?_
  obtain ⟨t8, h⟩ := zc_at h
  obtain ⟨st10, r11, c9, h⟩ := zb_at h
  refine z_cU (x := ⟨"TwoPens$Triple", "writes", "(ILTwoPens$Trace;)I"⟩) (owner := "TwoPens$Twin") hx hb hq hml hown hK hW hS 9 [.int ((nI 2)), .ref (G.2.2.2 + a2)] [.int r7] rfl (List.mem_singleton.mp t8) (c_X10_writes l G st6 o (nI 2) a2 c9) (zi zm1042) (zi zm1043) (zi zm1044) (zi zm991) (zi zm349) (zi zm992) (zi zm991) (zi zm992) cal_X10_writes rfl hl.1 rfl (Nat.le_of_ble_eq_true rfl) (zR_ok (by omega) (by decide)) ⟨(Nat.le_of_ble_eq_true rfl), (Nat.le_of_ble_eq_true rfl)⟩ dX9_tells_17 (fun H locs hW hS => ?_)
  refine W.eq (g2 := F0 m 20 ls [.int r11, .int r7]) rfl ?_
  refine lv_iadd hx hb dX9_tells_20 ?_
  obtain ⟨rfl, rfl⟩ := Prod.mk.inj (Option.some.inj h)
  exact z_ri hx hb hr hlk hW hS (Nat.le_of_ble_eq_true rfl) (Nat.le_of_ble_eq_true rfl) dX9_tells_21
def f_X11_init (st : zS) (o : Nat) : Option zS := (Option.bind (f_X2_init (zNw st 12 0) ((st).1)) (fun st2 => (if zTg st2 o ∈ [21] then (Option.bind (f_X2_init (zNw (zPR st2 o 0 (some (st).1)) 12 0) (((zPR st2 o 0 (some (st).1))).1)) (fun st5 => (if zTg st5 o ∈ [21] then (Option.bind (f_X8_init (zNw (zPR st5 o 1 (some ((zPR st2 o 0 (some (st).1))).1)) 18 0) (((zPR st5 o 1 (some ((zPR st2 o 0 (some (st).1))).1))).1)) (fun st8 => (if zTg st8 o ∈ [21] then (some (zPR st8 o 3 (some ((zPR st5 o 1 (some ((zPR st2 o 0 (some (st).1))).1))).1))) else none))) else none))) else none)))
set_option maxHeartbeats 1000000 in
set_option maxRecDepth 100000 in
theorem c_X11_init (l : Launch) (G : zG) (st : zS) (o : Nat) {st' : zS} (h : f_X11_init st o = some st') : zMet l G yX11_init cX11_init 1 none 3 38 1698 [.ref (G.2.2.2 + o)] st none st' := by
  refine zMet_of (by decide +kernel) ?_
  intro p e s m args below meth c X
  obtain ⟨hx, hb, hr, hml, hown, hq, hlk, hK, -, hin, hW, hS⟩ := X
  have hown : s.vm.findClass RX11 = some m.cls := hown
  refine z_ent (by exact Nat.le_of_ble_eq_true rfl) (fun ls hl => ?_)
  have hl : lv_has ls 1 [(0, .ref (G.2.2.2 + o))] := hl
  unfold f_X11_init at h
  refine lv_aload_n hx hb dX11_init_0 rfl (lv_at hl 0 rfl) ?_
  refine W.objInit hx hb hown (hq _ (zi zm9)) (hq _ (zi zm10)) (hq _ (zi zm11)) rfl (by rw [hml]; exact hl.1) rfl dX11_init_1 (Nat.le_of_ble_eq_true rfl) (Nat.le_of_ble_eq_true rfl) ?_
  refine W.eq (g2 := F0 m 4 ls []) rfl ?_
  refine lv_aload_n hx hb dX11_init_4 rfl (lv_at hl 0 rfl) ?_
  refine z_new (ci := 2) hx hb hq hown hK hW hS rfl (zi zm12) (zi zm13) (zi zm14) df_X2 (Nat.le_of_ble_eq_true rfl) (Nat.le_of_ble_eq_true rfl) dX11_init_5 (fun H hW hS => ?_)
  refine lv_dup hx hb dX11_init_8 rfl ?_
  obtain ⟨st2, c1, h⟩ := zd_at h
  refine z_cIN (host := "TwoPens") hx hb hq hml hown hK hW hS [] [.ref (G.2.2.2 + (st).1), .ref (G.2.2.2 + o)] (c_X2_init l G (zNw st 12 0) ((st).1) c1) (by decide +kernel) (zi zm21) (zi zm14) (zi zm22) cal_X2_init rfl rfl hl.1 rfl (Nat.le_of_ble_eq_true rfl) (zR_ok (by omega) (by decide)) ⟨(Nat.le_of_ble_eq_true rfl), (Nat.le_of_ble_eq_true rfl)⟩ dX11_init_9 (fun H locs hW hS => ?_)
  refine W.eq (g2 := F0 m 12 ls [.ref (G.2.2.2 + (st).1), .ref (G.2.2.2 + o)]) rfl ?_
  obtain ⟨t3, h⟩ := zc_at h
  refine z_pR hx hb hq hown hK hW hS fp_RX11_12 t3 (fun _ => hin) (fun _ => rfl) (fun _ => rfl) dX11_init_12 (fun H locs hW hS => ?_)
  refine lv_aload_n hx hb dX11_init_15 rfl (lv_at hl 0 rfl) ?_
  refine z_new (ci := 2) hx hb hq hown hK hW hS rfl (zi zm12) (zi zm13) (zi zm14) df_X2 (Nat.le_of_ble_eq_true rfl) (Nat.le_of_ble_eq_true rfl) dX11_init_16 (fun H hW hS => ?_)
  refine lv_dup hx hb dX11_init_19 rfl ?_
  obtain ⟨st5, c4, h⟩ := zd_at h
  refine z_cIN (host := "TwoPens") hx hb hq hml hown hK hW hS [] [.ref (G.2.2.2 + ((zPR st2 o 0 (some (st).1))).1), .ref (G.2.2.2 + o)] (c_X2_init l G (zNw (zPR st2 o 0 (some (st).1)) 12 0) (((zPR st2 o 0 (some (st).1))).1) c4) (by decide +kernel) (zi zm21) (zi zm14) (zi zm22) cal_X2_init rfl rfl hl.1 rfl (Nat.le_of_ble_eq_true rfl) (zR_ok (by omega) (by decide)) ⟨(Nat.le_of_ble_eq_true rfl), (Nat.le_of_ble_eq_true rfl)⟩ dX11_init_20 (fun H locs hW hS => ?_)
  refine W.eq (g2 := F0 m 23 ls [.ref (G.2.2.2 + ((zPR st2 o 0 (some (st).1))).1), .ref (G.2.2.2 + o)]) rfl ?_
  obtain ⟨t6, h⟩ := zc_at h
  refine z_pR hx hb hq hown hK hW hS fp_RX11_18 t6 (fun _ => hin) (fun _ => rfl) (fun _ => rfl) dX11_init_23 (fun H locs hW hS => ?_)
  refine lv_aload_n hx hb dX11_init_26 rfl (lv_at hl 0 rfl) ?_
  refine z_new (ci := 8) hx hb hq hown hK hW hS rfl (zi zm17) (zi zm18) (zi zm19) df_X8 (Nat.le_of_ble_eq_true rfl) (Nat.le_of_ble_eq_true rfl) dX11_init_27 (fun H hW hS => ?_)
  refine lv_dup hx hb dX11_init_30 rfl ?_
  obtain ⟨st8, c7, h⟩ := zd_at h
  refine z_cIN (host := "TwoPens") hx hb hq hml hown hK hW hS [] [.ref (G.2.2.2 + ((zPR st5 o 1 (some ((zPR st2 o 0 (some (st).1))).1))).1), .ref (G.2.2.2 + o)] (c_X8_init l G (zNw (zPR st5 o 1 (some ((zPR st2 o 0 (some (st).1))).1)) 18 0) (((zPR st5 o 1 (some ((zPR st2 o 0 (some (st).1))).1))).1) c7) (by decide +kernel) (zi zm56) (zi zm19) (zi zm57) cal_X8_init rfl rfl hl.1 rfl (Nat.le_of_ble_eq_true rfl) (zR_ok (by omega) (by decide)) ⟨(Nat.le_of_ble_eq_true rfl), (Nat.le_of_ble_eq_true rfl)⟩ dX11_init_31 (fun H locs hW hS => ?_)
  refine W.eq (g2 := F0 m 34 ls [.ref (G.2.2.2 + ((zPR st5 o 1 (some ((zPR st2 o 0 (some (st).1))).1))).1), .ref (G.2.2.2 + o)]) rfl ?_
  obtain ⟨t9, h⟩ := zc_at h
  refine z_pR hx hb hq hown hK hW hS fp_RX11_24 t9 (fun _ => hin) (fun _ => rfl) (fun _ => rfl) dX11_init_34 (fun H locs hW hS => ?_)
  obtain rfl := Option.some.inj h
  exact z_rv hx hb hr hlk hW hS (Nat.le_of_ble_eq_true rfl) (Nat.le_of_ble_eq_true rfl) dX11_init_37
def f_X11_feed (st : zS) (o : Nat) (a1 : Int32) : Option (zS × Int32) := (if a1 < 0 then (some (st, (-2 : Int32))) else (if a1 ≤ (nI 127) then (if zTg st o ∈ [21] then (Option.bind (zR st o 0) (fun b2 => (if zTg st b2 ∈ [12] then (Option.bind (zR st b2 4) (fun b4 => (if zTg st b4 ∈ [15] then (zb (f_X5_add st b4 a1) (fun st7 r8 => (if r8 = 0 then (some (st7, (-4 : Int32))) else (if zTg st7 o ∈ [21] then (Option.bind (zR st7 o 0) (fun b10 => (if zTg st7 b10 ∈ [12] then (Option.bind (zR st7 b10 4) (fun b12 => (if zTg st7 b12 ∈ [15] then (Option.bind (f_X5_size st7 b12) (fun r15 => (some (st7, r15)))) else none))) else none))) else none)))) else none))) else none))) else none) else (some (st, (-2 : Int32)))))
set_option maxHeartbeats 1000000 in
set_option maxRecDepth 100000 in
theorem c_X11_feed (l : Launch) (G : zG) (st : zS) (o : Nat) (a1 : Int32) {st' : zS} {r : Int32} (h : f_X11_feed st o a1 = some (st', r)) : zMet l G yX11_feed cX11_feed 2 (some .int) 1 0 0 [.ref (G.2.2.2 + o), .int a1] st (some (.int r)) st' := by
  refine zMet_of (by decide +kernel) ?_
  intro p e s m args below meth c X
  obtain ⟨hx, hb, hr, hml, hown, hq, hlk, hK, -, hin, hW, hS⟩ := X
  have hown : s.vm.findClass RX11 = some m.cls := hown
  refine z_ent (by exact Nat.le_of_ble_eq_true rfl) (fun ls hl => ?_)
  have hl : lv_has ls 2 [(0, .ref (G.2.2.2 + o)), (1, .int a1)] := hl
  unfold f_X11_feed at h
  refine lv_iload_n hx hb dX11_feed_0 rfl (lv_at hl 1 rfl) ?_
  refine z_br (lv_if_lt (tgt := 10) hx hb dX11_feed_1 (by decide)) h (fun h => ?_) (fun h => ?_)
  · refine lv_bipush (v := (-2)) hx hb dX11_feed_10 (by decide) ?_
    obtain ⟨rfl, rfl⟩ := Prod.mk.inj (Option.some.inj h)
    exact z_ri hx hb hr hlk hW hS (Nat.le_of_ble_eq_true rfl) (Nat.le_of_ble_eq_true rfl) dX11_feed_12
  · refine lv_iload_n hx hb dX11_feed_4 rfl (lv_at hl 1 rfl) ?_
    refine lv_bipush (v := (nI 127)) hx hb dX11_feed_5 (by decide) ?_
    refine z_br (lv_icmp_le (tgt := 13) hx hb dX11_feed_7 (by decide)) h (fun h => ?_) (fun h => ?_)
    · refine lv_aload_n hx hb dX11_feed_13 rfl (lv_at hl 0 rfl) ?_
      obtain ⟨t1, h⟩ := zc_at h
      obtain ⟨b2, hb2, h⟩ := zd_at h
      refine z_gR hx hb hq hown hK hW fs_RX11_12 t1 hb2 dX11_feed_14 ?_
      obtain ⟨t3, h⟩ := zc_at h
      obtain ⟨b4, hb4, h⟩ := zd_at h
      refine z_gR hx hb hq hown hK hW fs_RX11_28 t3 hb4 dX11_feed_17 ?_
      refine lv_iload_n hx hb dX11_feed_20 rfl (lv_at hl 1 rfl) ?_
      obtain ⟨t5, h⟩ := zc_at h
      obtain ⟨st7, r8, c6, h⟩ := zb_at h
      refine z_cV hx hb hq hml hown hK hW hS 5 [.int a1] [] rfl (List.mem_singleton.mp t5) (c_X5_add l G st b4 a1 c6) (zi zm77) (zi zm78) (zi zm79) (zi zm32) (zi zm80) cal_X5_add rfl rfl hl.1 rfl (Nat.le_of_ble_eq_true rfl) (zR_ok (by omega) (by decide)) ⟨(Nat.le_of_ble_eq_true rfl), (Nat.le_of_ble_eq_true rfl)⟩ dX11_feed_21 (fun H locs hW hS => ?_)
      refine W.eq (g2 := F0 m 24 ls [.int r8]) rfl ?_
      refine z_br (lv_if_eq (tgt := 40) hx hb dX11_feed_24 (by decide)) h (fun h => ?_) (fun h => ?_)
      · refine lv_bipush (v := (-4)) hx hb dX11_feed_40 (by decide) ?_
        obtain ⟨rfl, rfl⟩ := Prod.mk.inj (Option.some.inj h)
        exact z_ri hx hb hr hlk hW hS (Nat.le_of_ble_eq_true rfl) (Nat.le_of_ble_eq_true rfl) dX11_feed_42
      · refine lv_aload_n hx hb dX11_feed_27 rfl (lv_at hl 0 rfl) ?_
        obtain ⟨t9, h⟩ := zc_at h
        obtain ⟨b10, hb10, h⟩ := zd_at h
        refine z_gR hx hb hq hown hK hW fs_RX11_12 t9 hb10 dX11_feed_28 ?_
        obtain ⟨t11, h⟩ := zc_at h
        obtain ⟨b12, hb12, h⟩ := zd_at h
        refine z_gR hx hb hq hown hK hW fs_RX11_28 t11 hb12 dX11_feed_31 ?_
        obtain ⟨t13, h⟩ := zc_at h
        obtain ⟨r15, c14, h⟩ := zd_at h
        refine z_cV hx hb hq hml hown hK hW hS 5 [] [] rfl (List.mem_singleton.mp t13) (c_X5_size l G st7 b12 c14) (zi zm82) (zi zm83) (zi zm84) (zi zm32) (zi zm85) cal_X5_size rfl rfl hl.1 rfl (Nat.le_of_ble_eq_true rfl) (zR_ok (by omega) (by decide)) ⟨(Nat.le_of_ble_eq_true rfl), (Nat.le_of_ble_eq_true rfl)⟩ dX11_feed_34 (fun H locs hW hS => ?_)
        refine W.eq (g2 := F0 m 37 ls [.int r15]) rfl ?_
        refine lv_goto (tgt := 42) hx hb dX11_feed_37 (by decide) ?_
        obtain ⟨rfl, rfl⟩ := Prod.mk.inj (Option.some.inj h)
        exact z_ri hx hb hr hlk hW hS (Nat.le_of_ble_eq_true rfl) (Nat.le_of_ble_eq_true rfl) dX11_feed_42
    · refine lv_bipush (v := (-2)) hx hb dX11_feed_10 (by decide) ?_
      obtain ⟨rfl, rfl⟩ := Prod.mk.inj (Option.some.inj h)
      exact z_ri hx hb hr hlk hW hS (Nat.le_of_ble_eq_true rfl) (Nat.le_of_ble_eq_true rfl) dX11_feed_12
def f_X11_school (N : Nat) (st : zS) (o : Nat) : Option (zS × Int32) := (if zTg st o ∈ [21] then (Option.bind (zR st o 0) (fun b2 => (if zTg st b2 ∈ [12] then (if (zM st b2 3) < (nI 5) then (Option.bind (f_X6_init (zNw st 16 0) ((st).1)) (fun st5 => (if zTg st5 o ∈ [21] then (Option.bind (zR st5 o 0) (fun b7 => (if zTg st5 b7 ∈ [12] then (Option.bind (zR st5 b7 4) (fun b9 => (if zTg st5 (st).1 ∈ [16] then (zb (f_X6_read N st5 ((st).1) b9) (fun st12 r13 => (if zTg st12 o ∈ [21] then (Option.bind (zR st12 o 0) (fun b15 => (if zTg st12 b15 ∈ [12] then (Option.bind (zR st12 b15 4) (fun b17 => (if zTg st12 b17 ∈ [15] then (Option.bind (f_X5_clear st12 b17) (fun st20 => (if r13 < 0 then (if zTg st20 o ∈ [21] then (Option.bind (zR st20 o 0) (fun b22 => (if zTg st20 b22 ∈ [12] then (Option.bind (zR (zPR st20 b22 2 (some (st).1)) o 0) (fun b24 => (if zTg (zPR st20 b22 2 (some (st).1)) b24 ∈ [12] then (some ((zPM (zPR st20 b22 2 (some (st).1)) b24 3 ((zM (zPR st20 b22 2 (some (st).1)) b24 3) + (nI 1))), ((zM (zPM (zPR st20 b22 2 (some (st).1)) b24 3 ((zM (zPR st20 b22 2 (some (st).1)) b24 3) + (nI 1))) b24 3) - (nI 1)))) else none))) else none))) else none) else (some (st20, ((-10 : Int32) - r13)))))) else none))) else none))) else none))) else none))) else none))) else none))) else (some (st, (-4 : Int32)))) else none))) else none)
set_option maxHeartbeats 1000000 in
set_option maxRecDepth 100000 in
theorem c_X11_school (l : Launch) (G : zG) (N : Nat) (st : zS) (o : Nat) {st' : zS} {r : Int32} (h : f_X11_school N st o = some (st', r)) : zMet l G yX11_school cX11_school 3 (some .int) 35 2 105 [.ref (G.2.2.2 + o)] st (some (.int r)) st' := by
  refine zMet_of (by decide +kernel) ?_
  intro p e s m args below meth c X
  obtain ⟨hx, hb, hr, hml, hown, hq, hlk, hK, -, hin, hW, hS⟩ := X
  have hown : s.vm.findClass RX11 = some m.cls := hown
  refine z_ent (by exact Nat.le_of_ble_eq_true rfl) (fun ls hl => ?_)
  have hl : lv_has ls 3 [(0, .ref (G.2.2.2 + o))] := hl
  unfold f_X11_school at h
  refine lv_aload_n hx hb dX11_school_0 rfl (lv_at hl 0 rfl) ?_
  obtain ⟨t1, h⟩ := zc_at h
  obtain ⟨b2, hb2, h⟩ := zd_at h
  refine z_gR hx hb hq hown hK hW fs_RX11_12 t1 hb2 dX11_school_1 ?_
  obtain ⟨t3, h⟩ := zc_at h
  refine z_gI hx hb hq hown hK hW fs_RX11_42 t3 dX11_school_4 ?_
  refine lv_iconst (v := (nI 5)) hx hb dX11_school_7 (by decide) ?_
  refine z_br (lv_icmp_lt (tgt := 14) hx hb dX11_school_8 (by decide)) h (fun h => ?_) (fun h => ?_)
  · refine z_new (ci := 6) hx hb hq hown hK hW hS rfl (zi zm98) (zi zm27) (zi zm28) df_X6 (Nat.le_of_ble_eq_true rfl) (Nat.le_of_ble_eq_true rfl) dX11_school_14 (fun H hW hS => ?_)
    refine lv_dup hx hb dX11_school_17 rfl ?_
    obtain ⟨st5, c4, h⟩ := zd_at h
    refine z_cIN (host := "TwoPens") hx hb hq hml hown hK hW hS [] [.ref (G.2.2.2 + (st).1)] (c_X6_init l G (zNw st 16 0) ((st).1) c4) (by decide +kernel) (zi zm40) (zi zm28) (zi zm41) cal_X6_init rfl rfl hl.1 rfl (Nat.le_of_ble_eq_true rfl) (zR_ok (by omega) (by decide)) ⟨(Nat.le_of_ble_eq_true rfl), (Nat.le_of_ble_eq_true rfl)⟩ dX11_school_18 (fun H locs hW hS => ?_)
    refine W.eq (g2 := F0 m 21 ls [.ref (G.2.2.2 + (st).1)]) rfl ?_
    refine lv_astore_n (lv' := [(1, .ref (G.2.2.2 + (st).1)), (0, .ref (G.2.2.2 + o))]) hx hb dX11_school_21 rfl hl (by decide) rfl (fun ls hl => ?_)
    refine lv_aload_n hx hb dX11_school_22 rfl (lv_at hl 0 rfl) ?_
    refine lv_aload_n hx hb dX11_school_23 rfl (lv_at hl 1 rfl) ?_
    obtain ⟨t6, h⟩ := zc_at h
    obtain ⟨b7, hb7, h⟩ := zd_at h
    refine z_gR hx hb hq hown hK hW fs_RX11_12 t6 hb7 dX11_school_24 ?_
    obtain ⟨t8, h⟩ := zc_at h
    obtain ⟨b9, hb9, h⟩ := zd_at h
    refine z_gR hx hb hq hown hK hW fs_RX11_28 t8 hb9 dX11_school_27 ?_
    obtain ⟨t10, h⟩ := zc_at h
    obtain ⟨st12, r13, c11, h⟩ := zb_at h
    refine z_cV hx hb hq hml hown hK hW hS 6 [.ref (G.2.2.2 + b9)] [] rfl (List.mem_singleton.mp t10) (c_X6_read l G N st5 ((st).1) b9 c11) (zi zm100) (zi zm101) (zi zm102) (zi zm28) (zi zm103) cal_X6_read rfl rfl hl.1 rfl (Nat.le_of_ble_eq_true rfl) (zR_ok (by omega) (by decide)) ⟨(Nat.le_of_ble_eq_true rfl), (Nat.le_of_ble_eq_true rfl)⟩ dX11_school_30 (fun H locs hW hS => ?_)
    refine W.eq (g2 := F0 m 33 ls [.int r13]) rfl ?_
    refine lv_istore_n (lv' := [(2, .int r13), (1, .ref (G.2.2.2 + (st).1)), (0, .ref (G.2.2.2 + o))]) hx hb dX11_school_33 rfl hl (by decide) rfl (fun ls hl => ?_)
    refine lv_aload_n hx hb dX11_school_34 rfl (lv_at hl 2 rfl) ?_
    obtain ⟨t14, h⟩ := zc_at h
    obtain ⟨b15, hb15, h⟩ := zd_at h
    refine z_gR hx hb hq hown hK hW fs_RX11_12 t14 hb15 dX11_school_35 ?_
    obtain ⟨t16, h⟩ := zc_at h
    obtain ⟨b17, hb17, h⟩ := zd_at h
    refine z_gR hx hb hq hown hK hW fs_RX11_28 t16 hb17 dX11_school_38 ?_
    obtain ⟨t18, h⟩ := zc_at h
    obtain ⟨st20, c19, h⟩ := zd_at h
    refine z_cV hx hb hq hml hown hK hW hS 5 [] [] rfl (List.mem_singleton.mp t18) (c_X5_clear l G st12 b17 c19) (zi zm273) (zi zm274) (zi zm275) (zi zm32) (zi zm276) cal_X5_clear rfl rfl hl.1 rfl (Nat.le_of_ble_eq_true rfl) (zR_ok (by omega) (by decide)) ⟨(Nat.le_of_ble_eq_true rfl), (Nat.le_of_ble_eq_true rfl)⟩ dX11_school_41 (fun H locs hW hS => ?_)
    refine W.eq (g2 := F0 m 44 ls []) rfl ?_
    refine lv_iload_n hx hb dX11_school_44 rfl (lv_at hl 0 rfl) ?_
    refine z_br (lv_if_lt (tgt := 53) hx hb dX11_school_45 (by decide)) h (fun h => ?_) (fun h => ?_)
    · refine lv_aload_n hx hb dX11_school_53 rfl (lv_at hl 2 rfl) ?_
      obtain ⟨t21, h⟩ := zc_at h
      obtain ⟨b22, hb22, h⟩ := zd_at h
      refine z_gR hx hb hq hown hK hW fs_RX11_12 t21 hb22 dX11_school_54 ?_
      refine lv_aload_n hx hb dX11_school_57 rfl (lv_at hl 1 rfl) ?_
      obtain ⟨t23, h⟩ := zc_at h
      refine z_pR hx hb hq hown hK hW hS fp_RX11_56 t23 (fun h => by cases h) (fun _ => rfl) (fun _ => rfl) dX11_school_58 (fun H locs hW hS => ?_)
      refine lv_aload_n hx hb dX11_school_61 rfl (lv_at hl 2 rfl) ?_
      obtain ⟨b24, hb24, h⟩ := zd_at h
      refine z_gR hx hb hq hown hK hW fs_RX11_12 t21 hb24 dX11_school_62 ?_
      refine lv_dup hx hb dX11_school_65 rfl ?_
      obtain ⟨t25, h⟩ := zc_at h
      refine z_gI hx hb hq hown hK hW fs_RX11_42 t25 dX11_school_66 ?_
      refine lv_iconst (v := (nI 1)) hx hb dX11_school_69 (by decide) ?_
      refine lv_iadd hx hb dX11_school_70 ?_
      refine z_pI hx hb hq hown hK hW hS fp_RX11_42 t25 (fun h => by cases h) rfl rfl dX11_school_71 (fun H locs hW hS => ?_)
      refine lv_aload_n hx hb dX11_school_74 rfl (lv_at hl 2 rfl) ?_
      refine z_gR hx hb hq hown hK hW fs_RX11_12 t21 hb24 dX11_school_75 ?_
      refine z_gI hx hb hq hown hK hW fs_RX11_42 t25 dX11_school_78 ?_
      refine lv_iconst (v := (nI 1)) hx hb dX11_school_81 (by decide) ?_
      refine lv_isub hx hb dX11_school_82 ?_
      obtain ⟨rfl, rfl⟩ := Prod.mk.inj (Option.some.inj h)
      exact z_ri hx hb hr hlk hW hS (Nat.le_of_ble_eq_true rfl) (Nat.le_of_ble_eq_true rfl) dX11_school_83
    · refine lv_bipush (v := (-10)) hx hb dX11_school_48 (by decide) ?_
      refine lv_iload_n hx hb dX11_school_50 rfl (lv_at hl 0 rfl) ?_
      refine lv_isub hx hb dX11_school_51 ?_
      obtain ⟨rfl, rfl⟩ := Prod.mk.inj (Option.some.inj h)
      exact z_ri hx hb hr hlk hW hS (Nat.le_of_ble_eq_true rfl) (Nat.le_of_ble_eq_true rfl) dX11_school_52
  · refine lv_bipush (v := (-4)) hx hb dX11_school_11 (by decide) ?_
    obtain ⟨rfl, rfl⟩ := Prod.mk.inj (Option.some.inj h)
    exact z_ri hx hb hr hlk hW hS (Nat.le_of_ble_eq_true rfl) (Nat.le_of_ble_eq_true rfl) dX11_school_13
def f_X11_isDigit (a0 : Int32) : Option Int32 := (if a0 < 0 then (some (nI 0)) else (if (nI 9) < a0 then (some (nI 0)) else (some (nI 1))))
set_option maxHeartbeats 1000000 in
set_option maxRecDepth 100000 in
theorem c_X11_isDigit (l : Launch) (G : zG) (st : zS) (a0 : Int32) {r : Int32} (h : f_X11_isDigit a0 = some r) : zMet l G yX11_isDigit cX11_isDigit 1 (some .boolean) 0 0 0 [.int a0] st (some (.int r)) st := by
  refine zMet_of (by decide +kernel) ?_
  intro p e s m args below meth c X
  obtain ⟨hx, hb, hr, hml, hown, hq, hlk, hK, -, hin, hW, hS⟩ := X
  have hown : s.vm.findClass RX11 = some m.cls := hown
  refine z_ent (by exact Nat.le_of_ble_eq_true rfl) (fun ls hl => ?_)
  have hl : lv_has ls 1 [(0, .int a0)] := hl
  unfold f_X11_isDigit at h
  refine lv_iload_n hx hb dX11_isDigit_0 rfl (lv_at hl 0 rfl) ?_
  refine z_br (lv_if_lt (tgt := 14) hx hb dX11_isDigit_1 (by decide)) h (fun h => ?_) (fun h => ?_)
  · refine lv_iconst (v := (nI 0)) hx hb dX11_isDigit_14 (by decide) ?_
    obtain rfl := Option.some.inj h
    exact z_rz hx hb hr hlk rfl hW hS (Nat.le_of_ble_eq_true rfl) (Nat.le_of_ble_eq_true rfl) dX11_isDigit_15
  · refine lv_iload_n hx hb dX11_isDigit_4 rfl (lv_at hl 0 rfl) ?_
    refine lv_bipush (v := (nI 9)) hx hb dX11_isDigit_5 (by decide) ?_
    refine z_br (lv_icmp_gt (tgt := 14) hx hb dX11_isDigit_7 (by decide)) h (fun h => ?_) (fun h => ?_)
    · refine lv_iconst (v := (nI 0)) hx hb dX11_isDigit_14 (by decide) ?_
      obtain rfl := Option.some.inj h
      exact z_rz hx hb hr hlk rfl hW hS (Nat.le_of_ble_eq_true rfl) (Nat.le_of_ble_eq_true rfl) dX11_isDigit_15
    · refine lv_iconst (v := (nI 1)) hx hb dX11_isDigit_10 (by decide) ?_
      refine lv_goto (tgt := 15) hx hb dX11_isDigit_11 (by decide) ?_
      obtain rfl := Option.some.inj h
      exact z_rz hx hb hr hlk rfl hW hS (Nat.le_of_ble_eq_true rfl) (Nat.le_of_ble_eq_true rfl) dX11_isDigit_15
def f_X11_made (st : zS) (a0 : Int32) (a1 : Int32) (a2 : Int32) (a3 : Int32) : Option (zS × (Option Nat)) := (if a0 = (nI 1) then (Option.bind (f_X10_init (zNw st 20 0) ((st).1) (nI 1) a1 a2 a3) (fun st3 => (some (st3, ((some (st).1) : Option Nat))))) else (if a0 = (nI 2) then (Option.bind (f_X0_init (zNw st 10 0) ((st).1) (nI 2) a1 a2 a3) (fun st6 => (some (st6, ((some (st).1) : Option Nat))))) else (if a0 = (nI 3) then (Option.bind (f_X3_init (zNw st 13 0) ((st).1) (nI 3) a1 a2 a3) (fun st9 => (some (st9, ((some (st).1) : Option Nat))))) else (if a0 = (nI 4) then (Option.bind (f_X9_init (zNw st 19 0) ((st).1) a1 a2 a3) (fun st12 => (some (st12, ((some (st).1) : Option Nat))))) else (if a0 = (nI 5) then (Option.bind (f_X1_init (zNw st 11 0) ((st).1) a1 a2 a3) (fun st15 => (some (st15, ((some (st).1) : Option Nat))))) else (if a0 = (nI 6) then (Option.bind (f_X7_init (zNw (zNw st 17 0) 1 4) ((st).1) a1 a2 a3 (((zNw st 17 0)).1)) (fun st18 => (some (st18, ((some (st).1) : Option Nat))))) else (Option.bind (f_X4_init (zNw st 14 0) ((st).1) (nI 0) a1 a2 a3) (fun st20 => (some (st20, ((some (st).1) : Option Nat)))))))))))
set_option maxHeartbeats 1000000 in
set_option maxRecDepth 100000 in
theorem c_X11_made (l : Launch) (G : zG) (st : zS) (a0 : Int32) (a1 : Int32) (a2 : Int32) (a3 : Int32) {st' : zS} {r : Option Nat} (h : f_X11_made st a0 a1 a2 a3 = some (st', r)) : zMet l G yX11_made cX11_made 4 (some (.object "TwoPens$Line")) 4 2 9 [.int a0, .int a1, .int a2, .int a3] st (some (zrf G.2.2.2 r)) st' := by
  refine zMet_of (by decide +kernel) ?_
  intro p e s m args below meth c X
  obtain ⟨hx, hb, hr, hml, hown, hq, hlk, hK, -, hin, hW, hS⟩ := X
  have hown : s.vm.findClass RX11 = some m.cls := hown
  refine z_ent (by exact Nat.le_of_ble_eq_true rfl) (fun ls hl => ?_)
  have hl : lv_has ls 4 [(0, .int a0), (1, .int a1), (2, .int a2), (3, .int a3)] := hl
  unfold f_X11_made at h
  refine lv_iload_n hx hb dX11_made_0 rfl (lv_at hl 0 rfl) ?_
  rcases zi_at h with ⟨k1, h⟩ | ⟨k1, h⟩
  · refine lv_tableIn (off := 39) (tgt := 40) hx hb dX11_made_1 (by rw [k1]; decide) (by rw [k1]; decide) (by rw [k1]; rfl) (by decide) ?_
    refine z_new (ci := 10) hx hb hq hown hK hW hS rfl (zi zm347) (zi zm348) (zi zm349) df_X10 (Nat.le_of_ble_eq_true rfl) (Nat.le_of_ble_eq_true rfl) dX11_made_40 (fun H hW hS => ?_)
    refine lv_dup hx hb dX11_made_43 rfl ?_
    refine lv_iconst (v := (nI 1)) hx hb dX11_made_44 (by decide) ?_
    refine lv_iload_n hx hb dX11_made_45 rfl (lv_at hl 1 rfl) ?_
    refine lv_iload_n hx hb dX11_made_46 rfl (lv_at hl 2 rfl) ?_
    refine lv_iload_n hx hb dX11_made_47 rfl (lv_at hl 3 rfl) ?_
    obtain ⟨st3, c2, h⟩ := zd_at h
    refine z_cI hx hb hq hml hown hK hW hS [.int ((nI 1)), .int a1, .int a2, .int a3] [.ref (G.2.2.2 + (st).1)] (c_X10_init l G (zNw st 20 0) ((st).1) (nI 1) a1 a2 a3 c2) (zi zm368) (zi zm369) (zi zm349) (zi zm370) cal_X10_init rfl rfl hl.1 rfl (Nat.le_of_ble_eq_true rfl) (zR_ok (by omega) (by decide)) ⟨(Nat.le_of_ble_eq_true rfl), (Nat.le_of_ble_eq_true rfl)⟩ dX11_made_48 (fun H locs hW hS => ?_)
    refine W.eq (g2 := F0 m 51 ls [.ref (G.2.2.2 + (st).1)]) rfl ?_
    obtain ⟨rfl, rfl⟩ := Prod.mk.inj (Option.some.inj h)
    exact z_ra (r := (some (st).1)) hx hb hr hlk hW hS (Nat.le_of_ble_eq_true rfl) (Nat.le_of_ble_eq_true rfl) dX11_made_51
  · rcases zi_at h with ⟨k4, h⟩ | ⟨k4, h⟩
    · refine lv_tableIn (off := 51) (tgt := 52) hx hb dX11_made_1 (by rw [k4]; decide) (by rw [k4]; decide) (by rw [k4]; rfl) (by decide) ?_
      refine z_new (ci := 0) hx hb hq hown hK hW hS rfl (zi zm350) (zi zm351) (zi zm352) df_X0 (Nat.le_of_ble_eq_true rfl) (Nat.le_of_ble_eq_true rfl) dX11_made_52 (fun H hW hS => ?_)
      refine lv_dup hx hb dX11_made_55 rfl ?_
      refine lv_iconst (v := (nI 2)) hx hb dX11_made_56 (by decide) ?_
      refine lv_iload_n hx hb dX11_made_57 rfl (lv_at hl 1 rfl) ?_
      refine lv_iload_n hx hb dX11_made_58 rfl (lv_at hl 2 rfl) ?_
      refine lv_iload_n hx hb dX11_made_59 rfl (lv_at hl 3 rfl) ?_
      obtain ⟨st6, c5, h⟩ := zd_at h
      refine z_cI hx hb hq hml hown hK hW hS [.int ((nI 2)), .int a1, .int a2, .int a3] [.ref (G.2.2.2 + (st).1)] (c_X0_init l G (zNw st 10 0) ((st).1) (nI 2) a1 a2 a3 c5) (zi zm379) (zi zm380) (zi zm352) (zi zm381) cal_X0_init rfl rfl hl.1 rfl (Nat.le_of_ble_eq_true rfl) (zR_ok (by omega) (by decide)) ⟨(Nat.le_of_ble_eq_true rfl), (Nat.le_of_ble_eq_true rfl)⟩ dX11_made_60 (fun H locs hW hS => ?_)
      refine W.eq (g2 := F0 m 63 ls [.ref (G.2.2.2 + (st).1)]) rfl ?_
      obtain ⟨rfl, rfl⟩ := Prod.mk.inj (Option.some.inj h)
      exact z_ra (r := (some (st).1)) hx hb hr hlk hW hS (Nat.le_of_ble_eq_true rfl) (Nat.le_of_ble_eq_true rfl) dX11_made_63
    · rcases zi_at h with ⟨k7, h⟩ | ⟨k7, h⟩
      · refine lv_tableIn (off := 63) (tgt := 64) hx hb dX11_made_1 (by rw [k7]; decide) (by rw [k7]; decide) (by rw [k7]; rfl) (by decide) ?_
        refine z_new (ci := 3) hx hb hq hown hK hW hS rfl (zi zm353) (zi zm354) (zi zm355) df_X3 (Nat.le_of_ble_eq_true rfl) (Nat.le_of_ble_eq_true rfl) dX11_made_64 (fun H hW hS => ?_)
        refine lv_dup hx hb dX11_made_67 rfl ?_
        refine lv_iconst (v := (nI 3)) hx hb dX11_made_68 (by decide) ?_
        refine lv_iload_n hx hb dX11_made_69 rfl (lv_at hl 1 rfl) ?_
        refine lv_iload_n hx hb dX11_made_70 rfl (lv_at hl 2 rfl) ?_
        refine lv_iload_n hx hb dX11_made_71 rfl (lv_at hl 3 rfl) ?_
        obtain ⟨st9, c8, h⟩ := zd_at h
        refine z_cI hx hb hq hml hown hK hW hS [.int ((nI 3)), .int a1, .int a2, .int a3] [.ref (G.2.2.2 + (st).1)] (c_X3_init l G (zNw st 13 0) ((st).1) (nI 3) a1 a2 a3 c8) (zi zm383) (zi zm384) (zi zm355) (zi zm385) cal_X3_init rfl rfl hl.1 rfl (Nat.le_of_ble_eq_true rfl) (zR_ok (by omega) (by decide)) ⟨(Nat.le_of_ble_eq_true rfl), (Nat.le_of_ble_eq_true rfl)⟩ dX11_made_72 (fun H locs hW hS => ?_)
        refine W.eq (g2 := F0 m 75 ls [.ref (G.2.2.2 + (st).1)]) rfl ?_
        obtain ⟨rfl, rfl⟩ := Prod.mk.inj (Option.some.inj h)
        exact z_ra (r := (some (st).1)) hx hb hr hlk hW hS (Nat.le_of_ble_eq_true rfl) (Nat.le_of_ble_eq_true rfl) dX11_made_75
      · rcases zi_at h with ⟨k10, h⟩ | ⟨k10, h⟩
        · refine lv_tableIn (off := 75) (tgt := 76) hx hb dX11_made_1 (by rw [k10]; decide) (by rw [k10]; decide) (by rw [k10]; rfl) (by decide) ?_
          refine z_new (ci := 9) hx hb hq hown hK hW hS rfl (zi zm356) (zi zm357) (zi zm358) df_X9 (Nat.le_of_ble_eq_true rfl) (Nat.le_of_ble_eq_true rfl) dX11_made_76 (fun H hW hS => ?_)
          refine lv_dup hx hb dX11_made_79 rfl ?_
          refine lv_iload_n hx hb dX11_made_80 rfl (lv_at hl 1 rfl) ?_
          refine lv_iload_n hx hb dX11_made_81 rfl (lv_at hl 2 rfl) ?_
          refine lv_iload_n hx hb dX11_made_82 rfl (lv_at hl 3 rfl) ?_
          obtain ⟨st12, c11, h⟩ := zd_at h
          refine z_cI hx hb hq hml hown hK hW hS [.int a1, .int a2, .int a3] [.ref (G.2.2.2 + (st).1)] (c_X9_init l G (zNw st 19 0) ((st).1) a1 a2 a3 c11) (zi zm387) (zi zm388) (zi zm358) (zi zm389) cal_X9_init rfl rfl hl.1 rfl (Nat.le_of_ble_eq_true rfl) (zR_ok (by omega) (by decide)) ⟨(Nat.le_of_ble_eq_true rfl), (Nat.le_of_ble_eq_true rfl)⟩ dX11_made_83 (fun H locs hW hS => ?_)
          refine W.eq (g2 := F0 m 86 ls [.ref (G.2.2.2 + (st).1)]) rfl ?_
          obtain ⟨rfl, rfl⟩ := Prod.mk.inj (Option.some.inj h)
          exact z_ra (r := (some (st).1)) hx hb hr hlk hW hS (Nat.le_of_ble_eq_true rfl) (Nat.le_of_ble_eq_true rfl) dX11_made_86
        · rcases zi_at h with ⟨k13, h⟩ | ⟨k13, h⟩
          · refine lv_tableIn (off := 86) (tgt := 87) hx hb dX11_made_1 (by rw [k13]; decide) (by rw [k13]; decide) (by rw [k13]; rfl) (by decide) ?_
            refine z_new (ci := 1) hx hb hq hown hK hW hS rfl (zi zm359) (zi zm360) (zi zm361) df_X1 (Nat.le_of_ble_eq_true rfl) (Nat.le_of_ble_eq_true rfl) dX11_made_87 (fun H hW hS => ?_)
            refine lv_dup hx hb dX11_made_90 rfl ?_
            refine lv_iload_n hx hb dX11_made_91 rfl (lv_at hl 1 rfl) ?_
            refine lv_iload_n hx hb dX11_made_92 rfl (lv_at hl 2 rfl) ?_
            refine lv_iload_n hx hb dX11_made_93 rfl (lv_at hl 3 rfl) ?_
            obtain ⟨st15, c14, h⟩ := zd_at h
            refine z_cI hx hb hq hml hown hK hW hS [.int a1, .int a2, .int a3] [.ref (G.2.2.2 + (st).1)] (c_X1_init l G (zNw st 11 0) ((st).1) a1 a2 a3 c14) (zi zm391) (zi zm392) (zi zm361) (zi zm393) cal_X1_init rfl rfl hl.1 rfl (Nat.le_of_ble_eq_true rfl) (zR_ok (by omega) (by decide)) ⟨(Nat.le_of_ble_eq_true rfl), (Nat.le_of_ble_eq_true rfl)⟩ dX11_made_94 (fun H locs hW hS => ?_)
            refine W.eq (g2 := F0 m 97 ls [.ref (G.2.2.2 + (st).1)]) rfl ?_
            obtain ⟨rfl, rfl⟩ := Prod.mk.inj (Option.some.inj h)
            exact z_ra (r := (some (st).1)) hx hb hr hlk hW hS (Nat.le_of_ble_eq_true rfl) (Nat.le_of_ble_eq_true rfl) dX11_made_97
          · rcases zi_at h with ⟨k16, h⟩ | ⟨k16, h⟩
            · refine lv_tableIn (off := 97) (tgt := 98) hx hb dX11_made_1 (by rw [k16]; decide) (by rw [k16]; decide) (by rw [k16]; rfl) (by decide) ?_
              refine z_new (ci := 7) hx hb hq hown hK hW hS rfl (zi zm362) (zi zm363) (zi zm364) df_X7 (Nat.le_of_ble_eq_true rfl) (Nat.le_of_ble_eq_true rfl) dX11_made_98 (fun H hW hS => ?_)
              refine lv_dup hx hb dX11_made_101 rfl ?_
              refine lv_iload_n hx hb dX11_made_102 rfl (lv_at hl 1 rfl) ?_
              refine lv_iload_n hx hb dX11_made_103 rfl (lv_at hl 2 rfl) ?_
              refine lv_iload_n hx hb dX11_made_104 rfl (lv_at hl 3 rfl) ?_
              refine lv_iconst (v := (nI 4)) hx hb dX11_made_105 (by decide) ?_
              refine z_nwI (N := 4) hx hb hq hK hW hS (zi zm45) (by decide) (by decide) (by decide) (Nat.le_of_ble_eq_true rfl) (Nat.le_of_ble_eq_true rfl) dX11_made_106 (fun H hW hS => ?_)
              obtain ⟨st18, c17, h⟩ := zd_at h
              refine z_cI hx hb hq hml hown hK hW hS [.int a1, .int a2, .int a3, .ref (G.2.2.2 + ((zNw st 17 0)).1)] [.ref (G.2.2.2 + (st).1)] (c_X7_init l G (zNw (zNw st 17 0) 1 4) ((st).1) a1 a2 a3 (((zNw st 17 0)).1) c17) (zi zm395) (zi zm396) (zi zm364) (zi zm397) cal_X7_init rfl rfl hl.1 rfl (Nat.le_of_ble_eq_true rfl) (zR_ok (by omega) (by decide)) ⟨(Nat.le_of_ble_eq_true rfl), (Nat.le_of_ble_eq_true rfl)⟩ dX11_made_108 (fun H locs hW hS => ?_)
              refine W.eq (g2 := F0 m 111 ls [.ref (G.2.2.2 + (st).1)]) rfl ?_
              obtain ⟨rfl, rfl⟩ := Prod.mk.inj (Option.some.inj h)
              exact z_ra (r := (some (st).1)) hx hb hr hlk hW hS (Nat.le_of_ble_eq_true rfl) (Nat.le_of_ble_eq_true rfl) dX11_made_111
            · refine lv_tableOut (tgt := 112) hx hb dX11_made_1 (by have q0 := lv_neT (a := 1) k1 (by decide); have q1 := lv_neT (a := 2) k4 (by decide); have q2 := lv_neT (a := 3) k7 (by decide); have q3 := lv_neT (a := 4) k10 (by decide); have q4 := lv_neT (a := 5) k13 (by decide); have q5 := lv_neT (a := 6) k16 (by decide); omega) (by decide) ?_
              refine z_new (ci := 4) hx hb hq hown hK hW hS rfl (zi zm365) (zi zm366) (zi zm367) df_X4 (Nat.le_of_ble_eq_true rfl) (Nat.le_of_ble_eq_true rfl) dX11_made_112 (fun H hW hS => ?_)
              refine lv_dup hx hb dX11_made_115 rfl ?_
              refine lv_iconst (v := (nI 0)) hx hb dX11_made_116 (by decide) ?_
              refine lv_iload_n hx hb dX11_made_117 rfl (lv_at hl 1 rfl) ?_
              refine lv_iload_n hx hb dX11_made_118 rfl (lv_at hl 2 rfl) ?_
              refine lv_iload_n hx hb dX11_made_119 rfl (lv_at hl 3 rfl) ?_
              obtain ⟨st20, c19, h⟩ := zd_at h
              refine z_cI hx hb hq hml hown hK hW hS [.int ((nI 0)), .int a1, .int a2, .int a3] [.ref (G.2.2.2 + (st).1)] (c_X4_init l G (zNw st 14 0) ((st).1) (nI 0) a1 a2 a3 c19) (zi zm400) (zi zm372) (zi zm367) (zi zm373) cal_X4_init rfl rfl hl.1 rfl (Nat.le_of_ble_eq_true rfl) (zR_ok (by omega) (by decide)) ⟨(Nat.le_of_ble_eq_true rfl), (Nat.le_of_ble_eq_true rfl)⟩ dX11_made_120 (fun H locs hW hS => ?_)
              refine W.eq (g2 := F0 m 123 ls [.ref (G.2.2.2 + (st).1)]) rfl ?_
              obtain ⟨rfl, rfl⟩ := Prod.mk.inj (Option.some.inj h)
              exact z_ra (r := (some (st).1)) hx hb hr hlk hW hS (Nat.le_of_ble_eq_true rfl) (Nat.le_of_ble_eq_true rfl) dX11_made_123
def f_X11_way (st : zS) (o : Nat) (a1 : Int32) (a2 : Int32) (a3 : Int32) : Option (zS × Int32) := (if a1 < 0 then (some (st, (-1 : Int32))) else (if a1 ≤ (nI 6) then (Option.bind (f_X11_isDigit a2) (fun r2 => (if r2 = 0 then (some (st, (-2 : Int32))) else (if a3 < (nI 1) then (some (st, (-2 : Int32))) else (if a3 ≤ (nI 60) then (if zTg st o ∈ [21] then (Option.bind (zR st o 0) (fun b4 => (if zTg st b4 ∈ [12] then (Option.bind (f_X2_wayCount st b4) (fun r7 => (zb (f_X11_made st a1 r7 a2 a3) (fun st9 r10 => (zo r10 none (fun q11 => (if zTg st9 b4 ∈ [12] then (zb (f_X2_addWay st9 b4 q11) (fun st14 r15 => (if r15 = 0 then (some (st14, (-4 : Int32))) else (some (st14, r7))))) else none))))))) else none))) else none) else (some (st, (-2 : Int32)))))))) else (some (st, (-1 : Int32)))))
set_option maxHeartbeats 1000000 in
set_option maxRecDepth 100000 in
theorem c_X11_way (l : Launch) (G : zG) (st : zS) (o : Nat) (a1 : Int32) (a2 : Int32) (a3 : Int32) {st' : zS} {r : Int32} (h : f_X11_way st o a1 a2 a3 = some (st', r)) : zMet l G yX11_way cX11_way 5 (some .int) 5 2 9 [.ref (G.2.2.2 + o), .int a1, .int a2, .int a3] st (some (.int r)) st' := by
  refine zMet_of (by decide +kernel) ?_
  intro p e s m args below meth c X
  obtain ⟨hx, hb, hr, hml, hown, hq, hlk, hK, -, hin, hW, hS⟩ := X
  have hown : s.vm.findClass RX11 = some m.cls := hown
  refine z_ent (by exact Nat.le_of_ble_eq_true rfl) (fun ls hl => ?_)
  have hl : lv_has ls 5 [(0, .ref (G.2.2.2 + o)), (1, .int a1), (2, .int a2), (3, .int a3)] := hl
  unfold f_X11_way at h
  refine lv_iload_n hx hb dX11_way_0 rfl (lv_at hl 1 rfl) ?_
  refine z_br (lv_if_lt (tgt := 10) hx hb dX11_way_1 (by decide)) h (fun h => ?_) (fun h => ?_)
  · refine lv_iconst (v := (-1)) hx hb dX11_way_10 (by decide) ?_
    obtain ⟨rfl, rfl⟩ := Prod.mk.inj (Option.some.inj h)
    exact z_ri hx hb hr hlk hW hS (Nat.le_of_ble_eq_true rfl) (Nat.le_of_ble_eq_true rfl) dX11_way_11
  · refine lv_iload_n hx hb dX11_way_4 rfl (lv_at hl 1 rfl) ?_
    refine lv_bipush (v := (nI 6)) hx hb dX11_way_5 (by decide) ?_
    refine z_br (lv_icmp_le (tgt := 12) hx hb dX11_way_7 (by decide)) h (fun h => ?_) (fun h => ?_)
    · refine lv_iload_n hx hb dX11_way_12 rfl (lv_at hl 2 rfl) ?_
      obtain ⟨r2, c1, h⟩ := zd_at h
      refine z_cS hx hb hq hml hown hK hW hS [.int a2] [] (c_X11_isDigit l G st a2 c1) (zi zm336) (zi zm337) (zi zm2) (zi zm338) cal_X11_isDigit rfl hl.1 rfl (Nat.le_of_ble_eq_true rfl) (zR_ok (by omega) (by decide)) ⟨(Nat.le_of_ble_eq_true rfl), (Nat.le_of_ble_eq_true rfl)⟩ dX11_way_13 (fun H locs hW hS => ?_)
      refine W.eq (g2 := F0 m 16 ls [.int r2]) rfl ?_
      refine z_br (lv_if_eq (tgt := 30) hx hb dX11_way_16 (by decide)) h (fun h => ?_) (fun h => ?_)
      · refine lv_bipush (v := (-2)) hx hb dX11_way_30 (by decide) ?_
        obtain ⟨rfl, rfl⟩ := Prod.mk.inj (Option.some.inj h)
        exact z_ri hx hb hr hlk hW hS (Nat.le_of_ble_eq_true rfl) (Nat.le_of_ble_eq_true rfl) dX11_way_32
      · refine lv_iload_n hx hb dX11_way_19 rfl (lv_at hl 3 rfl) ?_
        refine lv_iconst (v := (nI 1)) hx hb dX11_way_20 (by decide) ?_
        refine z_br (lv_icmp_lt (tgt := 30) hx hb dX11_way_21 (by decide)) h (fun h => ?_) (fun h => ?_)
        · refine lv_bipush (v := (-2)) hx hb dX11_way_30 (by decide) ?_
          obtain ⟨rfl, rfl⟩ := Prod.mk.inj (Option.some.inj h)
          exact z_ri hx hb hr hlk hW hS (Nat.le_of_ble_eq_true rfl) (Nat.le_of_ble_eq_true rfl) dX11_way_32
        · refine lv_iload_n hx hb dX11_way_24 rfl (lv_at hl 3 rfl) ?_
          refine lv_bipush (v := (nI 60)) hx hb dX11_way_25 (by decide) ?_
          refine z_br (lv_icmp_le (tgt := 33) hx hb dX11_way_27 (by decide)) h (fun h => ?_) (fun h => ?_)
          · refine lv_aload_n hx hb dX11_way_33 rfl (lv_at hl 0 rfl) ?_
            obtain ⟨t3, h⟩ := zc_at h
            obtain ⟨b4, hb4, h⟩ := zd_at h
            refine z_gR hx hb hq hown hK hW fs_RX11_12 t3 hb4 dX11_way_34 ?_
            obtain ⟨t5, h⟩ := zc_at h
            obtain ⟨r7, c6, h⟩ := zd_at h
            refine z_cV hx hb hq hml hown hK hW hS 2 [] [] rfl (List.mem_singleton.mp t5) (c_X2_wayCount l G st b4 c6) (zi zm339) (zi zm340) (zi zm341) (zi zm14) (zi zm342) cal_X2_wayCount rfl rfl hl.1 rfl (Nat.le_of_ble_eq_true rfl) (zR_ok (by omega) (by decide)) ⟨(Nat.le_of_ble_eq_true rfl), (Nat.le_of_ble_eq_true rfl)⟩ dX11_way_37 (fun H locs hW hS => ?_)
            refine W.eq (g2 := F0 m 40 ls [.int r7]) rfl ?_
            refine lv_istore (lv' := [(4, .int r7), (0, .ref (G.2.2.2 + o)), (1, .int a1), (2, .int a2), (3, .int a3)]) hx hb dX11_way_40 hl (by decide) rfl (fun ls hl => ?_)
            refine lv_aload_n hx hb dX11_way_42 rfl (lv_at hl 1 rfl) ?_
            refine z_gR hx hb hq hown hK hW fs_RX11_12 t3 hb4 dX11_way_43 ?_
            refine lv_iload_n hx hb dX11_way_46 rfl (lv_at hl 2 rfl) ?_
            refine lv_iload hx hb dX11_way_47 (lv_at hl 0 rfl) ?_
            refine lv_iload_n hx hb dX11_way_49 rfl (lv_at hl 3 rfl) ?_
            refine lv_iload_n hx hb dX11_way_50 rfl (lv_at hl 4 rfl) ?_
            obtain ⟨st9, r10, c8, h⟩ := zb_at h
            refine z_cS hx hb hq hml hown hK hW hS [.int a1, .int r7, .int a2, .int a3] [.ref (G.2.2.2 + b4)] (c_X11_made l G st a1 r7 a2 a3 c8) (zi zm344) (zi zm345) (zi zm2) (zi zm346) cal_X11_made rfl hl.1 rfl (Nat.le_of_ble_eq_true rfl) (zR_ok (by omega) (by decide)) ⟨(Nat.le_of_ble_eq_true rfl), (Nat.le_of_ble_eq_true rfl)⟩ dX11_way_51 (fun H locs hW hS => ?_)
            rcases r10 with _ | q11
            · refine W.eq (g2 := F0 m 54 ls [.null, .ref (G.2.2.2 + b4)]) rfl ?_
              cases h
            · refine W.eq (g2 := F0 m 54 ls [.ref (G.2.2.2 + q11), .ref (G.2.2.2 + b4)]) rfl ?_
              obtain ⟨t12, h⟩ := zc_at h
              obtain ⟨st14, r15, c13, h⟩ := zb_at h
              refine z_cV hx hb hq hml hown hK hW hS 2 [.ref (G.2.2.2 + q11)] [] rfl (List.mem_singleton.mp t12) (c_X2_addWay l G st9 b4 q11 c13) (zi zm401) (zi zm402) (zi zm403) (zi zm14) (zi zm404) cal_X2_addWay rfl rfl hl.1 rfl (Nat.le_of_ble_eq_true rfl) (zR_ok (by omega) (by decide)) ⟨(Nat.le_of_ble_eq_true rfl), (Nat.le_of_ble_eq_true rfl)⟩ dX11_way_54 (fun H locs hW hS => ?_)
              refine W.eq (g2 := F0 m 57 ls [.int r15]) rfl ?_
              refine z_br (lv_if_eq (tgt := 65) hx hb dX11_way_57 (by decide)) h (fun h => ?_) (fun h => ?_)
              · refine lv_bipush (v := (-4)) hx hb dX11_way_65 (by decide) ?_
                obtain ⟨rfl, rfl⟩ := Prod.mk.inj (Option.some.inj h)
                exact z_ri hx hb hr hlk hW hS (Nat.le_of_ble_eq_true rfl) (Nat.le_of_ble_eq_true rfl) dX11_way_67
              · refine lv_iload hx hb dX11_way_60 (lv_at hl 0 rfl) ?_
                refine lv_goto (tgt := 67) hx hb dX11_way_62 (by decide) ?_
                obtain ⟨rfl, rfl⟩ := Prod.mk.inj (Option.some.inj h)
                exact z_ri hx hb hr hlk hW hS (Nat.le_of_ble_eq_true rfl) (Nat.le_of_ble_eq_true rfl) dX11_way_67
          · refine lv_bipush (v := (-2)) hx hb dX11_way_30 (by decide) ?_
            obtain ⟨rfl, rfl⟩ := Prod.mk.inj (Option.some.inj h)
            exact z_ri hx hb hr hlk hW hS (Nat.le_of_ble_eq_true rfl) (Nat.le_of_ble_eq_true rfl) dX11_way_32
    · refine lv_iconst (v := (-1)) hx hb dX11_way_10 (by decide) ?_
      obtain ⟨rfl, rfl⟩ := Prod.mk.inj (Option.some.inj h)
      exact z_ri hx hb hr hlk hW hS (Nat.le_of_ble_eq_true rfl) (Nat.le_of_ble_eq_true rfl) dX11_way_11
def f_X11_of (N : Nat) (st : zS) (o : Nat) (a1 : Int32) (a2 : Int32) : Option Int32 := (if zTg st o ∈ [21] then (Option.bind (zR st o 0) (fun b2 => (if zTg st b2 ∈ [12] then (Option.bind (f_X2_wayOf st b2 a1) (fun r5 => (zo r5 (some (-1 : Int32)) (fun q6 => (if a2 = (nI 0) then (if zTg st q6 ∈ zLs then (some (zM st q6 0)) else none) else (if a2 = (nI 1) then (if zTg st q6 ∈ zLs then (some (zM st q6 2)) else none) else (if a2 = (nI 2) then (if zTg st q6 ∈ zLs then (some (zM st q6 3)) else none) else (if a2 = (nI 3) then (Option.bind (zR st b2 5) (fun b14 => (if zTg st b14 ∈ [15] then (Option.bind (f_X5_timesOf N st b14 a1) (fun r17 => (some r17))) else none))) else (some (-1 : Int32)))))))))) else none))) else none)
set_option maxHeartbeats 1000000 in
set_option maxRecDepth 100000 in
theorem c_X11_of (l : Launch) (G : zG) (N : Nat) (st : zS) (o : Nat) (a1 : Int32) (a2 : Int32) {r : Int32} (h : f_X11_of N st o a1 a2 = some r) : zMet l G yX11_of cX11_of 4 (some .int) 2 0 0 [.ref (G.2.2.2 + o), .int a1, .int a2] st (some (.int r)) st := by
  refine zMet_of (by decide +kernel) ?_
  intro p e s m args below meth c X
  obtain ⟨hx, hb, hr, hml, hown, hq, hlk, hK, -, hin, hW, hS⟩ := X
  have hown : s.vm.findClass RX11 = some m.cls := hown
  refine z_ent (by exact Nat.le_of_ble_eq_true rfl) (fun ls hl => ?_)
  have hl : lv_has ls 4 [(0, .ref (G.2.2.2 + o)), (1, .int a1), (2, .int a2)] := hl
  unfold f_X11_of at h
  refine lv_aload_n hx hb dX11_of_0 rfl (lv_at hl 0 rfl) ?_
  obtain ⟨t1, h⟩ := zc_at h
  obtain ⟨b2, hb2, h⟩ := zd_at h
  refine z_gR hx hb hq hown hK hW fs_RX11_12 t1 hb2 dX11_of_1 ?_
  refine lv_iload_n hx hb dX11_of_4 rfl (lv_at hl 1 rfl) ?_
  obtain ⟨t3, h⟩ := zc_at h
  obtain ⟨r5, c4, h⟩ := zd_at h
  refine z_cV hx hb hq hml hown hK hW hS 2 [.int a1] [] rfl (List.mem_singleton.mp t3) (c_X2_wayOf l G st b2 a1 c4) (zi zm417) (zi zm418) (zi zm419) (zi zm14) (zi zm420) cal_X2_wayOf rfl rfl hl.1 rfl (Nat.le_of_ble_eq_true rfl) (zR_ok (by omega) (by decide)) ⟨(Nat.le_of_ble_eq_true rfl), (Nat.le_of_ble_eq_true rfl)⟩ dX11_of_5 (fun H locs hW hS => ?_)
  rcases r5 with _ | q6
  · refine W.eq (g2 := F0 m 8 ls [.null]) rfl ?_
    refine lv_astore_nN (lv' := [(3, .null), (0, .ref (G.2.2.2 + o)), (1, .int a1), (2, .int a2)]) hx hb dX11_of_8 rfl hl (by decide) rfl (fun ls hl => ?_)
    refine lv_aload_nN hx hb dX11_of_9 rfl (lv_at hl 0 rfl) ?_
    refine lv_ifnonnullN hx hb dX11_of_10 ?_
    refine lv_iconst (v := (-1)) hx hb dX11_of_13 (by decide) ?_
    obtain rfl := Option.some.inj h
    exact z_ri hx hb hr hlk hW hS (Nat.le_of_ble_eq_true rfl) (Nat.le_of_ble_eq_true rfl) dX11_of_14
  · refine W.eq (g2 := F0 m 8 ls [.ref (G.2.2.2 + q6)]) rfl ?_
    refine lv_astore_n (lv' := [(3, .ref (G.2.2.2 + q6)), (0, .ref (G.2.2.2 + o)), (1, .int a1), (2, .int a2)]) hx hb dX11_of_8 rfl hl (by decide) rfl (fun ls hl => ?_)
    refine lv_aload_n hx hb dX11_of_9 rfl (lv_at hl 0 rfl) ?_
    refine lv_ifnonnull (tgt := 15) hx hb dX11_of_10 (by decide) ?_
    refine lv_iload_n hx hb dX11_of_15 rfl (lv_at hl 3 rfl) ?_
    rcases zi_at h with ⟨k7, h⟩ | ⟨k7, h⟩
    · refine lv_tableIn (off := 32) (tgt := 48) hx hb dX11_of_16 (by rw [k7]; decide) (by rw [k7]; decide) (by rw [k7]; rfl) (by decide) ?_
      refine lv_aload_n hx hb dX11_of_48 rfl (lv_at hl 0 rfl) ?_
      obtain ⟨t8, h⟩ := zc_at h
      refine z_gI hx hb hq hown hK hW fs_RX11_78 t8 dX11_of_49 ?_
      obtain rfl := Option.some.inj h
      exact z_ri hx hb hr hlk hW hS (Nat.le_of_ble_eq_true rfl) (Nat.le_of_ble_eq_true rfl) dX11_of_52
    · rcases zi_at h with ⟨k9, h⟩ | ⟨k9, h⟩
      · refine lv_tableIn (off := 37) (tgt := 53) hx hb dX11_of_16 (by rw [k9]; decide) (by rw [k9]; decide) (by rw [k9]; rfl) (by decide) ?_
        refine lv_aload_n hx hb dX11_of_53 rfl (lv_at hl 0 rfl) ?_
        obtain ⟨t10, h⟩ := zc_at h
        refine z_gI hx hb hq hown hK hW fs_RX11_83 t10 dX11_of_54 ?_
        obtain rfl := Option.some.inj h
        exact z_ri hx hb hr hlk hW hS (Nat.le_of_ble_eq_true rfl) (Nat.le_of_ble_eq_true rfl) dX11_of_57
      · rcases zi_at h with ⟨k11, h⟩ | ⟨k11, h⟩
        · refine lv_tableIn (off := 42) (tgt := 58) hx hb dX11_of_16 (by rw [k11]; decide) (by rw [k11]; decide) (by rw [k11]; rfl) (by decide) ?_
          refine lv_aload_n hx hb dX11_of_58 rfl (lv_at hl 0 rfl) ?_
          obtain ⟨t12, h⟩ := zc_at h
          refine z_gI hx hb hq hown hK hW fs_RX11_86 t12 dX11_of_59 ?_
          obtain rfl := Option.some.inj h
          exact z_ri hx hb hr hlk hW hS (Nat.le_of_ble_eq_true rfl) (Nat.le_of_ble_eq_true rfl) dX11_of_62
        · rcases zi_at h with ⟨k13, h⟩ | ⟨k13, h⟩
          · refine lv_tableIn (off := 47) (tgt := 63) hx hb dX11_of_16 (by rw [k13]; decide) (by rw [k13]; decide) (by rw [k13]; rfl) (by decide) ?_
            refine lv_aload_n hx hb dX11_of_63 rfl (lv_at hl 1 rfl) ?_
            refine z_gR hx hb hq hown hK hW fs_RX11_12 t1 hb2 dX11_of_64 ?_
            obtain ⟨b14, hb14, h⟩ := zd_at h
            refine z_gR hx hb hq hown hK hW fs_RX11_89 t3 hb14 dX11_of_67 ?_
            refine lv_iload_n hx hb dX11_of_70 rfl (lv_at hl 2 rfl) ?_
            obtain ⟨t15, h⟩ := zc_at h
            obtain ⟨r17, c16, h⟩ := zd_at h
            refine z_cV hx hb hq hml hown hK hW hS 5 [.int a1] [] rfl (List.mem_singleton.mp t15) (c_X5_timesOf l G N st b14 a1 c16) (zi zm421) (zi zm422) (zi zm423) (zi zm32) (zi zm424) cal_X5_timesOf rfl rfl hl.1 rfl (Nat.le_of_ble_eq_true rfl) (zR_ok (by omega) (by decide)) ⟨(Nat.le_of_ble_eq_true rfl), (Nat.le_of_ble_eq_true rfl)⟩ dX11_of_71 (fun H locs hW hS => ?_)
            refine W.eq (g2 := F0 m 74 ls [.int r17]) rfl ?_
            obtain rfl := Option.some.inj h
            exact z_ri hx hb hr hlk hW hS (Nat.le_of_ble_eq_true rfl) (Nat.le_of_ble_eq_true rfl) dX11_of_74
          · refine lv_tableOut (tgt := 75) hx hb dX11_of_16 (by have q0 := lv_neT (a := 0) k7 (by decide); have q1 := lv_neT (a := 1) k9 (by decide); have q2 := lv_neT (a := 2) k11 (by decide); have q3 := lv_neT (a := 3) k13 (by decide); omega) (by decide) ?_
            refine lv_iconst (v := (-1)) hx hb dX11_of_75 (by decide) ?_
            obtain rfl := Option.some.inj h
            exact z_ri hx hb hr hlk hW hS (Nat.le_of_ble_eq_true rfl) (Nat.le_of_ble_eq_true rfl) dX11_of_76
def f_X11_row (st : zS) (o : Nat) (a1 : Int32) (a2 : Int32) (a3 : Int32) : Option (zS × Int32) := (if zTg st o ∈ [21] then (Option.bind (zR st o 0) (fun b2 => (if zTg st b2 ∈ [12] then (Option.bind (f_X2_wayOf st b2 a1) (fun r5 => (zo r5 (some (st, (-1 : Int32))) (fun q6 => (if a2 < 0 then (some (st, (-1 : Int32))) else (if a2 ≤ (nI 3) then (Option.bind (f_X11_isDigit a3) (fun r8 => (if r8 = 0 then (some (st, (-2 : Int32))) else (if zTg st q6 ∈ zLs then (if (if zTg st q6 ∈ [17] then (1 : Int32) else 0) = 0 then (some (st, (-3 : Int32))) else (if zTg st q6 ∈ [17] then (zb (f_X7_withRow st q6 a2 a3) (fun st12 r13 => (zo r13 none (fun q14 => (if zTg st12 b2 ∈ [12] then (Option.bind (f_X2_putWay st12 b2 a1 q14) (fun st17 => (if zTg st17 q6 ∈ [17] then (Option.bind (f_X7_rowAt st17 q6 a2) (fun r20 => (some (st17, r20)))) else none))) else none))))) else none)) else none)))) else (some (st, (-1 : Int32))))))))) else none))) else none)
set_option maxHeartbeats 1000000 in
set_option maxRecDepth 100000 in
theorem c_X11_row (l : Launch) (G : zG) (st : zS) (o : Nat) (a1 : Int32) (a2 : Int32) (a3 : Int32) {st' : zS} {r : Int32} (h : f_X11_row st o a1 a2 a3 = some (st', r)) : zMet l G yX11_row cX11_row 6 (some .int) 5 2 9 [.ref (G.2.2.2 + o), .int a1, .int a2, .int a3] st (some (.int r)) st' := by
  refine zMet_of (by decide +kernel) ?_
  intro p e s m args below meth c X
  obtain ⟨hx, hb, hr, hml, hown, hq, hlk, hK, -, hin, hW, hS⟩ := X
  have hown : s.vm.findClass RX11 = some m.cls := hown
  refine z_ent (by exact Nat.le_of_ble_eq_true rfl) (fun ls hl => ?_)
  have hl : lv_has ls 6 [(0, .ref (G.2.2.2 + o)), (1, .int a1), (2, .int a2), (3, .int a3)] := hl
  unfold f_X11_row at h
  refine lv_aload_n hx hb dX11_row_0 rfl (lv_at hl 0 rfl) ?_
  obtain ⟨t1, h⟩ := zc_at h
  obtain ⟨b2, hb2, h⟩ := zd_at h
  refine z_gR hx hb hq hown hK hW fs_RX11_12 t1 hb2 dX11_row_1 ?_
  refine lv_iload_n hx hb dX11_row_4 rfl (lv_at hl 1 rfl) ?_
  obtain ⟨t3, h⟩ := zc_at h
  obtain ⟨r5, c4, h⟩ := zd_at h
  refine z_cV hx hb hq hml hown hK hW hS 2 [.int a1] [] rfl (List.mem_singleton.mp t3) (c_X2_wayOf l G st b2 a1 c4) (zi zm417) (zi zm418) (zi zm419) (zi zm14) (zi zm420) cal_X2_wayOf rfl rfl hl.1 rfl (Nat.le_of_ble_eq_true rfl) (zR_ok (by omega) (by decide)) ⟨(Nat.le_of_ble_eq_true rfl), (Nat.le_of_ble_eq_true rfl)⟩ dX11_row_5 (fun H locs hW hS => ?_)
  rcases r5 with _ | q6
  · refine W.eq (g2 := F0 m 8 ls [.null]) rfl ?_
    refine lv_astoreN (lv' := [(4, .null), (0, .ref (G.2.2.2 + o)), (1, .int a1), (2, .int a2), (3, .int a3)]) hx hb dX11_row_8 hl (by decide) rfl (fun ls hl => ?_)
    refine lv_aloadN hx hb dX11_row_10 (lv_at hl 0 rfl) ?_
    refine lv_ifnullN (tgt := 24) hx hb dX11_row_12 (by decide) ?_
    refine lv_iconst (v := (-1)) hx hb dX11_row_24 (by decide) ?_
    obtain ⟨rfl, rfl⟩ := Prod.mk.inj (Option.some.inj h)
    exact z_ri hx hb hr hlk hW hS (Nat.le_of_ble_eq_true rfl) (Nat.le_of_ble_eq_true rfl) dX11_row_25
  · refine W.eq (g2 := F0 m 8 ls [.ref (G.2.2.2 + q6)]) rfl ?_
    refine lv_astore (lv' := [(4, .ref (G.2.2.2 + q6)), (0, .ref (G.2.2.2 + o)), (1, .int a1), (2, .int a2), (3, .int a3)]) hx hb dX11_row_8 hl (by decide) rfl (fun ls hl => ?_)
    refine lv_aload hx hb dX11_row_10 (lv_at hl 0 rfl) ?_
    refine lv_ifnull hx hb dX11_row_12 ?_
    refine lv_iload_n hx hb dX11_row_15 rfl (lv_at hl 3 rfl) ?_
    refine z_br (lv_if_lt (tgt := 24) hx hb dX11_row_16 (by decide)) h (fun h => ?_) (fun h => ?_)
    · refine lv_iconst (v := (-1)) hx hb dX11_row_24 (by decide) ?_
      obtain ⟨rfl, rfl⟩ := Prod.mk.inj (Option.some.inj h)
      exact z_ri hx hb hr hlk hW hS (Nat.le_of_ble_eq_true rfl) (Nat.le_of_ble_eq_true rfl) dX11_row_25
    · refine lv_iload_n hx hb dX11_row_19 rfl (lv_at hl 3 rfl) ?_
      refine lv_iconst (v := (nI 3)) hx hb dX11_row_20 (by decide) ?_
      refine z_br (lv_icmp_le (tgt := 26) hx hb dX11_row_21 (by decide)) h (fun h => ?_) (fun h => ?_)
      · refine lv_iload_n hx hb dX11_row_26 rfl (lv_at hl 4 rfl) ?_
        obtain ⟨r8, c7, h⟩ := zd_at h
        refine z_cS hx hb hq hml hown hK hW hS [.int a3] [] (c_X11_isDigit l G st a3 c7) (zi zm336) (zi zm337) (zi zm2) (zi zm338) cal_X11_isDigit rfl hl.1 rfl (Nat.le_of_ble_eq_true rfl) (zR_ok (by omega) (by decide)) ⟨(Nat.le_of_ble_eq_true rfl), (Nat.le_of_ble_eq_true rfl)⟩ dX11_row_27 (fun H locs hW hS => ?_)
        refine W.eq (g2 := F0 m 30 ls [.int r8]) rfl ?_
        refine z_brn (lv_if_ne (tgt := 36) hx hb dX11_row_30 (by decide)) h (fun h => ?_) (fun h => ?_)
        · refine lv_aload hx hb dX11_row_36 (lv_at hl 0 rfl) ?_
          obtain ⟨t9, h⟩ := zc_at h
          refine z_io (subs := [17]) hx hb hq hown hK hW (zi zm362) (by decide +kernel) t9 dX11_row_38 ?_
          refine z_br (lv_if_eq (tgt := 73) hx hb dX11_row_41 (by decide)) h (fun h => ?_) (fun h => ?_)
          · refine lv_bipush (v := (-3)) hx hb dX11_row_73 (by decide) ?_
            obtain ⟨rfl, rfl⟩ := Prod.mk.inj (Option.some.inj h)
            exact z_ri hx hb hr hlk hW hS (Nat.le_of_ble_eq_true rfl) (Nat.le_of_ble_eq_true rfl) dX11_row_75
          · refine lv_aload hx hb dX11_row_44 (lv_at hl 0 rfl) ?_
            obtain ⟨t10, h⟩ := zc_at h
            refine z_cast (ci := 7) hx hb hq hown hK hW rfl (zi zm362) (List.mem_singleton.mp t10) dX11_row_46 ?_
            refine lv_astore (lv' := [(5, .ref (G.2.2.2 + q6)), (4, .ref (G.2.2.2 + q6)), (0, .ref (G.2.2.2 + o)), (1, .int a1), (2, .int a2), (3, .int a3)]) hx hb dX11_row_49 hl (by decide) rfl (fun ls hl => ?_)
            refine lv_aload_n hx hb dX11_row_51 rfl (lv_at hl 2 rfl) ?_
            refine z_gR hx hb hq hown hK hW fs_RX11_12 t1 hb2 dX11_row_52 ?_
            refine lv_iload_n hx hb dX11_row_55 rfl (lv_at hl 3 rfl) ?_
            refine lv_aload hx hb dX11_row_56 (lv_at hl 0 rfl) ?_
            refine lv_iload_n hx hb dX11_row_58 rfl (lv_at hl 4 rfl) ?_
            refine lv_iload_n hx hb dX11_row_59 rfl (lv_at hl 5 rfl) ?_
            obtain ⟨st12, r13, c11, h⟩ := zb_at h
            refine z_cV hx hb hq hml hown hK hW hS 7 [.int a2, .int a3] [.int a1, .ref (G.2.2.2 + b2)] rfl (List.mem_singleton.mp t10) (c_X7_withRow l G st q6 a2 a3 c11) (zi zm439) (zi zm440) (zi zm441) (zi zm364) (zi zm442) cal_X7_withRow rfl rfl hl.1 rfl (Nat.le_of_ble_eq_true rfl) (zR_ok (by omega) (by decide)) ⟨(Nat.le_of_ble_eq_true rfl), (Nat.le_of_ble_eq_true rfl)⟩ dX11_row_60 (fun H locs hW hS => ?_)
            rcases r13 with _ | q14
            · refine W.eq (g2 := F0 m 63 ls [.null, .int a1, .ref (G.2.2.2 + b2)]) rfl ?_
              cases h
            · refine W.eq (g2 := F0 m 63 ls [.ref (G.2.2.2 + q14), .int a1, .ref (G.2.2.2 + b2)]) rfl ?_
              obtain ⟨t15, h⟩ := zc_at h
              obtain ⟨st17, c16, h⟩ := zd_at h
              refine z_cV hx hb hq hml hown hK hW hS 2 [.int a1, .ref (G.2.2.2 + q14)] [] rfl (List.mem_singleton.mp t15) (c_X2_putWay l G st12 b2 a1 q14 c16) (zi zm457) (zi zm458) (zi zm459) (zi zm14) (zi zm460) cal_X2_putWay rfl rfl hl.1 rfl (Nat.le_of_ble_eq_true rfl) (zR_ok (by omega) (by decide)) ⟨(Nat.le_of_ble_eq_true rfl), (Nat.le_of_ble_eq_true rfl)⟩ dX11_row_63 (fun H locs hW hS => ?_)
              refine W.eq (g2 := F0 m 66 ls []) rfl ?_
              refine lv_aload hx hb dX11_row_66 (lv_at hl 0 rfl) ?_
              refine lv_iload_n hx hb dX11_row_68 rfl (lv_at hl 4 rfl) ?_
              obtain ⟨t18, h⟩ := zc_at h
              obtain ⟨r20, c19, h⟩ := zd_at h
              refine z_cV hx hb hq hml hown hK hW hS 7 [.int a2] [] rfl (List.mem_singleton.mp t18) (c_X7_rowAt l G st17 q6 a2 c19) (zi zm461) (zi zm462) (zi zm463) (zi zm364) (zi zm464) cal_X7_rowAt rfl rfl hl.1 rfl (Nat.le_of_ble_eq_true rfl) (zR_ok (by omega) (by decide)) ⟨(Nat.le_of_ble_eq_true rfl), (Nat.le_of_ble_eq_true rfl)⟩ dX11_row_69 (fun H locs hW hS => ?_)
              refine W.eq (g2 := F0 m 72 ls [.int r20]) rfl ?_
              obtain ⟨rfl, rfl⟩ := Prod.mk.inj (Option.some.inj h)
              exact z_ri hx hb hr hlk hW hS (Nat.le_of_ble_eq_true rfl) (Nat.le_of_ble_eq_true rfl) dX11_row_72
        · refine lv_bipush (v := (-2)) hx hb dX11_row_33 (by decide) ?_
          obtain ⟨rfl, rfl⟩ := Prod.mk.inj (Option.some.inj h)
          exact z_ri hx hb hr hlk hW hS (Nat.le_of_ble_eq_true rfl) (Nat.le_of_ble_eq_true rfl) dX11_row_35
      · refine lv_iconst (v := (-1)) hx hb dX11_row_24 (by decide) ?_
        obtain ⟨rfl, rfl⟩ := Prod.mk.inj (Option.some.inj h)
        exact z_ri hx hb hr hlk hW hS (Nat.le_of_ble_eq_true rfl) (Nat.le_of_ble_eq_true rfl) dX11_row_25
def f_X11_isLength (a0 : Int32) : Option Int32 := (if a0 < (nI 1) then (some (nI 0)) else (if (nI 40) < a0 then (some (nI 0)) else (some (nI 1))))
set_option maxHeartbeats 1000000 in
set_option maxRecDepth 100000 in
theorem c_X11_isLength (l : Launch) (G : zG) (st : zS) (a0 : Int32) {r : Int32} (h : f_X11_isLength a0 = some r) : zMet l G yX11_isLength cX11_isLength 1 (some .boolean) 0 0 0 [.int a0] st (some (.int r)) st := by
  refine zMet_of (by decide +kernel) ?_
  intro p e s m args below meth c X
  obtain ⟨hx, hb, hr, hml, hown, hq, hlk, hK, -, hin, hW, hS⟩ := X
  have hown : s.vm.findClass RX11 = some m.cls := hown
  refine z_ent (by exact Nat.le_of_ble_eq_true rfl) (fun ls hl => ?_)
  have hl : lv_has ls 1 [(0, .int a0)] := hl
  unfold f_X11_isLength at h
  refine lv_iload_n hx hb dX11_isLength_0 rfl (lv_at hl 0 rfl) ?_
  refine lv_iconst (v := (nI 1)) hx hb dX11_isLength_1 (by decide) ?_
  refine z_br (lv_icmp_lt (tgt := 15) hx hb dX11_isLength_2 (by decide)) h (fun h => ?_) (fun h => ?_)
  · refine lv_iconst (v := (nI 0)) hx hb dX11_isLength_15 (by decide) ?_
    obtain rfl := Option.some.inj h
    exact z_rz hx hb hr hlk rfl hW hS (Nat.le_of_ble_eq_true rfl) (Nat.le_of_ble_eq_true rfl) dX11_isLength_16
  · refine lv_iload_n hx hb dX11_isLength_5 rfl (lv_at hl 0 rfl) ?_
    refine lv_bipush (v := (nI 40)) hx hb dX11_isLength_6 (by decide) ?_
    refine z_br (lv_icmp_gt (tgt := 15) hx hb dX11_isLength_8 (by decide)) h (fun h => ?_) (fun h => ?_)
    · refine lv_iconst (v := (nI 0)) hx hb dX11_isLength_15 (by decide) ?_
      obtain rfl := Option.some.inj h
      exact z_rz hx hb hr hlk rfl hW hS (Nat.le_of_ble_eq_true rfl) (Nat.le_of_ble_eq_true rfl) dX11_isLength_16
    · refine lv_iconst (v := (nI 1)) hx hb dX11_isLength_11 (by decide) ?_
      refine lv_goto (tgt := 16) hx hb dX11_isLength_12 (by decide) ?_
      obtain rfl := Option.some.inj h
      exact z_rz hx hb hr hlk rfl hW hS (Nat.le_of_ble_eq_true rfl) (Nat.le_of_ble_eq_true rfl) dX11_isLength_16
def f_X11_write_53 (N : Nat) (o : Nat) (a1 : Int32) (a2 : Int32)  : Nat → zS → Int32 → Option (zS × Int32)
  | 0, _, _ => none
  | n53 + 1, st, x4 => (if a2 ≤ x4 then (if zTg st o ∈ [21] then (Option.bind (zR st o 0) (fun b17 => (if zTg st b17 ∈ [12] then (Option.bind (f_X2_secondsOf st b17 a1 a2) (fun r20 => (Option.bind (f_X2_penceOf (zPM st b17 6 ((zM st b17 6) + r20)) b17 a1 a2) (fun r22 => (Option.bind (zR (zPM (zPM st b17 6 ((zM st b17 6) + r20)) b17 7 ((zM (zPM st b17 6 ((zM st b17 6) + r20)) b17 7) + r22)) b17 5) (fun b23 => (if zTg (zPM (zPM st b17 6 ((zM st b17 6) + r20)) b17 7 ((zM (zPM st b17 6 ((zM st b17 6) + r20)) b17 7) + r22)) b23 ∈ [15] then (Option.bind (f_X5_size (zPM (zPM st b17 6 ((zM st b17 6) + r20)) b17 7 ((zM (zPM st b17 6 ((zM st b17 6) + r20)) b17 7) + r22)) b23) (fun r26 => (some ((zPM (zPM st b17 6 ((zM st b17 6) + r20)) b17 7 ((zM (zPM st b17 6 ((zM st b17 6) + r20)) b17 7) + r22)), r26)))) else none))))))) else none))) else none) else (if zTg st o ∈ [21] then (Option.bind (zR st o 0) (fun b28 => (if zTg st b28 ∈ [12] then (Option.bind (zR st b28 5) (fun b30 => (if zTg st b30 ∈ [15] then (zb (f_X5_add st b30 a1) (fun st33 r34 => ((f_X11_write_53 N o a1 a2 n53) st33 (x4 + (nI 1))))) else none))) else none))) else none))
def f_X11_write_20 (N : Nat) (o : Nat) (a1 : Int32) (a2 : Int32)  (st : zS) : Option (zS × Int32) := (Option.bind (f_X11_isLength a2) (fun r8 => (if r8 = 0 then (some (st, (-2 : Int32))) else (if zTg st o ∈ [21] then (Option.bind (zR st o 0) (fun b10 => (if zTg st b10 ∈ [12] then (Option.bind (zR st b10 5) (fun b12 => (if zTg st b12 ∈ [15] then (Option.bind (f_X5_size st b12) (fun r15 => (if (r15 + a2) ≤ (nI 40) then (f_X11_write_53 N o a1 a2 N st (nI 0)) else (some (st, (-4 : Int32)))))) else none))) else none))) else none))))
def f_X11_write (N : Nat) (st : zS) (o : Nat) (a1 : Int32) (a2 : Int32) : Option (zS × Int32) := (if zTg st o ∈ [21] then (Option.bind (zR st o 0) (fun b2 => (if zTg st b2 ∈ [12] then (Option.bind (f_X2_wayOf st b2 a1) (fun r5 => (zo r5 (if a1 = (-1 : Int32) then (f_X11_write_20 N o a1 a2 st) else (some (st, (-1 : Int32)))) (fun q6 => (f_X11_write_20 N o a1 a2 st))))) else none))) else none)
set_option maxHeartbeats 1000000 in
set_option maxRecDepth 100000 in
theorem c_X11_write (l : Launch) (G : zG) (N : Nat) (st : zS) (o : Nat) (a1 : Int32) (a2 : Int32) {st' : zS} {r : Int32} (h : f_X11_write N st o a1 a2 = some (st', r)) : zMet l G yX11_write cX11_write 5 (some .int) 3 0 0 [.ref (G.2.2.2 + o), .int a1, .int a2] st (some (.int r)) st' := by
  refine zMet_of (by decide +kernel) ?_
  intro p e s m args below meth c X
  obtain ⟨hx, hb, hr, hml, hown, hq, hlk, hK, -, hin, hW, hS⟩ := X
  have hown : s.vm.findClass RX11 = some m.cls := hown
  refine z_ent (by exact Nat.le_of_ble_eq_true rfl) (fun ls hl => ?_)
  have hl : lv_has ls 5 [(0, .ref (G.2.2.2 + o)), (1, .int a1), (2, .int a2)] := hl
  unfold f_X11_write at h
  have B53 : ∀ (n53 : Nat) (st : zS) (x4 : Int32) (H : Heap) (locs : List Loc) (ls : Array Slot), f_X11_write_53 N o a1 a2 n53 st x4 = some (st', r) → zWd G st H → va_S (zA G) s.heap H locs → lv_has ls 5 [(0, .ref (G.2.2.2 + o)), (1, .int a1), (2, .int a2), (4, .int x4)] → W p l e (zRm 3 0 0) s m args below meth c H locs 0 0 (MQ below (zQ G (some (.int r)) st') args s 0 0 (zA G)) (F0 m 53 ls []) := by
    intro n53
    induction n53 with
    | zero =>
      intro st x4 H locs ls h
      unfold f_X11_write_53 at h
      cases h
    | succ n53 ih53 =>
      intro st x4 H locs ls h hW hS hl
      unfold f_X11_write_53 at h
      refine lv_iload hx hb dX11_write_53 (lv_at hl 3 rfl) ?_
      refine lv_iload_n hx hb dX11_write_55 rfl (lv_at hl 2 rfl) ?_
      refine z_br (lv_icmp_ge (tgt := 77) hx hb dX11_write_56 (by decide)) h (fun h => ?_) (fun h => ?_)
      · refine lv_aload_n hx hb dX11_write_77 rfl (lv_at hl 0 rfl) ?_
        obtain ⟨t16, h⟩ := zc_at h
        obtain ⟨b17, hb17, h⟩ := zd_at h
        refine z_gR hx hb hq hown hK hW fs_RX11_12 t16 hb17 dX11_write_78 ?_
        refine lv_dup hx hb dX11_write_81 rfl ?_
        obtain ⟨t18, h⟩ := zc_at h
        refine z_gI hx hb hq hown hK hW fs_RX11_112 t18 dX11_write_82 ?_
        refine lv_aload_n hx hb dX11_write_85 rfl (lv_at hl 0 rfl) ?_
        refine z_gR hx hb hq hown hK hW fs_RX11_12 t16 hb17 dX11_write_86 ?_
        refine lv_iload_n hx hb dX11_write_89 rfl (lv_at hl 1 rfl) ?_
        refine lv_iload_n hx hb dX11_write_90 rfl (lv_at hl 2 rfl) ?_
        obtain ⟨r20, c19, h⟩ := zd_at h
        refine z_cV hx hb hq hml hown hK hW hS 2 [.int a1, .int a2] [.int ((zM st b17 6)), .ref (G.2.2.2 + b17)] rfl (List.mem_singleton.mp t18) (c_X2_secondsOf l G st b17 a1 a2 c19) (zi zm478) (zi zm479) (zi zm480) (zi zm14) (zi zm481) cal_X2_secondsOf rfl rfl hl.1 rfl (Nat.le_of_ble_eq_true rfl) (zR_ok (by omega) (by decide)) ⟨(Nat.le_of_ble_eq_true rfl), (Nat.le_of_ble_eq_true rfl)⟩ dX11_write_91 (fun H locs hW hS => ?_)
        refine W.eq (g2 := F0 m 94 ls [.int r20, .int ((zM st b17 6)), .ref (G.2.2.2 + b17)]) rfl ?_
        refine lv_iadd hx hb dX11_write_94 ?_
        refine z_pI hx hb hq hown hK hW hS fp_RX11_112 t18 (fun h => by cases h) rfl rfl dX11_write_95 (fun H locs hW hS => ?_)
        refine lv_aload_n hx hb dX11_write_98 rfl (lv_at hl 0 rfl) ?_
        refine z_gR hx hb hq hown hK hW fs_RX11_12 t16 hb17 dX11_write_99 ?_
        refine lv_dup hx hb dX11_write_102 rfl ?_
        refine z_gI hx hb hq hown hK hW fs_RX11_119 t18 dX11_write_103 ?_
        refine lv_aload_n hx hb dX11_write_106 rfl (lv_at hl 0 rfl) ?_
        refine z_gR hx hb hq hown hK hW fs_RX11_12 t16 hb17 dX11_write_107 ?_
        refine lv_iload_n hx hb dX11_write_110 rfl (lv_at hl 1 rfl) ?_
        refine lv_iload_n hx hb dX11_write_111 rfl (lv_at hl 2 rfl) ?_
        obtain ⟨r22, c21, h⟩ := zd_at h
        refine z_cV hx hb hq hml hown hK hW hS 2 [.int a1, .int a2] [.int ((zM (zPM st b17 6 ((zM st b17 6) + r20)) b17 7)), .ref (G.2.2.2 + b17)] rfl (List.mem_singleton.mp t18) (c_X2_penceOf l G (zPM st b17 6 ((zM st b17 6) + r20)) b17 a1 a2 c21) (zi zm527) (zi zm528) (zi zm529) (zi zm14) (zi zm530) cal_X2_penceOf rfl rfl hl.1 rfl (Nat.le_of_ble_eq_true rfl) (zR_ok (by omega) (by decide)) ⟨(Nat.le_of_ble_eq_true rfl), (Nat.le_of_ble_eq_true rfl)⟩ dX11_write_112 (fun H locs hW hS => ?_)
        refine W.eq (g2 := F0 m 115 ls [.int r22, .int ((zM (zPM st b17 6 ((zM st b17 6) + r20)) b17 7)), .ref (G.2.2.2 + b17)]) rfl ?_
        refine lv_iadd hx hb dX11_write_115 ?_
        refine z_pI hx hb hq hown hK hW hS fp_RX11_119 t18 (fun h => by cases h) rfl rfl dX11_write_116 (fun H locs hW hS => ?_)
        refine lv_aload_n hx hb dX11_write_119 rfl (lv_at hl 0 rfl) ?_
        refine z_gR hx hb hq hown hK hW fs_RX11_12 t16 hb17 dX11_write_120 ?_
        obtain ⟨b23, hb23, h⟩ := zd_at h
        refine z_gR hx hb hq hown hK hW fs_RX11_89 t18 hb23 dX11_write_123 ?_
        obtain ⟨t24, h⟩ := zc_at h
        obtain ⟨r26, c25, h⟩ := zd_at h
        refine z_cV hx hb hq hml hown hK hW hS 5 [] [] rfl (List.mem_singleton.mp t24) (c_X5_size l G (zPM (zPM st b17 6 ((zM st b17 6) + r20)) b17 7 ((zM (zPM st b17 6 ((zM st b17 6) + r20)) b17 7) + r22)) b23 c25) (zi zm82) (zi zm83) (zi zm84) (zi zm32) (zi zm85) cal_X5_size rfl rfl hl.1 rfl (Nat.le_of_ble_eq_true rfl) (zR_ok (by omega) (by decide)) ⟨(Nat.le_of_ble_eq_true rfl), (Nat.le_of_ble_eq_true rfl)⟩ dX11_write_126 (fun H locs hW hS => ?_)
        refine W.eq (g2 := F0 m 129 ls [.int r26]) rfl ?_
        obtain ⟨rfl, rfl⟩ := Prod.mk.inj (Option.some.inj h)
        exact z_ri hx hb hr hlk hW hS (Nat.le_of_ble_eq_true rfl) (Nat.le_of_ble_eq_true rfl) dX11_write_129
      · refine lv_aload_n hx hb dX11_write_59 rfl (lv_at hl 0 rfl) ?_
        obtain ⟨t27, h⟩ := zc_at h
        obtain ⟨b28, hb28, h⟩ := zd_at h
        refine z_gR hx hb hq hown hK hW fs_RX11_12 t27 hb28 dX11_write_60 ?_
        obtain ⟨t29, h⟩ := zc_at h
        obtain ⟨b30, hb30, h⟩ := zd_at h
        refine z_gR hx hb hq hown hK hW fs_RX11_89 t29 hb30 dX11_write_63 ?_
        refine lv_iload_n hx hb dX11_write_66 rfl (lv_at hl 1 rfl) ?_
        obtain ⟨t31, h⟩ := zc_at h
        obtain ⟨st33, r34, c32, h⟩ := zb_at h
        refine z_cV hx hb hq hml hown hK hW hS 5 [.int a1] [] rfl (List.mem_singleton.mp t31) (c_X5_add l G st b30 a1 c32) (zi zm77) (zi zm78) (zi zm79) (zi zm32) (zi zm80) cal_X5_add rfl rfl hl.1 rfl (Nat.le_of_ble_eq_true rfl) (zR_ok (by omega) (by decide)) ⟨(Nat.le_of_ble_eq_true rfl), (Nat.le_of_ble_eq_true rfl)⟩ dX11_write_67 (fun H locs hW hS => ?_)
        refine W.eq (g2 := F0 m 70 ls [.int r34]) rfl ?_
        refine lv_pop hx hb dX11_write_70 rfl ?_
        refine lv_iinc (v := (x4 + (nI 1))) (lv' := [(4, .int ((x4 + (nI 1)))), (0, .ref (G.2.2.2 + o)), (1, .int a1), (2, .int a2)]) hx hb dX11_write_71 hl (k := 3) rfl rfl (by decide) rfl (fun ls hl => ?_)
        refine lv_goto (tgt := 53) hx hb dX11_write_74 (by decide) ?_
        exact ih53 st33 (x4 + (nI 1)) _ _ _ h hW hS (lv_sub hl [1, 2, 3, 0] rfl)
  have B20 : ∀ (st : zS) (H : Heap) (locs : List Loc) (ls : Array Slot), f_X11_write_20 N o a1 a2 st = some (st', r) → zWd G st H → va_S (zA G) s.heap H locs → lv_has ls 5 [(0, .ref (G.2.2.2 + o)), (1, .int a1), (2, .int a2)] → W p l e (zRm 3 0 0) s m args below meth c H locs 0 0 (MQ below (zQ G (some (.int r)) st') args s 0 0 (zA G)) (F0 m 20 ls []) := by
    intro st H locs ls h hW hS hl
    unfold f_X11_write_20 at h
    refine lv_iload_n hx hb dX11_write_20 rfl (lv_at hl 2 rfl) ?_
    obtain ⟨r8, c7, h⟩ := zd_at h
    refine z_cS hx hb hq hml hown hK hW hS [.int a2] [] (c_X11_isLength l G st a2 c7) (zi zm475) (zi zm476) (zi zm2) (zi zm477) cal_X11_isLength rfl hl.1 rfl (Nat.le_of_ble_eq_true rfl) (zR_ok (by omega) (by decide)) ⟨(Nat.le_of_ble_eq_true rfl), (Nat.le_of_ble_eq_true rfl)⟩ dX11_write_21 (fun H locs hW hS => ?_)
    refine W.eq (g2 := F0 m 24 ls [.int r8]) rfl ?_
    refine z_brn (lv_if_ne (tgt := 30) hx hb dX11_write_24 (by decide)) h (fun h => ?_) (fun h => ?_)
    · refine lv_aload_n hx hb dX11_write_30 rfl (lv_at hl 0 rfl) ?_
      obtain ⟨t9, h⟩ := zc_at h
      obtain ⟨b10, hb10, h⟩ := zd_at h
      refine z_gR hx hb hq hown hK hW fs_RX11_12 t9 hb10 dX11_write_31 ?_
      obtain ⟨t11, h⟩ := zc_at h
      obtain ⟨b12, hb12, h⟩ := zd_at h
      refine z_gR hx hb hq hown hK hW fs_RX11_89 t11 hb12 dX11_write_34 ?_
      obtain ⟨t13, h⟩ := zc_at h
      obtain ⟨r15, c14, h⟩ := zd_at h
      refine z_cV hx hb hq hml hown hK hW hS 5 [] [] rfl (List.mem_singleton.mp t13) (c_X5_size l G st b12 c14) (zi zm82) (zi zm83) (zi zm84) (zi zm32) (zi zm85) cal_X5_size rfl rfl hl.1 rfl (Nat.le_of_ble_eq_true rfl) (zR_ok (by omega) (by decide)) ⟨(Nat.le_of_ble_eq_true rfl), (Nat.le_of_ble_eq_true rfl)⟩ dX11_write_37 (fun H locs hW hS => ?_)
      refine W.eq (g2 := F0 m 40 ls [.int r15]) rfl ?_
      refine lv_iload_n hx hb dX11_write_40 rfl (lv_at hl 2 rfl) ?_
      refine lv_iadd hx hb dX11_write_41 ?_
      refine lv_bipush (v := (nI 40)) hx hb dX11_write_42 (by decide) ?_
      refine z_br (lv_icmp_le (tgt := 50) hx hb dX11_write_44 (by decide)) h (fun h => ?_) (fun h => ?_)
      · refine lv_iconst (v := (nI 0)) hx hb dX11_write_50 (by decide) ?_
        refine lv_istore (lv' := [(4, .int ((nI 0))), (0, .ref (G.2.2.2 + o)), (1, .int a1), (2, .int a2)]) hx hb dX11_write_51 hl (by decide) rfl (fun ls hl => ?_)
        exact B53 N st (nI 0) _ _ _ h hW hS (lv_sub hl [1, 2, 3, 0] rfl)
      · refine lv_bipush (v := (-4)) hx hb dX11_write_47 (by decide) ?_
        obtain ⟨rfl, rfl⟩ := Prod.mk.inj (Option.some.inj h)
        exact z_ri hx hb hr hlk hW hS (Nat.le_of_ble_eq_true rfl) (Nat.le_of_ble_eq_true rfl) dX11_write_49
    · refine lv_bipush (v := (-2)) hx hb dX11_write_27 (by decide) ?_
      obtain ⟨rfl, rfl⟩ := Prod.mk.inj (Option.some.inj h)
      exact z_ri hx hb hr hlk hW hS (Nat.le_of_ble_eq_true rfl) (Nat.le_of_ble_eq_true rfl) dX11_write_29
  refine lv_aload_n hx hb dX11_write_0 rfl (lv_at hl 0 rfl) ?_
  obtain ⟨t1, h⟩ := zc_at h
  obtain ⟨b2, hb2, h⟩ := zd_at h
  refine z_gR hx hb hq hown hK hW fs_RX11_12 t1 hb2 dX11_write_1 ?_
  refine lv_iload_n hx hb dX11_write_4 rfl (lv_at hl 1 rfl) ?_
  obtain ⟨t3, h⟩ := zc_at h
  obtain ⟨r5, c4, h⟩ := zd_at h
  refine z_cV hx hb hq hml hown hK hW hS 2 [.int a1] [] rfl (List.mem_singleton.mp t3) (c_X2_wayOf l G st b2 a1 c4) (zi zm417) (zi zm418) (zi zm419) (zi zm14) (zi zm420) cal_X2_wayOf rfl rfl hl.1 rfl (Nat.le_of_ble_eq_true rfl) (zR_ok (by omega) (by decide)) ⟨(Nat.le_of_ble_eq_true rfl), (Nat.le_of_ble_eq_true rfl)⟩ dX11_write_5 (fun H locs hW hS => ?_)
  rcases r5 with _ | q6
  · refine W.eq (g2 := F0 m 8 ls [.null]) rfl ?_
    refine lv_astore_nN (lv' := [(3, .null), (0, .ref (G.2.2.2 + o)), (1, .int a1), (2, .int a2)]) hx hb dX11_write_8 rfl hl (by decide) rfl (fun ls hl => ?_)
    refine lv_aload_nN hx hb dX11_write_9 rfl (lv_at hl 0 rfl) ?_
    refine lv_ifnonnullN hx hb dX11_write_10 ?_
    refine lv_iload_n hx hb dX11_write_13 rfl (lv_at hl 2 rfl) ?_
    refine lv_iconst (v := (-1)) hx hb dX11_write_14 (by decide) ?_
    refine z_br (lv_icmp_eq (tgt := 20) hx hb dX11_write_15 (by decide)) h (fun h => ?_) (fun h => ?_)
    · exact B20 st _ _ _ h hW hS (lv_sub hl [1, 2, 3] rfl)
    · refine lv_iconst (v := (-1)) hx hb dX11_write_18 (by decide) ?_
      obtain ⟨rfl, rfl⟩ := Prod.mk.inj (Option.some.inj h)
      exact z_ri hx hb hr hlk hW hS (Nat.le_of_ble_eq_true rfl) (Nat.le_of_ble_eq_true rfl) dX11_write_19
  · refine W.eq (g2 := F0 m 8 ls [.ref (G.2.2.2 + q6)]) rfl ?_
    refine lv_astore_n (lv' := [(3, .ref (G.2.2.2 + q6)), (0, .ref (G.2.2.2 + o)), (1, .int a1), (2, .int a2)]) hx hb dX11_write_8 rfl hl (by decide) rfl (fun ls hl => ?_)
    refine lv_aload_n hx hb dX11_write_9 rfl (lv_at hl 0 rfl) ?_
    refine lv_ifnonnull (tgt := 20) hx hb dX11_write_10 (by decide) ?_
    exact B20 st _ _ _ h hW hS (lv_sub hl [1, 2, 3] rfl)
def f_X11_tear (st : zS) (o : Nat) : Option (zS × Int32) := (if zTg st o ∈ [21] then (Option.bind (zR st o 0) (fun b2 => (if zTg st b2 ∈ [12] then (Option.bind (zR st b2 5) (fun b4 => (if zTg st b4 ∈ [15] then (Option.bind (f_X5_size st b4) (fun r7 => (Option.bind (f_X5_clear st b4) (fun st9 => (if zTg st9 o ∈ [21] then (Option.bind (zR st9 o 0) (fun b11 => (if zTg st9 b11 ∈ [12] then (Option.bind (zR st9 b11 9) (fun b13 => (if zTg st9 b13 ∈ [15] then (Option.bind (f_X5_clear st9 b13) (fun st16 => (if zTg st16 o ∈ [21] then (Option.bind (zR st16 o 0) (fun b18 => (if zTg st16 b18 ∈ [12] then (some ((zPM (zPM st16 b18 6 (nI 0)) b18 7 (nI 0)), r7)) else none))) else none))) else none))) else none))) else none))))) else none))) else none))) else none)
set_option maxHeartbeats 1000000 in
set_option maxRecDepth 100000 in
theorem c_X11_tear (l : Launch) (G : zG) (st : zS) (o : Nat) {st' : zS} {r : Int32} (h : f_X11_tear st o = some (st', r)) : zMet l G yX11_tear cX11_tear 2 (some .int) 1 0 0 [.ref (G.2.2.2 + o)] st (some (.int r)) st' := by
  refine zMet_of (by decide +kernel) ?_
  intro p e s m args below meth c X
  obtain ⟨hx, hb, hr, hml, hown, hq, hlk, hK, -, hin, hW, hS⟩ := X
  have hown : s.vm.findClass RX11 = some m.cls := hown
  refine z_ent (by exact Nat.le_of_ble_eq_true rfl) (fun ls hl => ?_)
  have hl : lv_has ls 2 [(0, .ref (G.2.2.2 + o))] := hl
  unfold f_X11_tear at h
  refine lv_aload_n hx hb dX11_tear_0 rfl (lv_at hl 0 rfl) ?_
  obtain ⟨t1, h⟩ := zc_at h
  obtain ⟨b2, hb2, h⟩ := zd_at h
  refine z_gR hx hb hq hown hK hW fs_RX11_12 t1 hb2 dX11_tear_1 ?_
  obtain ⟨t3, h⟩ := zc_at h
  obtain ⟨b4, hb4, h⟩ := zd_at h
  refine z_gR hx hb hq hown hK hW fs_RX11_89 t3 hb4 dX11_tear_4 ?_
  obtain ⟨t5, h⟩ := zc_at h
  obtain ⟨r7, c6, h⟩ := zd_at h
  refine z_cV hx hb hq hml hown hK hW hS 5 [] [] rfl (List.mem_singleton.mp t5) (c_X5_size l G st b4 c6) (zi zm82) (zi zm83) (zi zm84) (zi zm32) (zi zm85) cal_X5_size rfl rfl hl.1 rfl (Nat.le_of_ble_eq_true rfl) (zR_ok (by omega) (by decide)) ⟨(Nat.le_of_ble_eq_true rfl), (Nat.le_of_ble_eq_true rfl)⟩ dX11_tear_7 (fun H locs hW hS => ?_)
  refine W.eq (g2 := F0 m 10 ls [.int r7]) rfl ?_
  refine lv_istore_n (lv' := [(1, .int r7), (0, .ref (G.2.2.2 + o))]) hx hb dX11_tear_10 rfl hl (by decide) rfl (fun ls hl => ?_)
  refine lv_aload_n hx hb dX11_tear_11 rfl (lv_at hl 1 rfl) ?_
  refine z_gR hx hb hq hown hK hW fs_RX11_12 t1 hb2 dX11_tear_12 ?_
  refine z_gR hx hb hq hown hK hW fs_RX11_89 t3 hb4 dX11_tear_15 ?_
  obtain ⟨st9, c8, h⟩ := zd_at h
  refine z_cV hx hb hq hml hown hK hW hS 5 [] [] rfl (List.mem_singleton.mp t5) (c_X5_clear l G st b4 c8) (zi zm273) (zi zm274) (zi zm275) (zi zm32) (zi zm276) cal_X5_clear rfl rfl hl.1 rfl (Nat.le_of_ble_eq_true rfl) (zR_ok (by omega) (by decide)) ⟨(Nat.le_of_ble_eq_true rfl), (Nat.le_of_ble_eq_true rfl)⟩ dX11_tear_18 (fun H locs hW hS => ?_)
  refine W.eq (g2 := F0 m 21 ls []) rfl ?_
  refine lv_aload_n hx hb dX11_tear_21 rfl (lv_at hl 1 rfl) ?_
  obtain ⟨t10, h⟩ := zc_at h
  obtain ⟨b11, hb11, h⟩ := zd_at h
  refine z_gR hx hb hq hown hK hW fs_RX11_12 t10 hb11 dX11_tear_22 ?_
  obtain ⟨t12, h⟩ := zc_at h
  obtain ⟨b13, hb13, h⟩ := zd_at h
  refine z_gR hx hb hq hown hK hW fs_RX11_125 t12 hb13 dX11_tear_25 ?_
  obtain ⟨t14, h⟩ := zc_at h
  obtain ⟨st16, c15, h⟩ := zd_at h
  refine z_cV hx hb hq hml hown hK hW hS 5 [] [] rfl (List.mem_singleton.mp t14) (c_X5_clear l G st9 b13 c15) (zi zm273) (zi zm274) (zi zm275) (zi zm32) (zi zm276) cal_X5_clear rfl rfl hl.1 rfl (Nat.le_of_ble_eq_true rfl) (zR_ok (by omega) (by decide)) ⟨(Nat.le_of_ble_eq_true rfl), (Nat.le_of_ble_eq_true rfl)⟩ dX11_tear_28 (fun H locs hW hS => ?_)
  refine W.eq (g2 := F0 m 31 ls []) rfl ?_
  refine lv_aload_n hx hb dX11_tear_31 rfl (lv_at hl 1 rfl) ?_
  obtain ⟨t17, h⟩ := zc_at h
  obtain ⟨b18, hb18, h⟩ := zd_at h
  refine z_gR hx hb hq hown hK hW fs_RX11_12 t17 hb18 dX11_tear_32 ?_
  refine lv_iconst (v := (nI 0)) hx hb dX11_tear_35 (by decide) ?_
  obtain ⟨t19, h⟩ := zc_at h
  refine z_pI hx hb hq hown hK hW hS fp_RX11_112 t19 (fun h => by cases h) rfl rfl dX11_tear_36 (fun H locs hW hS => ?_)
  refine lv_aload_n hx hb dX11_tear_39 rfl (lv_at hl 1 rfl) ?_
  refine z_gR hx hb hq hown hK hW fs_RX11_12 t17 hb18 dX11_tear_40 ?_
  refine lv_iconst (v := (nI 0)) hx hb dX11_tear_43 (by decide) ?_
  refine z_pI hx hb hq hown hK hW hS fp_RX11_119 t19 (fun h => by cases h) rfl rfl dX11_tear_44 (fun H locs hW hS => ?_)
  refine lv_iload_n hx hb dX11_tear_47 rfl (lv_at hl 0 rfl) ?_
  obtain ⟨rfl, rfl⟩ := Prod.mk.inj (Option.some.inj h)
  exact z_ri hx hb hr hlk hW hS (Nat.le_of_ble_eq_true rfl) (Nat.le_of_ble_eq_true rfl) dX11_tear_48
def f_X11_isPart (a0 : Int32) : Option Int32 := (if a0 = 0 then (some (nI 1)) else (if a0 = (nI 1) then (some (nI 1)) else (some (nI 0))))
set_option maxHeartbeats 1000000 in
set_option maxRecDepth 100000 in
theorem c_X11_isPart (l : Launch) (G : zG) (st : zS) (a0 : Int32) {r : Int32} (h : f_X11_isPart a0 = some r) : zMet l G yX11_isPart cX11_isPart 1 (some .boolean) 0 0 0 [.int a0] st (some (.int r)) st := by
  refine zMet_of (by decide +kernel) ?_
  intro p e s m args below meth c X
  obtain ⟨hx, hb, hr, hml, hown, hq, hlk, hK, -, hin, hW, hS⟩ := X
  have hown : s.vm.findClass RX11 = some m.cls := hown
  refine z_ent (by exact Nat.le_of_ble_eq_true rfl) (fun ls hl => ?_)
  have hl : lv_has ls 1 [(0, .int a0)] := hl
  unfold f_X11_isPart at h
  refine lv_iload_n hx hb dX11_isPart_0 rfl (lv_at hl 0 rfl) ?_
  refine z_br (lv_if_eq (tgt := 9) hx hb dX11_isPart_1 (by decide)) h (fun h => ?_) (fun h => ?_)
  · refine lv_iconst (v := (nI 1)) hx hb dX11_isPart_9 (by decide) ?_
    refine lv_goto (tgt := 14) hx hb dX11_isPart_10 (by decide) ?_
    obtain rfl := Option.some.inj h
    exact z_rz hx hb hr hlk rfl hW hS (Nat.le_of_ble_eq_true rfl) (Nat.le_of_ble_eq_true rfl) dX11_isPart_14
  · refine lv_iload_n hx hb dX11_isPart_4 rfl (lv_at hl 0 rfl) ?_
    refine lv_iconst (v := (nI 1)) hx hb dX11_isPart_5 (by decide) ?_
    refine z_brn (lv_icmp_ne (tgt := 13) hx hb dX11_isPart_6 (by decide)) h (fun h => ?_) (fun h => ?_)
    · refine lv_iconst (v := (nI 0)) hx hb dX11_isPart_13 (by decide) ?_
      obtain rfl := Option.some.inj h
      exact z_rz hx hb hr hlk rfl hW hS (Nat.le_of_ble_eq_true rfl) (Nat.le_of_ble_eq_true rfl) dX11_isPart_14
    · refine lv_iconst (v := (nI 1)) hx hb dX11_isPart_9 (by decide) ?_
      refine lv_goto (tgt := 14) hx hb dX11_isPart_10 (by decide) ?_
      obtain rfl := Option.some.inj h
      exact z_rz hx hb hr hlk rfl hW hS (Nat.le_of_ble_eq_true rfl) (Nat.le_of_ble_eq_true rfl) dX11_isPart_14
def f_X11_line (N : Nat) (st : zS) (o : Nat) (a1 : Int32) (a2 : Int32) : Option Int32 := (if zTg st o ∈ [21] then (Option.bind (zR st o 0) (fun b2 => (if zTg st b2 ∈ [12] then (Option.bind (zR st b2 5) (fun b4 => (if zTg st b4 ∈ [15] then (Option.bind (f_X5_hasPlace st b4 a1) (fun r7 => (if r7 = 0 then (some (-1 : Int32)) else (Option.bind (f_X11_isPart a2) (fun r9 => (if r9 = 0 then (some (-1 : Int32)) else (if a2 = (nI 1) then (Option.bind (f_X2_signAt N st b2 a1) (fun r13 => (some r13))) else (Option.bind (f_X5_get st b4 a1) (fun r11 => (if r11 = (-1 : Int32) then (some (-5 : Int32)) else (some r11))))))))))) else none))) else none))) else none)
set_option maxHeartbeats 1000000 in
set_option maxRecDepth 100000 in
theorem c_X11_line (l : Launch) (G : zG) (N : Nat) (st : zS) (o : Nat) (a1 : Int32) (a2 : Int32) {r : Int32} (h : f_X11_line N st o a1 a2 = some r) : zMet l G yX11_line cX11_line 4 (some .int) 5 0 0 [.ref (G.2.2.2 + o), .int a1, .int a2] st (some (.int r)) st := by
  refine zMet_of (by decide +kernel) ?_
  intro p e s m args below meth c X
  obtain ⟨hx, hb, hr, hml, hown, hq, hlk, hK, -, hin, hW, hS⟩ := X
  have hown : s.vm.findClass RX11 = some m.cls := hown
  refine z_ent (by exact Nat.le_of_ble_eq_true rfl) (fun ls hl => ?_)
  have hl : lv_has ls 4 [(0, .ref (G.2.2.2 + o)), (1, .int a1), (2, .int a2)] := hl
  unfold f_X11_line at h
  refine lv_aload_n hx hb dX11_line_0 rfl (lv_at hl 0 rfl) ?_
  obtain ⟨t1, h⟩ := zc_at h
  obtain ⟨b2, hb2, h⟩ := zd_at h
  refine z_gR hx hb hq hown hK hW fs_RX11_12 t1 hb2 dX11_line_1 ?_
  obtain ⟨t3, h⟩ := zc_at h
  obtain ⟨b4, hb4, h⟩ := zd_at h
  refine z_gR hx hb hq hown hK hW fs_RX11_89 t3 hb4 dX11_line_4 ?_
  refine lv_iload_n hx hb dX11_line_7 rfl (lv_at hl 1 rfl) ?_
  obtain ⟨t5, h⟩ := zc_at h
  obtain ⟨r7, c6, h⟩ := zd_at h
  refine z_cV hx hb hq hml hown hK hW hS 5 [.int a1] [] rfl (List.mem_singleton.mp t5) (c_X5_hasPlace l G st b4 a1 c6) (zi zm585) (zi zm586) (zi zm587) (zi zm32) (zi zm588) cal_X5_hasPlace rfl rfl hl.1 rfl (Nat.le_of_ble_eq_true rfl) (zR_ok (by omega) (by decide)) ⟨(Nat.le_of_ble_eq_true rfl), (Nat.le_of_ble_eq_true rfl)⟩ dX11_line_8 (fun H locs hW hS => ?_)
  refine W.eq (g2 := F0 m 11 ls [.int r7]) rfl ?_
  refine z_br (lv_if_eq (tgt := 21) hx hb dX11_line_11 (by decide)) h (fun h => ?_) (fun h => ?_)
  · refine lv_iconst (v := (-1)) hx hb dX11_line_21 (by decide) ?_
    obtain rfl := Option.some.inj h
    exact z_ri hx hb hr hlk hW hS (Nat.le_of_ble_eq_true rfl) (Nat.le_of_ble_eq_true rfl) dX11_line_22
  · refine lv_iload_n hx hb dX11_line_14 rfl (lv_at hl 2 rfl) ?_
    obtain ⟨r9, c8, h⟩ := zd_at h
    refine z_cS hx hb hq hml hown hK hW hS [.int a2] [] (c_X11_isPart l G st a2 c8) (zi zm589) (zi zm590) (zi zm2) (zi zm591) cal_X11_isPart rfl hl.1 rfl (Nat.le_of_ble_eq_true rfl) (zR_ok (by omega) (by decide)) ⟨(Nat.le_of_ble_eq_true rfl), (Nat.le_of_ble_eq_true rfl)⟩ dX11_line_15 (fun H locs hW hS => ?_)
    refine W.eq (g2 := F0 m 18 ls [.int r9]) rfl ?_
    refine z_brn (lv_if_ne (tgt := 23) hx hb dX11_line_18 (by decide)) h (fun h => ?_) (fun h => ?_)
    · refine lv_iload_n hx hb dX11_line_23 rfl (lv_at hl 2 rfl) ?_
      refine lv_iconst (v := (nI 1)) hx hb dX11_line_24 (by decide) ?_
      refine z_brn (lv_icmp_ne (tgt := 37) hx hb dX11_line_25 (by decide)) h (fun h => ?_) (fun h => ?_)
      · refine lv_aload_n hx hb dX11_line_37 rfl (lv_at hl 0 rfl) ?_
        refine z_gR hx hb hq hown hK hW fs_RX11_12 t1 hb2 dX11_line_38 ?_
        refine z_gR hx hb hq hown hK hW fs_RX11_89 t3 hb4 dX11_line_41 ?_
        refine lv_iload_n hx hb dX11_line_44 rfl (lv_at hl 1 rfl) ?_
        obtain ⟨r11, c10, h⟩ := zd_at h
        refine z_cV hx hb hq hml hown hK hW hS 5 [.int a1] [] rfl (List.mem_singleton.mp t5) (c_X5_get l G st b4 a1 c10) (zi zm619) (zi zm109) (zi zm110) (zi zm32) (zi zm111) cal_X5_get rfl rfl hl.1 rfl (Nat.le_of_ble_eq_true rfl) (zR_ok (by omega) (by decide)) ⟨(Nat.le_of_ble_eq_true rfl), (Nat.le_of_ble_eq_true rfl)⟩ dX11_line_45 (fun H locs hW hS => ?_)
        refine W.eq (g2 := F0 m 48 ls [.int r11]) rfl ?_
        refine lv_istore_n (lv' := [(3, .int r11), (0, .ref (G.2.2.2 + o)), (1, .int a1), (2, .int a2)]) hx hb dX11_line_48 rfl hl (by decide) rfl (fun ls hl => ?_)
        refine lv_iload_n hx hb dX11_line_49 rfl (lv_at hl 0 rfl) ?_
        refine lv_iconst (v := (-1)) hx hb dX11_line_50 (by decide) ?_
        refine z_brn (lv_icmp_ne (tgt := 59) hx hb dX11_line_51 (by decide)) h (fun h => ?_) (fun h => ?_)
        · refine lv_iload_n hx hb dX11_line_59 rfl (lv_at hl 0 rfl) ?_
          obtain rfl := Option.some.inj h
          exact z_ri hx hb hr hlk hW hS (Nat.le_of_ble_eq_true rfl) (Nat.le_of_ble_eq_true rfl) dX11_line_60
        · refine lv_bipush (v := (-5)) hx hb dX11_line_54 (by decide) ?_
          refine lv_goto (tgt := 60) hx hb dX11_line_56 (by decide) ?_
          obtain rfl := Option.some.inj h
          exact z_ri hx hb hr hlk hW hS (Nat.le_of_ble_eq_true rfl) (Nat.le_of_ble_eq_true rfl) dX11_line_60
      · refine lv_aload_n hx hb dX11_line_28 rfl (lv_at hl 0 rfl) ?_
        refine z_gR hx hb hq hown hK hW fs_RX11_12 t1 hb2 dX11_line_29 ?_
        refine lv_iload_n hx hb dX11_line_32 rfl (lv_at hl 1 rfl) ?_
        obtain ⟨r13, c12, h⟩ := zd_at h
        refine z_cV hx hb hq hml hown hK hW hS 2 [.int a1] [] rfl (List.mem_singleton.mp t3) (c_X2_signAt l G N st b2 a1 c12) (zi zm592) (zi zm593) (zi zm594) (zi zm14) (zi zm595) cal_X2_signAt rfl rfl hl.1 rfl (Nat.le_of_ble_eq_true rfl) (zR_ok (by omega) (by decide)) ⟨(Nat.le_of_ble_eq_true rfl), (Nat.le_of_ble_eq_true rfl)⟩ dX11_line_33 (fun H locs hW hS => ?_)
        refine W.eq (g2 := F0 m 36 ls [.int r13]) rfl ?_
        obtain rfl := Option.some.inj h
        exact z_ri hx hb hr hlk hW hS (Nat.le_of_ble_eq_true rfl) (Nat.le_of_ble_eq_true rfl) dX11_line_36
    · refine lv_iconst (v := (-1)) hx hb dX11_line_21 (by decide) ?_
      obtain rfl := Option.some.inj h
      exact z_ri hx hb hr hlk hW hS (Nat.le_of_ble_eq_true rfl) (Nat.le_of_ble_eq_true rfl) dX11_line_22
def f_X11_told (N : Nat) (st : zS) (o : Nat) (a1 : Int32) : Option Int32 := (if a1 = (nI 0) then (if zTg st o ∈ [21] then (Option.bind (zR st o 0) (fun b3 => (if zTg st b3 ∈ [12] then (Option.bind (zR st b3 5) (fun b5 => (if zTg st b5 ∈ [15] then (Option.bind (f_X5_size st b5) (fun r8 => (some r8))) else none))) else none))) else none) else (if a1 = (nI 1) then (if zTg st o ∈ [21] then (Option.bind (zR st o 0) (fun b11 => (if zTg st b11 ∈ [12] then (some (zM st b11 6)) else none))) else none) else (if a1 = (nI 2) then (if zTg st o ∈ [21] then (Option.bind (zR st o 0) (fun b15 => (if zTg st b15 ∈ [12] then (some (zM st b15 7)) else none))) else none) else (if a1 = (nI 3) then (if zTg st o ∈ [21] then (Option.bind (zR st o 0) (fun b19 => (if zTg st b19 ∈ [12] then (Option.bind (zR st b19 2) (fun b21 => (if zTg st b21 ∈ [16] then (some (zM st b21 0)) else none))) else none))) else none) else (if a1 = (nI 4) then (if zTg st o ∈ [21] then (Option.bind (zR st o 0) (fun b25 => (if zTg st b25 ∈ [12] then (Option.bind (zR st b25 2) (fun b27 => (if zTg st b27 ∈ [16] then (some (zM st b27 1)) else none))) else none))) else none) else (if a1 = (nI 5) then (if zTg st o ∈ [21] then (Option.bind (zR st o 0) (fun b31 => (if zTg st b31 ∈ [12] then (Option.bind (zR st b31 2) (fun b33 => (if zTg st b33 ∈ [16] then (some (zM st b33 2)) else none))) else none))) else none) else (if a1 = (nI 6) then (if zTg st o ∈ [21] then (Option.bind (zR st o 0) (fun b37 => (if zTg st b37 ∈ [12] then (Option.bind (zR st b37 5) (fun b39 => (if zTg st b39 ∈ [15] then (Option.bind (f_X5_timesOf N st b39 (-1 : Int32)) (fun r42 => (some r42))) else none))) else none))) else none) else (if a1 < (nI 10) then (some (-1 : Int32)) else (if zTg st o ∈ [21] then (Option.bind (zR st o 0) (fun b44 => (if zTg st b44 ∈ [12] then (Option.bind (f_X2_placeCount st b44) (fun r47 => (if (a1 - (nI 10)) < r47 then (Option.bind (f_X2_placeAt st b44 (a1 - (nI 10))) (fun r49 => (some r49))) else (some (-1 : Int32))))) else none))) else none)))))))))
set_option maxHeartbeats 1000000 in
set_option maxRecDepth 100000 in
theorem c_X11_told (l : Launch) (G : zG) (N : Nat) (st : zS) (o : Nat) (a1 : Int32) {r : Int32} (h : f_X11_told N st o a1 = some r) : zMet l G yX11_told cX11_told 2 (some .int) 2 0 0 [.ref (G.2.2.2 + o), .int a1] st (some (.int r)) st := by
  refine zMet_of (by decide +kernel) ?_
  intro p e s m args below meth c X
  obtain ⟨hx, hb, hr, hml, hown, hq, hlk, hK, -, hin, hW, hS⟩ := X
  have hown : s.vm.findClass RX11 = some m.cls := hown
  refine z_ent (by exact Nat.le_of_ble_eq_true rfl) (fun ls hl => ?_)
  have hl : lv_has ls 2 [(0, .ref (G.2.2.2 + o)), (1, .int a1)] := hl
  unfold f_X11_told at h
  refine lv_iload_n hx hb dX11_told_0 rfl (lv_at hl 1 rfl) ?_
  rcases zi_at h with ⟨k1, h⟩ | ⟨k1, h⟩
  · refine lv_tableIn (off := 43) (tgt := 44) hx hb dX11_told_1 (by rw [k1]; decide) (by rw [k1]; decide) (by rw [k1]; rfl) (by decide) ?_
    refine lv_aload_n hx hb dX11_told_44 rfl (lv_at hl 0 rfl) ?_
    obtain ⟨t2, h⟩ := zc_at h
    obtain ⟨b3, hb3, h⟩ := zd_at h
    refine z_gR hx hb hq hown hK hW fs_RX11_12 t2 hb3 dX11_told_45 ?_
    obtain ⟨t4, h⟩ := zc_at h
    obtain ⟨b5, hb5, h⟩ := zd_at h
    refine z_gR hx hb hq hown hK hW fs_RX11_89 t4 hb5 dX11_told_48 ?_
    obtain ⟨t6, h⟩ := zc_at h
    obtain ⟨r8, c7, h⟩ := zd_at h
    refine z_cV hx hb hq hml hown hK hW hS 5 [] [] rfl (List.mem_singleton.mp t6) (c_X5_size l G st b5 c7) (zi zm82) (zi zm83) (zi zm84) (zi zm32) (zi zm85) cal_X5_size rfl rfl hl.1 rfl (Nat.le_of_ble_eq_true rfl) (zR_ok (by omega) (by decide)) ⟨(Nat.le_of_ble_eq_true rfl), (Nat.le_of_ble_eq_true rfl)⟩ dX11_told_51 (fun H locs hW hS => ?_)
    refine W.eq (g2 := F0 m 54 ls [.int r8]) rfl ?_
    obtain rfl := Option.some.inj h
    exact z_ri hx hb hr hlk hW hS (Nat.le_of_ble_eq_true rfl) (Nat.le_of_ble_eq_true rfl) dX11_told_54
  · rcases zi_at h with ⟨k9, h⟩ | ⟨k9, h⟩
    · refine lv_tableIn (off := 54) (tgt := 55) hx hb dX11_told_1 (by rw [k9]; decide) (by rw [k9]; decide) (by rw [k9]; rfl) (by decide) ?_
      refine lv_aload_n hx hb dX11_told_55 rfl (lv_at hl 0 rfl) ?_
      obtain ⟨t10, h⟩ := zc_at h
      obtain ⟨b11, hb11, h⟩ := zd_at h
      refine z_gR hx hb hq hown hK hW fs_RX11_12 t10 hb11 dX11_told_56 ?_
      obtain ⟨t12, h⟩ := zc_at h
      refine z_gI hx hb hq hown hK hW fs_RX11_112 t12 dX11_told_59 ?_
      obtain rfl := Option.some.inj h
      exact z_ri hx hb hr hlk hW hS (Nat.le_of_ble_eq_true rfl) (Nat.le_of_ble_eq_true rfl) dX11_told_62
    · rcases zi_at h with ⟨k13, h⟩ | ⟨k13, h⟩
      · refine lv_tableIn (off := 62) (tgt := 63) hx hb dX11_told_1 (by rw [k13]; decide) (by rw [k13]; decide) (by rw [k13]; rfl) (by decide) ?_
        refine lv_aload_n hx hb dX11_told_63 rfl (lv_at hl 0 rfl) ?_
        obtain ⟨t14, h⟩ := zc_at h
        obtain ⟨b15, hb15, h⟩ := zd_at h
        refine z_gR hx hb hq hown hK hW fs_RX11_12 t14 hb15 dX11_told_64 ?_
        obtain ⟨t16, h⟩ := zc_at h
        refine z_gI hx hb hq hown hK hW fs_RX11_119 t16 dX11_told_67 ?_
        obtain rfl := Option.some.inj h
        exact z_ri hx hb hr hlk hW hS (Nat.le_of_ble_eq_true rfl) (Nat.le_of_ble_eq_true rfl) dX11_told_70
      · rcases zi_at h with ⟨k17, h⟩ | ⟨k17, h⟩
        · refine lv_tableIn (off := 70) (tgt := 71) hx hb dX11_told_1 (by rw [k17]; decide) (by rw [k17]; decide) (by rw [k17]; rfl) (by decide) ?_
          refine lv_aload_n hx hb dX11_told_71 rfl (lv_at hl 0 rfl) ?_
          obtain ⟨t18, h⟩ := zc_at h
          obtain ⟨b19, hb19, h⟩ := zd_at h
          refine z_gR hx hb hq hown hK hW fs_RX11_12 t18 hb19 dX11_told_72 ?_
          obtain ⟨t20, h⟩ := zc_at h
          obtain ⟨b21, hb21, h⟩ := zd_at h
          refine z_gR hx hb hq hown hK hW fs_RX11_56 t20 hb21 dX11_told_75 ?_
          obtain ⟨t22, h⟩ := zc_at h
          refine z_gI hx hb hq hown hK hW fs_RX11_140 t22 dX11_told_78 ?_
          obtain rfl := Option.some.inj h
          exact z_ri hx hb hr hlk hW hS (Nat.le_of_ble_eq_true rfl) (Nat.le_of_ble_eq_true rfl) dX11_told_81
        · rcases zi_at h with ⟨k23, h⟩ | ⟨k23, h⟩
          · refine lv_tableIn (off := 81) (tgt := 82) hx hb dX11_told_1 (by rw [k23]; decide) (by rw [k23]; decide) (by rw [k23]; rfl) (by decide) ?_
            refine lv_aload_n hx hb dX11_told_82 rfl (lv_at hl 0 rfl) ?_
            obtain ⟨t24, h⟩ := zc_at h
            obtain ⟨b25, hb25, h⟩ := zd_at h
            refine z_gR hx hb hq hown hK hW fs_RX11_12 t24 hb25 dX11_told_83 ?_
            obtain ⟨t26, h⟩ := zc_at h
            obtain ⟨b27, hb27, h⟩ := zd_at h
            refine z_gR hx hb hq hown hK hW fs_RX11_56 t26 hb27 dX11_told_86 ?_
            obtain ⟨t28, h⟩ := zc_at h
            refine z_gI hx hb hq hown hK hW fs_RX11_143 t28 dX11_told_89 ?_
            obtain rfl := Option.some.inj h
            exact z_ri hx hb hr hlk hW hS (Nat.le_of_ble_eq_true rfl) (Nat.le_of_ble_eq_true rfl) dX11_told_92
          · rcases zi_at h with ⟨k29, h⟩ | ⟨k29, h⟩
            · refine lv_tableIn (off := 92) (tgt := 93) hx hb dX11_told_1 (by rw [k29]; decide) (by rw [k29]; decide) (by rw [k29]; rfl) (by decide) ?_
              refine lv_aload_n hx hb dX11_told_93 rfl (lv_at hl 0 rfl) ?_
              obtain ⟨t30, h⟩ := zc_at h
              obtain ⟨b31, hb31, h⟩ := zd_at h
              refine z_gR hx hb hq hown hK hW fs_RX11_12 t30 hb31 dX11_told_94 ?_
              obtain ⟨t32, h⟩ := zc_at h
              obtain ⟨b33, hb33, h⟩ := zd_at h
              refine z_gR hx hb hq hown hK hW fs_RX11_56 t32 hb33 dX11_told_97 ?_
              obtain ⟨t34, h⟩ := zc_at h
              refine z_gI hx hb hq hown hK hW fs_RX11_146 t34 dX11_told_100 ?_
              obtain rfl := Option.some.inj h
              exact z_ri hx hb hr hlk hW hS (Nat.le_of_ble_eq_true rfl) (Nat.le_of_ble_eq_true rfl) dX11_told_103
            · rcases zi_at h with ⟨k35, h⟩ | ⟨k35, h⟩
              · refine lv_tableIn (off := 103) (tgt := 104) hx hb dX11_told_1 (by rw [k35]; decide) (by rw [k35]; decide) (by rw [k35]; rfl) (by decide) ?_
                refine lv_aload_n hx hb dX11_told_104 rfl (lv_at hl 0 rfl) ?_
                obtain ⟨t36, h⟩ := zc_at h
                obtain ⟨b37, hb37, h⟩ := zd_at h
                refine z_gR hx hb hq hown hK hW fs_RX11_12 t36 hb37 dX11_told_105 ?_
                obtain ⟨t38, h⟩ := zc_at h
                obtain ⟨b39, hb39, h⟩ := zd_at h
                refine z_gR hx hb hq hown hK hW fs_RX11_89 t38 hb39 dX11_told_108 ?_
                refine lv_iconst (v := (-1)) hx hb dX11_told_111 (by decide) ?_
                obtain ⟨t40, h⟩ := zc_at h
                obtain ⟨r42, c41, h⟩ := zd_at h
                refine z_cV hx hb hq hml hown hK hW hS 5 [.int ((-1))] [] rfl (List.mem_singleton.mp t40) (c_X5_timesOf l G N st b39 (-1 : Int32) c41) (zi zm421) (zi zm422) (zi zm423) (zi zm32) (zi zm424) cal_X5_timesOf rfl rfl hl.1 rfl (Nat.le_of_ble_eq_true rfl) (zR_ok (by omega) (by decide)) ⟨(Nat.le_of_ble_eq_true rfl), (Nat.le_of_ble_eq_true rfl)⟩ dX11_told_112 (fun H locs hW hS => ?_)
                refine W.eq (g2 := F0 m 115 ls [.int r42]) rfl ?_
                obtain rfl := Option.some.inj h
                exact z_ri hx hb hr hlk hW hS (Nat.le_of_ble_eq_true rfl) (Nat.le_of_ble_eq_true rfl) dX11_told_115
              · refine lv_tableOut (tgt := 116) hx hb dX11_told_1 (by have q0 := lv_neT (a := 0) k1 (by decide); have q1 := lv_neT (a := 1) k9 (by decide); have q2 := lv_neT (a := 2) k13 (by decide); have q3 := lv_neT (a := 3) k17 (by decide); have q4 := lv_neT (a := 4) k23 (by decide); have q5 := lv_neT (a := 5) k29 (by decide); have q6 := lv_neT (a := 6) k35 (by decide); omega) (by decide) ?_
                refine lv_iload_n hx hb dX11_told_116 rfl (lv_at hl 1 rfl) ?_
                refine lv_bipush (v := (nI 10)) hx hb dX11_told_117 (by decide) ?_
                refine z_br (lv_icmp_lt (tgt := 136) hx hb dX11_told_119 (by decide)) h (fun h => ?_) (fun h => ?_)
                · refine lv_iconst (v := (-1)) hx hb dX11_told_136 (by decide) ?_
                  obtain rfl := Option.some.inj h
                  exact z_ri hx hb hr hlk hW hS (Nat.le_of_ble_eq_true rfl) (Nat.le_of_ble_eq_true rfl) dX11_told_137
                · refine lv_iload_n hx hb dX11_told_122 rfl (lv_at hl 1 rfl) ?_
                  refine lv_bipush (v := (nI 10)) hx hb dX11_told_123 (by decide) ?_
                  refine lv_isub hx hb dX11_told_125 ?_
                  refine lv_aload_n hx hb dX11_told_126 rfl (lv_at hl 0 rfl) ?_
                  obtain ⟨t43, h⟩ := zc_at h
                  obtain ⟨b44, hb44, h⟩ := zd_at h
                  refine z_gR hx hb hq hown hK hW fs_RX11_12 t43 hb44 dX11_told_127 ?_
                  obtain ⟨t45, h⟩ := zc_at h
                  obtain ⟨r47, c46, h⟩ := zd_at h
                  refine z_cV hx hb hq hml hown hK hW hS 2 [] [.int ((a1 - (nI 10)))] rfl (List.mem_singleton.mp t45) (c_X2_placeCount l G st b44 c46) (zi zm643) (zi zm644) (zi zm645) (zi zm14) (zi zm646) cal_X2_placeCount rfl rfl hl.1 rfl (Nat.le_of_ble_eq_true rfl) (zR_ok (by omega) (by decide)) ⟨(Nat.le_of_ble_eq_true rfl), (Nat.le_of_ble_eq_true rfl)⟩ dX11_told_130 (fun H locs hW hS => ?_)
                  refine W.eq (g2 := F0 m 133 ls [.int r47, .int ((a1 - (nI 10)))]) rfl ?_
                  refine z_br (lv_icmp_lt (tgt := 138) hx hb dX11_told_133 (by decide)) h (fun h => ?_) (fun h => ?_)
                  · refine lv_aload_n hx hb dX11_told_138 rfl (lv_at hl 0 rfl) ?_
                    refine z_gR hx hb hq hown hK hW fs_RX11_12 t43 hb44 dX11_told_139 ?_
                    refine lv_iload_n hx hb dX11_told_142 rfl (lv_at hl 1 rfl) ?_
                    refine lv_bipush (v := (nI 10)) hx hb dX11_told_143 (by decide) ?_
                    refine lv_isub hx hb dX11_told_145 ?_
                    obtain ⟨r49, c48, h⟩ := zd_at h
                    refine z_cV hx hb hq hml hown hK hW hS 2 [.int ((a1 - (nI 10)))] [] rfl (List.mem_singleton.mp t45) (c_X2_placeAt l G st b44 (a1 - (nI 10)) c48) (zi zm651) (zi zm652) (zi zm653) (zi zm14) (zi zm654) cal_X2_placeAt rfl rfl hl.1 rfl (Nat.le_of_ble_eq_true rfl) (zR_ok (by omega) (by decide)) ⟨(Nat.le_of_ble_eq_true rfl), (Nat.le_of_ble_eq_true rfl)⟩ dX11_told_146 (fun H locs hW hS => ?_)
                    refine W.eq (g2 := F0 m 149 ls [.int r49]) rfl ?_
                    obtain rfl := Option.some.inj h
                    exact z_ri hx hb hr hlk hW hS (Nat.le_of_ble_eq_true rfl) (Nat.le_of_ble_eq_true rfl) dX11_told_149
                  · refine lv_iconst (v := (-1)) hx hb dX11_told_136 (by decide) ?_
                    obtain rfl := Option.some.inj h
                    exact z_ri hx hb hr hlk hW hS (Nat.le_of_ble_eq_true rfl) (Nat.le_of_ble_eq_true rfl) dX11_told_137
def f_X11_cost (st : zS) (o : Nat) (a1 : Int32) (a2 : Int32) (a3 : Int32) : Option Int32 := (if zTg st o ∈ [21] then (Option.bind (zR st o 0) (fun b2 => (if zTg st b2 ∈ [12] then (Option.bind (f_X2_wayOf st b2 a1) (fun r5 => (zo r5 (some (-1 : Int32)) (fun q6 => (Option.bind (f_X11_isPart a3) (fun r8 => (if r8 = 0 then (some (-1 : Int32)) else (Option.bind (f_X11_isLength a2) (fun r10 => (if r10 = 0 then (some (-2 : Int32)) else (if a3 = 0 then (Option.bind (f_X2_secondsOf st b2 a1 a2) (fun r14 => (some r14))) else (Option.bind (f_X2_penceOf st b2 a1 a2) (fun r12 => (some r12)))))))))))))) else none))) else none)
set_option maxHeartbeats 1000000 in
set_option maxRecDepth 100000 in
theorem c_X11_cost (l : Launch) (G : zG) (st : zS) (o : Nat) (a1 : Int32) (a2 : Int32) (a3 : Int32) {r : Int32} (h : f_X11_cost st o a1 a2 a3 = some r) : zMet l G yX11_cost cX11_cost 4 (some .int) 3 0 0 [.ref (G.2.2.2 + o), .int a1, .int a2, .int a3] st (some (.int r)) st := by
  refine zMet_of (by decide +kernel) ?_
  intro p e s m args below meth c X
  obtain ⟨hx, hb, hr, hml, hown, hq, hlk, hK, -, hin, hW, hS⟩ := X
  have hown : s.vm.findClass RX11 = some m.cls := hown
  refine z_ent (by exact Nat.le_of_ble_eq_true rfl) (fun ls hl => ?_)
  have hl : lv_has ls 4 [(0, .ref (G.2.2.2 + o)), (1, .int a1), (2, .int a2), (3, .int a3)] := hl
  unfold f_X11_cost at h
  refine lv_aload_n hx hb dX11_cost_0 rfl (lv_at hl 0 rfl) ?_
  obtain ⟨t1, h⟩ := zc_at h
  obtain ⟨b2, hb2, h⟩ := zd_at h
  refine z_gR hx hb hq hown hK hW fs_RX11_12 t1 hb2 dX11_cost_1 ?_
  refine lv_iload_n hx hb dX11_cost_4 rfl (lv_at hl 1 rfl) ?_
  obtain ⟨t3, h⟩ := zc_at h
  obtain ⟨r5, c4, h⟩ := zd_at h
  refine z_cV hx hb hq hml hown hK hW hS 2 [.int a1] [] rfl (List.mem_singleton.mp t3) (c_X2_wayOf l G st b2 a1 c4) (zi zm417) (zi zm418) (zi zm419) (zi zm14) (zi zm420) cal_X2_wayOf rfl rfl hl.1 rfl (Nat.le_of_ble_eq_true rfl) (zR_ok (by omega) (by decide)) ⟨(Nat.le_of_ble_eq_true rfl), (Nat.le_of_ble_eq_true rfl)⟩ dX11_cost_5 (fun H locs hW hS => ?_)
  rcases r5 with _ | q6
  · refine W.eq (g2 := F0 m 8 ls [.null]) rfl ?_
    refine lv_ifnullN (tgt := 18) hx hb dX11_cost_8 (by decide) ?_
    refine lv_iconst (v := (-1)) hx hb dX11_cost_18 (by decide) ?_
    obtain rfl := Option.some.inj h
    exact z_ri hx hb hr hlk hW hS (Nat.le_of_ble_eq_true rfl) (Nat.le_of_ble_eq_true rfl) dX11_cost_19
  · refine W.eq (g2 := F0 m 8 ls [.ref (G.2.2.2 + q6)]) rfl ?_
    refine lv_ifnull hx hb dX11_cost_8 ?_
    refine lv_iload_n hx hb dX11_cost_11 rfl (lv_at hl 3 rfl) ?_
    obtain ⟨r8, c7, h⟩ := zd_at h
    refine z_cS hx hb hq hml hown hK hW hS [.int a3] [] (c_X11_isPart l G st a3 c7) (zi zm589) (zi zm590) (zi zm2) (zi zm591) cal_X11_isPart rfl hl.1 rfl (Nat.le_of_ble_eq_true rfl) (zR_ok (by omega) (by decide)) ⟨(Nat.le_of_ble_eq_true rfl), (Nat.le_of_ble_eq_true rfl)⟩ dX11_cost_12 (fun H locs hW hS => ?_)
    refine W.eq (g2 := F0 m 15 ls [.int r8]) rfl ?_
    refine z_brn (lv_if_ne (tgt := 20) hx hb dX11_cost_15 (by decide)) h (fun h => ?_) (fun h => ?_)
    · refine lv_iload_n hx hb dX11_cost_20 rfl (lv_at hl 2 rfl) ?_
      obtain ⟨r10, c9, h⟩ := zd_at h
      refine z_cS hx hb hq hml hown hK hW hS [.int a2] [] (c_X11_isLength l G st a2 c9) (zi zm475) (zi zm476) (zi zm2) (zi zm477) cal_X11_isLength rfl hl.1 rfl (Nat.le_of_ble_eq_true rfl) (zR_ok (by omega) (by decide)) ⟨(Nat.le_of_ble_eq_true rfl), (Nat.le_of_ble_eq_true rfl)⟩ dX11_cost_21 (fun H locs hW hS => ?_)
      refine W.eq (g2 := F0 m 24 ls [.int r10]) rfl ?_
      refine z_brn (lv_if_ne (tgt := 30) hx hb dX11_cost_24 (by decide)) h (fun h => ?_) (fun h => ?_)
      · refine lv_iload_n hx hb dX11_cost_30 rfl (lv_at hl 3 rfl) ?_
        refine z_brn (lv_if_ne (tgt := 46) hx hb dX11_cost_31 (by decide)) h (fun h => ?_) (fun h => ?_)
        · refine lv_aload_n hx hb dX11_cost_46 rfl (lv_at hl 0 rfl) ?_
          refine z_gR hx hb hq hown hK hW fs_RX11_12 t1 hb2 dX11_cost_47 ?_
          refine lv_iload_n hx hb dX11_cost_50 rfl (lv_at hl 1 rfl) ?_
          refine lv_iload_n hx hb dX11_cost_51 rfl (lv_at hl 2 rfl) ?_
          obtain ⟨r12, c11, h⟩ := zd_at h
          refine z_cV hx hb hq hml hown hK hW hS 2 [.int a1, .int a2] [] rfl (List.mem_singleton.mp t3) (c_X2_penceOf l G st b2 a1 a2 c11) (zi zm527) (zi zm528) (zi zm529) (zi zm14) (zi zm530) cal_X2_penceOf rfl rfl hl.1 rfl (Nat.le_of_ble_eq_true rfl) (zR_ok (by omega) (by decide)) ⟨(Nat.le_of_ble_eq_true rfl), (Nat.le_of_ble_eq_true rfl)⟩ dX11_cost_52 (fun H locs hW hS => ?_)
          refine W.eq (g2 := F0 m 55 ls [.int r12]) rfl ?_
          obtain rfl := Option.some.inj h
          exact z_ri hx hb hr hlk hW hS (Nat.le_of_ble_eq_true rfl) (Nat.le_of_ble_eq_true rfl) dX11_cost_55
        · refine lv_aload_n hx hb dX11_cost_34 rfl (lv_at hl 0 rfl) ?_
          refine z_gR hx hb hq hown hK hW fs_RX11_12 t1 hb2 dX11_cost_35 ?_
          refine lv_iload_n hx hb dX11_cost_38 rfl (lv_at hl 1 rfl) ?_
          refine lv_iload_n hx hb dX11_cost_39 rfl (lv_at hl 2 rfl) ?_
          obtain ⟨r14, c13, h⟩ := zd_at h
          refine z_cV hx hb hq hml hown hK hW hS 2 [.int a1, .int a2] [] rfl (List.mem_singleton.mp t3) (c_X2_secondsOf l G st b2 a1 a2 c13) (zi zm478) (zi zm479) (zi zm480) (zi zm14) (zi zm481) cal_X2_secondsOf rfl rfl hl.1 rfl (Nat.le_of_ble_eq_true rfl) (zR_ok (by omega) (by decide)) ⟨(Nat.le_of_ble_eq_true rfl), (Nat.le_of_ble_eq_true rfl)⟩ dX11_cost_40 (fun H locs hW hS => ?_)
          refine W.eq (g2 := F0 m 43 ls [.int r14]) rfl ?_
          refine lv_goto (tgt := 55) hx hb dX11_cost_43 (by decide) ?_
          obtain rfl := Option.some.inj h
          exact z_ri hx hb hr hlk hW hS (Nat.le_of_ble_eq_true rfl) (Nat.le_of_ble_eq_true rfl) dX11_cost_55
      · refine lv_bipush (v := (-2)) hx hb dX11_cost_27 (by decide) ?_
        obtain rfl := Option.some.inj h
        exact z_ri hx hb hr hlk hW hS (Nat.le_of_ble_eq_true rfl) (Nat.le_of_ble_eq_true rfl) dX11_cost_29
    · refine lv_iconst (v := (-1)) hx hb dX11_cost_18 (by decide) ?_
      obtain rfl := Option.some.inj h
      exact z_ri hx hb hr hlk hW hS (Nat.le_of_ble_eq_true rfl) (Nat.le_of_ble_eq_true rfl) dX11_cost_19
def f_X11_isPlace (a0 : Int32) : Option Int32 := (if a0 < 0 then (some (nI 0)) else (if (nI 40) ≤ a0 then (some (nI 0)) else (some (nI 1))))
set_option maxHeartbeats 1000000 in
set_option maxRecDepth 100000 in
theorem c_X11_isPlace (l : Launch) (G : zG) (st : zS) (a0 : Int32) {r : Int32} (h : f_X11_isPlace a0 = some r) : zMet l G yX11_isPlace cX11_isPlace 1 (some .boolean) 0 0 0 [.int a0] st (some (.int r)) st := by
  refine zMet_of (by decide +kernel) ?_
  intro p e s m args below meth c X
  obtain ⟨hx, hb, hr, hml, hown, hq, hlk, hK, -, hin, hW, hS⟩ := X
  have hown : s.vm.findClass RX11 = some m.cls := hown
  refine z_ent (by exact Nat.le_of_ble_eq_true rfl) (fun ls hl => ?_)
  have hl : lv_has ls 1 [(0, .int a0)] := hl
  unfold f_X11_isPlace at h
  refine lv_iload_n hx hb dX11_isPlace_0 rfl (lv_at hl 0 rfl) ?_
  refine z_br (lv_if_lt (tgt := 14) hx hb dX11_isPlace_1 (by decide)) h (fun h => ?_) (fun h => ?_)
  · refine lv_iconst (v := (nI 0)) hx hb dX11_isPlace_14 (by decide) ?_
    obtain rfl := Option.some.inj h
    exact z_rz hx hb hr hlk rfl hW hS (Nat.le_of_ble_eq_true rfl) (Nat.le_of_ble_eq_true rfl) dX11_isPlace_15
  · refine lv_iload_n hx hb dX11_isPlace_4 rfl (lv_at hl 0 rfl) ?_
    refine lv_bipush (v := (nI 40)) hx hb dX11_isPlace_5 (by decide) ?_
    refine z_br (lv_icmp_ge (tgt := 14) hx hb dX11_isPlace_7 (by decide)) h (fun h => ?_) (fun h => ?_)
    · refine lv_iconst (v := (nI 0)) hx hb dX11_isPlace_14 (by decide) ?_
      obtain rfl := Option.some.inj h
      exact z_rz hx hb hr hlk rfl hW hS (Nat.le_of_ble_eq_true rfl) (Nat.le_of_ble_eq_true rfl) dX11_isPlace_15
    · refine lv_iconst (v := (nI 1)) hx hb dX11_isPlace_10 (by decide) ?_
      refine lv_goto (tgt := 15) hx hb dX11_isPlace_11 (by decide) ?_
      obtain rfl := Option.some.inj h
      exact z_rz hx hb hr hlk rfl hW hS (Nat.le_of_ble_eq_true rfl) (Nat.le_of_ble_eq_true rfl) dX11_isPlace_15
def f_X11_looks (N : Nat) (st : zS) (o : Nat) (a1 : Int32) : Option (zS × Int32) := (if a1 = (-1 : Int32) then (if zTg st o ∈ [21] then (Option.bind (zR st o 0) (fun b21 => (if zTg st b21 ∈ [12] then (Option.bind (zR st b21 8) (fun b23 => (if zTg st b23 ∈ [15] then (Option.bind (f_X5_clear st b23) (fun st26 => (some (st26, (nI 0))))) else none))) else none))) else none) else (Option.bind (f_X11_isPlace a1) (fun r2 => (if r2 = 0 then (some (st, (-2 : Int32))) else (if zTg st o ∈ [21] then (Option.bind (zR st o 0) (fun b4 => (if zTg st b4 ∈ [12] then (Option.bind (zR st b4 8) (fun b6 => (if zTg st b6 ∈ [15] then (Option.bind (f_X5_timesOf N st b6 a1) (fun r9 => (if r9 ≤ 0 then (zb (f_X5_add st b6 a1) (fun st11 r12 => (if r12 = 0 then (some (st11, (-4 : Int32))) else (if zTg st11 o ∈ [21] then (Option.bind (zR st11 o 0) (fun b14 => (if zTg st11 b14 ∈ [12] then (Option.bind (zR st11 b14 8) (fun b16 => (if zTg st11 b16 ∈ [15] then (Option.bind (f_X5_size st11 b16) (fun r19 => (some (st11, r19)))) else none))) else none))) else none)))) else (some (st, (-2 : Int32)))))) else none))) else none))) else none)))))
set_option maxHeartbeats 1000000 in
set_option maxRecDepth 100000 in
theorem c_X11_looks (l : Launch) (G : zG) (N : Nat) (st : zS) (o : Nat) (a1 : Int32) {st' : zS} {r : Int32} (h : f_X11_looks N st o a1 = some (st', r)) : zMet l G yX11_looks cX11_looks 2 (some .int) 2 0 0 [.ref (G.2.2.2 + o), .int a1] st (some (.int r)) st' := by
  refine zMet_of (by decide +kernel) ?_
  intro p e s m args below meth c X
  obtain ⟨hx, hb, hr, hml, hown, hq, hlk, hK, -, hin, hW, hS⟩ := X
  have hown : s.vm.findClass RX11 = some m.cls := hown
  refine z_ent (by exact Nat.le_of_ble_eq_true rfl) (fun ls hl => ?_)
  have hl : lv_has ls 2 [(0, .ref (G.2.2.2 + o)), (1, .int a1)] := hl
  unfold f_X11_looks at h
  refine lv_iload_n hx hb dX11_looks_0 rfl (lv_at hl 1 rfl) ?_
  refine lv_iconst (v := (-1)) hx hb dX11_looks_1 (by decide) ?_
  refine z_brn (lv_icmp_ne (tgt := 17) hx hb dX11_looks_2 (by decide)) h (fun h => ?_) (fun h => ?_)
  · refine lv_iload_n hx hb dX11_looks_17 rfl (lv_at hl 1 rfl) ?_
    obtain ⟨r2, c1, h⟩ := zd_at h
    refine z_cS hx hb hq hml hown hK hW hS [.int a1] [] (c_X11_isPlace l G st a1 c1) (zi zm696) (zi zm697) (zi zm2) (zi zm698) cal_X11_isPlace rfl hl.1 rfl (Nat.le_of_ble_eq_true rfl) (zR_ok (by omega) (by decide)) ⟨(Nat.le_of_ble_eq_true rfl), (Nat.le_of_ble_eq_true rfl)⟩ dX11_looks_18 (fun H locs hW hS => ?_)
    refine W.eq (g2 := F0 m 21 ls [.int r2]) rfl ?_
    refine z_br (lv_if_eq (tgt := 38) hx hb dX11_looks_21 (by decide)) h (fun h => ?_) (fun h => ?_)
    · refine lv_bipush (v := (-2)) hx hb dX11_looks_38 (by decide) ?_
      obtain ⟨rfl, rfl⟩ := Prod.mk.inj (Option.some.inj h)
      exact z_ri hx hb hr hlk hW hS (Nat.le_of_ble_eq_true rfl) (Nat.le_of_ble_eq_true rfl) dX11_looks_40
    · refine lv_aload_n hx hb dX11_looks_24 rfl (lv_at hl 0 rfl) ?_
      obtain ⟨t3, h⟩ := zc_at h
      obtain ⟨b4, hb4, h⟩ := zd_at h
      refine z_gR hx hb hq hown hK hW fs_RX11_12 t3 hb4 dX11_looks_25 ?_
      obtain ⟨t5, h⟩ := zc_at h
      obtain ⟨b6, hb6, h⟩ := zd_at h
      refine z_gR hx hb hq hown hK hW fs_RX11_155 t5 hb6 dX11_looks_28 ?_
      refine lv_iload_n hx hb dX11_looks_31 rfl (lv_at hl 1 rfl) ?_
      obtain ⟨t7, h⟩ := zc_at h
      obtain ⟨r9, c8, h⟩ := zd_at h
      refine z_cV hx hb hq hml hown hK hW hS 5 [.int a1] [] rfl (List.mem_singleton.mp t7) (c_X5_timesOf l G N st b6 a1 c8) (zi zm421) (zi zm422) (zi zm423) (zi zm32) (zi zm424) cal_X5_timesOf rfl rfl hl.1 rfl (Nat.le_of_ble_eq_true rfl) (zR_ok (by omega) (by decide)) ⟨(Nat.le_of_ble_eq_true rfl), (Nat.le_of_ble_eq_true rfl)⟩ dX11_looks_32 (fun H locs hW hS => ?_)
      refine W.eq (g2 := F0 m 35 ls [.int r9]) rfl ?_
      refine z_br (lv_if_le (tgt := 41) hx hb dX11_looks_35 (by decide)) h (fun h => ?_) (fun h => ?_)
      · refine lv_aload_n hx hb dX11_looks_41 rfl (lv_at hl 0 rfl) ?_
        refine z_gR hx hb hq hown hK hW fs_RX11_12 t3 hb4 dX11_looks_42 ?_
        refine z_gR hx hb hq hown hK hW fs_RX11_155 t5 hb6 dX11_looks_45 ?_
        refine lv_iload_n hx hb dX11_looks_48 rfl (lv_at hl 1 rfl) ?_
        obtain ⟨st11, r12, c10, h⟩ := zb_at h
        refine z_cV hx hb hq hml hown hK hW hS 5 [.int a1] [] rfl (List.mem_singleton.mp t7) (c_X5_add l G st b6 a1 c10) (zi zm77) (zi zm78) (zi zm79) (zi zm32) (zi zm80) cal_X5_add rfl rfl hl.1 rfl (Nat.le_of_ble_eq_true rfl) (zR_ok (by omega) (by decide)) ⟨(Nat.le_of_ble_eq_true rfl), (Nat.le_of_ble_eq_true rfl)⟩ dX11_looks_49 (fun H locs hW hS => ?_)
        refine W.eq (g2 := F0 m 52 ls [.int r12]) rfl ?_
        refine z_br (lv_if_eq (tgt := 68) hx hb dX11_looks_52 (by decide)) h (fun h => ?_) (fun h => ?_)
        · refine lv_bipush (v := (-4)) hx hb dX11_looks_68 (by decide) ?_
          obtain ⟨rfl, rfl⟩ := Prod.mk.inj (Option.some.inj h)
          exact z_ri hx hb hr hlk hW hS (Nat.le_of_ble_eq_true rfl) (Nat.le_of_ble_eq_true rfl) dX11_looks_70
        · refine lv_aload_n hx hb dX11_looks_55 rfl (lv_at hl 0 rfl) ?_
          obtain ⟨t13, h⟩ := zc_at h
          obtain ⟨b14, hb14, h⟩ := zd_at h
          refine z_gR hx hb hq hown hK hW fs_RX11_12 t13 hb14 dX11_looks_56 ?_
          obtain ⟨t15, h⟩ := zc_at h
          obtain ⟨b16, hb16, h⟩ := zd_at h
          refine z_gR hx hb hq hown hK hW fs_RX11_155 t15 hb16 dX11_looks_59 ?_
          obtain ⟨t17, h⟩ := zc_at h
          obtain ⟨r19, c18, h⟩ := zd_at h
          refine z_cV hx hb hq hml hown hK hW hS 5 [] [] rfl (List.mem_singleton.mp t17) (c_X5_size l G st11 b16 c18) (zi zm82) (zi zm83) (zi zm84) (zi zm32) (zi zm85) cal_X5_size rfl rfl hl.1 rfl (Nat.le_of_ble_eq_true rfl) (zR_ok (by omega) (by decide)) ⟨(Nat.le_of_ble_eq_true rfl), (Nat.le_of_ble_eq_true rfl)⟩ dX11_looks_62 (fun H locs hW hS => ?_)
          refine W.eq (g2 := F0 m 65 ls [.int r19]) rfl ?_
          refine lv_goto (tgt := 70) hx hb dX11_looks_65 (by decide) ?_
          obtain ⟨rfl, rfl⟩ := Prod.mk.inj (Option.some.inj h)
          exact z_ri hx hb hr hlk hW hS (Nat.le_of_ble_eq_true rfl) (Nat.le_of_ble_eq_true rfl) dX11_looks_70
      · refine lv_bipush (v := (-2)) hx hb dX11_looks_38 (by decide) ?_
        obtain ⟨rfl, rfl⟩ := Prod.mk.inj (Option.some.inj h)
        exact z_ri hx hb hr hlk hW hS (Nat.le_of_ble_eq_true rfl) (Nat.le_of_ble_eq_true rfl) dX11_looks_40
  · refine lv_aload_n hx hb dX11_looks_5 rfl (lv_at hl 0 rfl) ?_
    obtain ⟨t20, h⟩ := zc_at h
    obtain ⟨b21, hb21, h⟩ := zd_at h
    refine z_gR hx hb hq hown hK hW fs_RX11_12 t20 hb21 dX11_looks_6 ?_
    obtain ⟨t22, h⟩ := zc_at h
    obtain ⟨b23, hb23, h⟩ := zd_at h
    refine z_gR hx hb hq hown hK hW fs_RX11_155 t22 hb23 dX11_looks_9 ?_
    obtain ⟨t24, h⟩ := zc_at h
    obtain ⟨st26, c25, h⟩ := zd_at h
    refine z_cV hx hb hq hml hown hK hW hS 5 [] [] rfl (List.mem_singleton.mp t24) (c_X5_clear l G st b23 c25) (zi zm273) (zi zm274) (zi zm275) (zi zm32) (zi zm276) cal_X5_clear rfl rfl hl.1 rfl (Nat.le_of_ble_eq_true rfl) (zR_ok (by omega) (by decide)) ⟨(Nat.le_of_ble_eq_true rfl), (Nat.le_of_ble_eq_true rfl)⟩ dX11_looks_12 (fun H locs hW hS => ?_)
    refine W.eq (g2 := F0 m 15 ls []) rfl ?_
    refine lv_iconst (v := (nI 0)) hx hb dX11_looks_15 (by decide) ?_
    obtain ⟨rfl, rfl⟩ := Prod.mk.inj (Option.some.inj h)
    exact z_ri hx hb hr hlk hW hS (Nat.le_of_ble_eq_true rfl) (Nat.le_of_ble_eq_true rfl) dX11_looks_16
def f_X11_hundreds_4 (N : Nat) (a0 : Int32)  : Nat → Int64 → Int32 → Option Int64
  | 0, _, _ => none
  | n4 + 1, x1, x3 => (if a0 ≤ x3 then (some x1) else (zl (x1 * (lN 100)) (fun v1 => ((f_X11_hundreds_4 N a0 n4) v1 (x3 + (nI 1))))))
def f_X11_hundreds (N : Nat) (a0 : Int32) : Option Int64 := (f_X11_hundreds_4 N a0 N (lN 1) (nI 0))
set_option maxHeartbeats 1000000 in
set_option maxRecDepth 100000 in
theorem c_X11_hundreds (l : Launch) (G : zG) (N : Nat) (st : zS) (a0 : Int32) {r : Int64} (h : f_X11_hundreds N a0 = some r) : zMet l G yX11_hundreds cX11_hundreds 4 (some .long) 0 0 0 [.int a0] st (some (.long r)) st := by
  refine zMet_of (by decide +kernel) ?_
  intro p e s m args below meth c X
  obtain ⟨hx, hb, hr, hml, hown, hq, hlk, hK, -, hin, hW, hS⟩ := X
  have hown : s.vm.findClass RX11 = some m.cls := hown
  refine z_ent (by exact Nat.le_of_ble_eq_true rfl) (fun ls hl => ?_)
  have hl : lv_has ls 4 [(0, .int a0)] := hl
  unfold f_X11_hundreds at h
  have B4 : ∀ (n4 : Nat) (x1 : Int64) (x3 : Int32) (H : Heap) (locs : List Loc) (ls : Array Slot), f_X11_hundreds_4 N a0 n4 x1 x3 = some r → zWd G st H → va_S (zA G) s.heap H locs → lv_has ls 4 [(0, .int a0), (1, .long (x1)), (3, .int x3)] → W p l e (zRm 0 0 0) s m args below meth c H locs 0 0 (MQ below (zQ G (some (.long r)) st) args s 0 0 (zA G)) (F0 m 4 ls []) := by
    intro n4
    induction n4 with
    | zero =>
      intro x1 x3 H locs ls h
      unfold f_X11_hundreds_4 at h
      cases h
    | succ n4 ih4 =>
      intro x1 x3 H locs ls h hW hS hl
      unfold f_X11_hundreds_4 at h
      refine lv_iload_n hx hb dX11_hundreds_4 rfl (lv_at hl 2 rfl) ?_
      refine lv_iload_n hx hb dX11_hundreds_5 rfl (lv_at hl 0 rfl) ?_
      refine z_br (lv_icmp_ge (tgt := 21) hx hb dX11_hundreds_6 (by decide)) h (fun h => ?_) (fun h => ?_)
      · refine lv_lload_n hx hb dX11_hundreds_21 rfl (lv_at hl 1 rfl) ?_
        obtain rfl := Option.some.inj h
        exact z_rl hx hb hr hlk hW hS (Nat.le_of_ble_eq_true rfl) (Nat.le_of_ble_eq_true rfl) dX11_hundreds_22
      · refine lv_lload_n hx hb dX11_hundreds_9 rfl (lv_at hl 1 rfl) ?_
        refine lv_ldc2 (v := (lN 100)) hx hb hown (hq _ (zi zm725)) dX11_hundreds_10 ?_
        refine lv_lmul hx hb dX11_hundreds_13 ?_
        refine lv_topl (fun v1 ev1 => ?_)
        have h := zl_at ev1 h
        refine lv_lstore_n (lv' := [(1, .long (v1)), (0, .int a0), (3, .int x3)]) hx hb dX11_hundreds_14 rfl hl (by decide) rfl (fun ls hl => ?_)
        refine lv_iinc (v := (x3 + (nI 1))) (lv' := [(3, .int ((x3 + (nI 1)))), (1, .long (v1)), (0, .int a0)]) hx hb dX11_hundreds_15 hl (k := 2) rfl rfl (by decide) rfl (fun ls hl => ?_)
        refine lv_goto (tgt := 4) hx hb dX11_hundreds_18 (by decide) ?_
        exact ih4 v1 (x3 + (nI 1)) _ _ _ h hW hS (lv_sub hl [2, 1, 0] rfl)
  refine lv_lconst (v := (lN 1)) hx hb dX11_hundreds_0 (by decide) ?_
  refine lv_lstore_n (lv' := [(1, .long ((lN 1))), (0, .int a0)]) hx hb dX11_hundreds_1 rfl hl (by decide) rfl (fun ls hl => ?_)
  refine lv_iconst (v := (nI 0)) hx hb dX11_hundreds_2 (by decide) ?_
  refine lv_istore_n (lv' := [(3, .int ((nI 0))), (1, .long ((lN 1))), (0, .int a0)]) hx hb dX11_hundreds_3 rfl hl (by decide) rfl (fun ls hl => ?_)
  exact B4 N (lN 1) (nI 0) _ _ _ h hW hS (lv_sub hl [2, 1, 0] rfl)
def f_X11_common_3 (N : Nat)  : Nat → Int64 → Int64 → Int32 → Option Int64
  | 0, _, _, _ => none
  | n3 + 1, x0, x2, x4 => (if (nI 200) ≤ x4 then (some x0) else (if (lg_cmp x2 (lN 0)) = 0 then (some x0) else (if ¬ x2 = 0 then (zl (x0 - x0 / x2 * x2) (fun v2 => ((f_X11_common_3 N n3) x2 v2 (x4 + (nI 1))))) else none)))
def f_X11_common (N : Nat) (a0 : Int64) (a2 : Int64) : Option Int64 := (f_X11_common_3 N N a0 a2 (nI 0))
set_option maxHeartbeats 1000000 in
set_option maxRecDepth 100000 in
theorem c_X11_common (l : Launch) (G : zG) (N : Nat) (st : zS) (a0 : Int64) (a2 : Int64) {r : Int64} (h : f_X11_common N a0 a2 = some r) : zMet l G yX11_common cX11_common 7 (some .long) 0 0 0 [.long (a0), .long (a2)] st (some (.long r)) st := by
  refine zMet_of (by decide +kernel) ?_
  intro p e s m args below meth c X
  obtain ⟨hx, hb, hr, hml, hown, hq, hlk, hK, -, hin, hW, hS⟩ := X
  have hown : s.vm.findClass RX11 = some m.cls := hown
  refine z_ent (by exact Nat.le_of_ble_eq_true rfl) (fun ls hl => ?_)
  have hl : lv_has ls 7 [(0, .long (a0)), (2, .long (a2))] := hl
  unfold f_X11_common at h
  have B3 : ∀ (n3 : Nat) (x0 : Int64) (x2 : Int64) (x4 : Int32) (H : Heap) (locs : List Loc) (ls : Array Slot), f_X11_common_3 N n3 x0 x2 x4 = some r → zWd G st H → va_S (zA G) s.heap H locs → lv_has ls 7 [(0, .long (x0)), (2, .long (x2)), (4, .int x4)] → W p l e (zRm 0 0 0) s m args below meth c H locs 0 0 (MQ below (zQ G (some (.long r)) st) args s 0 0 (zA G)) (F0 m 3 ls []) := by
    intro n3
    induction n3 with
    | zero =>
      intro x0 x2 x4 H locs ls h
      unfold f_X11_common_3 at h
      cases h
    | succ n3 ih3 =>
      intro x0 x2 x4 H locs ls h hW hS hl
      unfold f_X11_common_3 at h
      refine lv_iload hx hb dX11_common_3 (lv_at hl 2 rfl) ?_
      refine lv_sipush (v := (nI 200)) hx hb dX11_common_5 (by decide) ?_
      refine z_br (lv_icmp_ge (tgt := 33) hx hb dX11_common_8 (by decide)) h (fun h => ?_) (fun h => ?_)
      · refine lv_lload_n hx hb dX11_common_33 rfl (lv_at hl 0 rfl) ?_
        obtain rfl := Option.some.inj h
        exact z_rl hx hb hr hlk hW hS (Nat.le_of_ble_eq_true rfl) (Nat.le_of_ble_eq_true rfl) dX11_common_34
      · refine lv_lload_n hx hb dX11_common_11 rfl (lv_at hl 1 rfl) ?_
        refine lv_lconst (v := (lN 0)) hx hb dX11_common_12 (by decide) ?_
        refine W.lcmp hx hb dX11_common_13 ?_
        refine z_br (lv_if_eq (tgt := 33) hx hb dX11_common_14 (by decide)) h (fun h => ?_) (fun h => ?_)
        · refine lv_lload_n hx hb dX11_common_33 rfl (lv_at hl 0 rfl) ?_
          obtain rfl := Option.some.inj h
          exact z_rl hx hb hr hlk hW hS (Nat.le_of_ble_eq_true rfl) (Nat.le_of_ble_eq_true rfl) dX11_common_34
        · refine lv_lload_n hx hb dX11_common_17 rfl (lv_at hl 0 rfl) ?_
          refine lv_lload_n hx hb dX11_common_18 rfl (lv_at hl 1 rfl) ?_
          obtain ⟨t1, h⟩ := zc_at h
          refine lv_lrem hx hb dX11_common_19 t1 ?_
          refine lv_topl (fun v2 ev2 => ?_)
          have h := zl_at ev2 h
          refine lv_lstore (lv' := [(5, .long (v2)), (0, .long (x0)), (2, .long (x2)), (4, .int x4)]) hx hb dX11_common_20 hl (by decide) rfl (fun ls hl => ?_)
          refine lv_lload_n hx hb dX11_common_22 rfl (lv_at hl 2 rfl) ?_
          refine lv_lstore_n (lv' := [(0, .long (x2)), (5, .long (v2)), (2, .long (x2)), (4, .int x4)]) hx hb dX11_common_23 rfl hl (by decide) rfl (fun ls hl => ?_)
          refine lv_lload hx hb dX11_common_24 (lv_at hl 1 rfl) ?_
          refine lv_lstore_n (lv' := [(2, .long (v2)), (0, .long (x2)), (5, .long (v2)), (4, .int x4)]) hx hb dX11_common_26 rfl hl (by decide) rfl (fun ls hl => ?_)
          refine lv_iinc (v := (x4 + (nI 1))) (lv' := [(4, .int ((x4 + (nI 1)))), (2, .long (v2)), (0, .long (x2)), (5, .long (v2))]) hx hb dX11_common_27 hl (k := 3) rfl rfl (by decide) rfl (fun ls hl => ?_)
          refine lv_goto (tgt := 3) hx hb dX11_common_30 (by decide) ?_
          exact ih3 x2 v2 (x4 + (nI 1)) _ _ _ h hW hS (lv_sub hl [2, 1, 0] rfl)
  refine lv_iconst (v := (nI 0)) hx hb dX11_common_0 (by decide) ?_
  refine lv_istore (lv' := [(4, .int ((nI 0))), (0, .long (a0)), (2, .long (a2))]) hx hb dX11_common_1 hl (by decide) rfl (fun ls hl => ?_)
  exact B3 N a0 a2 (nI 0) _ _ _ h hW hS (lv_sub hl [1, 2, 0] rfl)
def f_X11_lowest_56 (N : Nat) (a0 : Int64) (a2 : Int64) (a4 : Int32)  (y0 : Int64) : Option Int64 := (if a4 = 0 then (if ¬ y0 = 0 then (some (a0 / y0)) else none) else (if ¬ y0 = 0 then (some (a2 / y0)) else none))
def f_X11_lowest (N : Nat) (a0 : Int64) (a2 : Int64) (a4 : Int32) : Option Int64 := (Option.bind (f_X11_isPart a4) (fun r2 => (if r2 = 0 then (some (-9223372036854775808 : Int64)) else (if (lg_cmp a2 (lN 0)) = 0 then (some (-9223372036854775808 : Int64)) else (Option.bind (f_X11_common N (if 0 < a0 then a0 else -a0) (if 0 < a2 then a2 else -a2)) (fun r4 => (if (lg_cmp r4 (lN 0)) = 0 then (some (-9223372036854775808 : Int64)) else (if 0 ≤ (lg_cmp a2 (lN 0)) then (f_X11_lowest_56 N a0 a2 a4 r4) else (f_X11_lowest_56 N a0 a2 a4 (-r4))))))))))
set_option maxHeartbeats 1000000 in
set_option maxRecDepth 100000 in
theorem c_X11_lowest (l : Launch) (G : zG) (N : Nat) (st : zS) (a0 : Int64) (a2 : Int64) (a4 : Int32) {r : Int64} (h : f_X11_lowest N a0 a2 a4 = some r) : zMet l G yX11_lowest cX11_lowest 9 (some .long) 1 0 0 [.long (a0), .long (a2), .int a4] st (some (.long r)) st := by
  refine zMet_of (by decide +kernel) ?_
  intro p e s m args below meth c X
  obtain ⟨hx, hb, hr, hml, hown, hq, hlk, hK, -, hin, hW, hS⟩ := X
  have hown : s.vm.findClass RX11 = some m.cls := hown
  refine z_ent (by exact Nat.le_of_ble_eq_true rfl) (fun ls hl => ?_)
  have hl : lv_has ls 9 [(0, .long (a0)), (2, .long (a2)), (4, .int a4)] := hl
  unfold f_X11_lowest at h
  have B56 : ∀ (y0 : Int64) (H : Heap) (locs : List Loc) (ls : Array Slot), f_X11_lowest_56 N a0 a2 a4 y0 = some r → zWd G st H → va_S (zA G) s.heap H locs → lv_has ls 9 [(0, .long (a0)), (2, .long (a2)), (4, .int a4)] → W p l e (zRm 1 0 0) s m args below meth c H locs 0 0 (MQ below (zQ G (some (.long r)) st) args s 0 0 (zA G)) (F0 m 56 ls [.long (y0)]) := by
    intro y0 H locs ls h hW hS hl
    unfold f_X11_lowest_56 at h
    refine lv_lstore (lv' := [(7, .long (y0)), (0, .long (a0)), (2, .long (a2)), (4, .int a4)]) hx hb dX11_lowest_56 hl (by decide) rfl (fun ls hl => ?_)
    refine lv_iload hx hb dX11_lowest_58 (lv_at hl 3 rfl) ?_
    refine z_brn (lv_if_ne (tgt := 67) hx hb dX11_lowest_60 (by decide)) h (fun h => ?_) (fun h => ?_)
    · refine lv_lload_n hx hb dX11_lowest_67 rfl (lv_at hl 2 rfl) ?_
      refine lv_lload hx hb dX11_lowest_68 (lv_at hl 0 rfl) ?_
      obtain ⟨t5, h⟩ := zc_at h
      refine lv_ldiv hx hb dX11_lowest_70 t5 ?_
      obtain rfl := Option.some.inj h
      exact z_rl hx hb hr hlk hW hS (Nat.le_of_ble_eq_true rfl) (Nat.le_of_ble_eq_true rfl) dX11_lowest_71
    · refine lv_lload_n hx hb dX11_lowest_63 rfl (lv_at hl 1 rfl) ?_
      refine lv_goto (tgt := 68) hx hb dX11_lowest_64 (by decide) ?_
      refine lv_lload hx hb dX11_lowest_68 (lv_at hl 0 rfl) ?_
      obtain ⟨t6, h⟩ := zc_at h
      refine lv_ldiv hx hb dX11_lowest_70 t6 ?_
      obtain rfl := Option.some.inj h
      exact z_rl hx hb hr hlk hW hS (Nat.le_of_ble_eq_true rfl) (Nat.le_of_ble_eq_true rfl) dX11_lowest_71
  refine lv_iload hx hb dX11_lowest_0 (lv_at hl 2 rfl) ?_
  obtain ⟨r2, c1, h⟩ := zd_at h
  refine z_cS hx hb hq hml hown hK hW hS [.int a4] [] (c_X11_isPart l G st a4 c1) (zi zm589) (zi zm590) (zi zm2) (zi zm591) cal_X11_isPart rfl hl.1 rfl (Nat.le_of_ble_eq_true rfl) (zR_ok (by omega) (by decide)) ⟨(Nat.le_of_ble_eq_true rfl), (Nat.le_of_ble_eq_true rfl)⟩ dX11_lowest_2 (fun H locs hW hS => ?_)
  refine W.eq (g2 := F0 m 5 ls [.int r2]) rfl ?_
  refine z_br (lv_if_eq (tgt := 14) hx hb dX11_lowest_5 (by decide)) h (fun h => ?_) (fun h => ?_)
  · refine lv_ldc2 (v := (-9223372036854775808)) hx hb hown (hq _ (zi zm729)) dX11_lowest_14 ?_
    obtain rfl := Option.some.inj h
    exact z_rl hx hb hr hlk hW hS (Nat.le_of_ble_eq_true rfl) (Nat.le_of_ble_eq_true rfl) dX11_lowest_17
  · refine lv_lload_n hx hb dX11_lowest_8 rfl (lv_at hl 1 rfl) ?_
    refine lv_lconst (v := (lN 0)) hx hb dX11_lowest_9 (by decide) ?_
    refine W.lcmp hx hb dX11_lowest_10 ?_
    refine z_brn (lv_if_ne (tgt := 18) hx hb dX11_lowest_11 (by decide)) h (fun h => ?_) (fun h => ?_)
    · refine lv_lload_n hx hb dX11_lowest_18 rfl (lv_at hl 0 rfl) ?_
      refine va_mabs_long hx hb (hml.trans hl.1.symm) hown (hq _ (zi zm730)) (hq _ (zi zm731)) (hq _ (zi zm53)) (hq _ (zi zm732)) (Nat.le_of_ble_eq_true rfl) (by show _ ≤ 60 * _; exact (Nat.le_of_ble_eq_true rfl)) (Nat.le_of_ble_eq_true rfl) (Nat.le_of_ble_eq_true rfl) dX11_lowest_19 ?_
      refine lv_lload_n hx hb dX11_lowest_22 rfl (lv_at hl 1 rfl) ?_
      refine va_mabs_long hx hb (hml.trans hl.1.symm) hown (hq _ (zi zm730)) (hq _ (zi zm731)) (hq _ (zi zm53)) (hq _ (zi zm732)) (Nat.le_of_ble_eq_true rfl) (by show _ ≤ 60 * _; exact (Nat.le_of_ble_eq_true rfl)) (Nat.le_of_ble_eq_true rfl) (Nat.le_of_ble_eq_true rfl) dX11_lowest_23 ?_
      obtain ⟨r4, c3, h⟩ := zd_at h
      refine z_cS hx hb hq hml hown hK hW hS [.long ((if 0 < a0 then a0 else -a0)), .long ((if 0 < a2 then a2 else -a2))] [] (c_X11_common l G N st (if 0 < a0 then a0 else -a0) (if 0 < a2 then a2 else -a2) c3) (zi zm733) (zi zm734) (zi zm2) (zi zm735) cal_X11_common rfl hl.1 rfl (Nat.le_of_ble_eq_true rfl) (zR_ok (by omega) (by decide)) ⟨(Nat.le_of_ble_eq_true rfl), (Nat.le_of_ble_eq_true rfl)⟩ dX11_lowest_26 (fun H locs hW hS => ?_)
      refine W.eq (g2 := F0 m 29 ls [.long (r4)]) rfl ?_
      refine lv_lstore (lv' := [(5, .long (r4)), (0, .long (a0)), (2, .long (a2)), (4, .int a4)]) hx hb dX11_lowest_29 hl (by decide) rfl (fun ls hl => ?_)
      refine lv_lload hx hb dX11_lowest_31 (lv_at hl 0 rfl) ?_
      refine lv_lconst (v := (lN 0)) hx hb dX11_lowest_33 (by decide) ?_
      refine W.lcmp hx hb dX11_lowest_34 ?_
      refine z_brn (lv_if_ne (tgt := 42) hx hb dX11_lowest_35 (by decide)) h (fun h => ?_) (fun h => ?_)
      · refine lv_lload_n hx hb dX11_lowest_42 rfl (lv_at hl 2 rfl) ?_
        refine lv_lconst (v := (lN 0)) hx hb dX11_lowest_43 (by decide) ?_
        refine W.lcmp hx hb dX11_lowest_44 ?_
        refine z_br (lv_if_ge (tgt := 54) hx hb dX11_lowest_45 (by decide)) h (fun h => ?_) (fun h => ?_)
        · refine lv_lload hx hb dX11_lowest_54 (lv_at hl 0 rfl) ?_
          exact B56 r4 _ _ _ h hW hS (lv_sub hl [1, 2, 3] rfl)
        · refine lv_lload hx hb dX11_lowest_48 (lv_at hl 0 rfl) ?_
          refine lv_lneg hx hb dX11_lowest_50 ?_
          refine lv_goto (tgt := 56) hx hb dX11_lowest_51 (by decide) ?_
          exact B56 (-r4) _ _ _ h hW hS (lv_sub hl [1, 2, 3] rfl)
      · refine lv_ldc2 (v := (-9223372036854775808)) hx hb hown (hq _ (zi zm729)) dX11_lowest_38 ?_
        obtain rfl := Option.some.inj h
        exact z_rl hx hb hr hlk hW hS (Nat.le_of_ble_eq_true rfl) (Nat.le_of_ble_eq_true rfl) dX11_lowest_41
    · refine lv_ldc2 (v := (-9223372036854775808)) hx hb hown (hq _ (zi zm729)) dX11_lowest_14 ?_
      obtain rfl := Option.some.inj h
      exact z_rl hx hb hr hlk hW hS (Nat.le_of_ble_eq_true rfl) (Nat.le_of_ble_eq_true rfl) dX11_lowest_17
def f_X11_safe (N : Nat) (st : zS) (o : Nat) (a1 : Int32) : Option Int64 := (if zTg st o ∈ [21] then (Option.bind (zR st o 0) (fun b2 => (if zTg st b2 ∈ [12] then (Option.bind (f_X2_unseenNow N st b2) (fun r5 => (Option.bind (f_X2_placeCount st b2) (fun r7 => (Option.bind (f_X11_hundreds N r7) (fun r9 => (Option.bind (f_X11_lowest N r5 r9 a1) (fun r11 => (some r11))))))))) else none))) else none)
set_option maxHeartbeats 1000000 in
set_option maxRecDepth 100000 in
theorem c_X11_safe (l : Launch) (G : zG) (N : Nat) (st : zS) (o : Nat) (a1 : Int32) {r : Int64} (h : f_X11_safe N st o a1 = some r) : zMet l G yX11_safe cX11_safe 2 (some .long) 6 0 0 [.ref (G.2.2.2 + o), .int a1] st (some (.long r)) st := by
  refine zMet_of (by decide +kernel) ?_
  intro p e s m args below meth c X
  obtain ⟨hx, hb, hr, hml, hown, hq, hlk, hK, -, hin, hW, hS⟩ := X
  have hown : s.vm.findClass RX11 = some m.cls := hown
  refine z_ent (by exact Nat.le_of_ble_eq_true rfl) (fun ls hl => ?_)
  have hl : lv_has ls 2 [(0, .ref (G.2.2.2 + o)), (1, .int a1)] := hl
  unfold f_X11_safe at h
  refine lv_aload_n hx hb dX11_safe_0 rfl (lv_at hl 0 rfl) ?_
  obtain ⟨t1, h⟩ := zc_at h
  obtain ⟨b2, hb2, h⟩ := zd_at h
  refine z_gR hx hb hq hown hK hW fs_RX11_12 t1 hb2 dX11_safe_1 ?_
  obtain ⟨t3, h⟩ := zc_at h
  obtain ⟨r5, c4, h⟩ := zd_at h
  refine z_cV hx hb hq hml hown hK hW hS 2 [] [] rfl (List.mem_singleton.mp t3) (c_X2_unseenNow l G N st b2 c4) (zi zm707) (zi zm708) (zi zm709) (zi zm14) (zi zm710) cal_X2_unseenNow rfl rfl hl.1 rfl (Nat.le_of_ble_eq_true rfl) (zR_ok (by omega) (by decide)) ⟨(Nat.le_of_ble_eq_true rfl), (Nat.le_of_ble_eq_true rfl)⟩ dX11_safe_4 (fun H locs hW hS => ?_)
  refine W.eq (g2 := F0 m 7 ls [.long (r5)]) rfl ?_
  refine lv_aload_n hx hb dX11_safe_7 rfl (lv_at hl 0 rfl) ?_
  refine z_gR hx hb hq hown hK hW fs_RX11_12 t1 hb2 dX11_safe_8 ?_
  obtain ⟨r7, c6, h⟩ := zd_at h
  refine z_cV hx hb hq hml hown hK hW hS 2 [] [.long (r5)] rfl (List.mem_singleton.mp t3) (c_X2_placeCount l G st b2 c6) (zi zm643) (zi zm644) (zi zm645) (zi zm14) (zi zm646) cal_X2_placeCount rfl rfl hl.1 rfl (Nat.le_of_ble_eq_true rfl) (zR_ok (by omega) (by decide)) ⟨(Nat.le_of_ble_eq_true rfl), (Nat.le_of_ble_eq_true rfl)⟩ dX11_safe_11 (fun H locs hW hS => ?_)
  refine W.eq (g2 := F0 m 14 ls [.int r7, .long (r5)]) rfl ?_
  obtain ⟨r9, c8, h⟩ := zd_at h
  refine z_cS hx hb hq hml hown hK hW hS [.int r7] [.long (r5)] (c_X11_hundreds l G N st r7 c8) (zi zm722) (zi zm723) (zi zm2) (zi zm724) cal_X11_hundreds rfl hl.1 rfl (Nat.le_of_ble_eq_true rfl) (zR_ok (by omega) (by decide)) ⟨(Nat.le_of_ble_eq_true rfl), (Nat.le_of_ble_eq_true rfl)⟩ dX11_safe_14 (fun H locs hW hS => ?_)
  refine W.eq (g2 := F0 m 17 ls [.long (r9), .long (r5)]) rfl ?_
  refine lv_iload_n hx hb dX11_safe_17 rfl (lv_at hl 1 rfl) ?_
  obtain ⟨r11, c10, h⟩ := zd_at h
  refine z_cS hx hb hq hml hown hK hW hS [.long (r5), .long (r9), .int a1] [] (c_X11_lowest l G N st r5 r9 a1 c10) (zi zm726) (zi zm727) (zi zm2) (zi zm728) cal_X11_lowest rfl hl.1 rfl (Nat.le_of_ble_eq_true rfl) (zR_ok (by omega) (by decide)) ⟨(Nat.le_of_ble_eq_true rfl), (Nat.le_of_ble_eq_true rfl)⟩ dX11_safe_18 (fun H locs hW hS => ?_)
  refine W.eq (g2 := F0 m 21 ls [.long (r11)]) rfl ?_
  obtain rfl := Option.some.inj h
  exact z_rl hx hb hr hlk hW hS (Nat.le_of_ble_eq_true rfl) (Nat.le_of_ble_eq_true rfl) dX11_safe_21
def f_X11_again (N : Nat) (st : zS) (o : Nat) (a1 : Int32) : Option Int64 := (if zTg st o ∈ [21] then (Option.bind (zR st o 0) (fun b2 => (if zTg st b2 ∈ [12] then (Option.bind (f_X2_placeCount st b2) (fun r5 => (Option.bind (f_X11_hundreds N r5) (fun r7 => (Option.bind (zR st b2 2) (fun b8 => (if zTg st b8 ∈ [16] then (Option.bind (f_X2_unseenNow N st b2) (fun r11 => (Option.bind (f_X11_lowest N (((zM st b8 0)).toInt64 * (((lN 2) * r7) - r11)) r7 a1) (fun r13 => (some r13))))) else none))))))) else none))) else none)
set_option maxHeartbeats 1000000 in
set_option maxRecDepth 100000 in
theorem c_X11_again (l : Launch) (G : zG) (N : Nat) (st : zS) (o : Nat) (a1 : Int32) {r : Int64} (h : f_X11_again N st o a1 = some r) : zMet l G yX11_again cX11_again 4 (some .long) 6 0 0 [.ref (G.2.2.2 + o), .int a1] st (some (.long r)) st := by
  refine zMet_of (by decide +kernel) ?_
  intro p e s m args below meth c X
  obtain ⟨hx, hb, hr, hml, hown, hq, hlk, hK, -, hin, hW, hS⟩ := X
  have hown : s.vm.findClass RX11 = some m.cls := hown
  refine z_ent (by exact Nat.le_of_ble_eq_true rfl) (fun ls hl => ?_)
  have hl : lv_has ls 4 [(0, .ref (G.2.2.2 + o)), (1, .int a1)] := hl
  unfold f_X11_again at h
  refine lv_aload_n hx hb dX11_again_0 rfl (lv_at hl 0 rfl) ?_
  obtain ⟨t1, h⟩ := zc_at h
  obtain ⟨b2, hb2, h⟩ := zd_at h
  refine z_gR hx hb hq hown hK hW fs_RX11_12 t1 hb2 dX11_again_1 ?_
  obtain ⟨t3, h⟩ := zc_at h
  obtain ⟨r5, c4, h⟩ := zd_at h
  refine z_cV hx hb hq hml hown hK hW hS 2 [] [] rfl (List.mem_singleton.mp t3) (c_X2_placeCount l G st b2 c4) (zi zm643) (zi zm644) (zi zm645) (zi zm14) (zi zm646) cal_X2_placeCount rfl rfl hl.1 rfl (Nat.le_of_ble_eq_true rfl) (zR_ok (by omega) (by decide)) ⟨(Nat.le_of_ble_eq_true rfl), (Nat.le_of_ble_eq_true rfl)⟩ dX11_again_4 (fun H locs hW hS => ?_)
  refine W.eq (g2 := F0 m 7 ls [.int r5]) rfl ?_
  obtain ⟨r7, c6, h⟩ := zd_at h
  refine z_cS hx hb hq hml hown hK hW hS [.int r5] [] (c_X11_hundreds l G N st r5 c6) (zi zm722) (zi zm723) (zi zm2) (zi zm724) cal_X11_hundreds rfl hl.1 rfl (Nat.le_of_ble_eq_true rfl) (zR_ok (by omega) (by decide)) ⟨(Nat.le_of_ble_eq_true rfl), (Nat.le_of_ble_eq_true rfl)⟩ dX11_again_7 (fun H locs hW hS => ?_)
  refine W.eq (g2 := F0 m 10 ls [.long (r7)]) rfl ?_
  refine lv_lstore_n (lv' := [(2, .long (r7)), (0, .ref (G.2.2.2 + o)), (1, .int a1)]) hx hb dX11_again_10 rfl hl (by decide) rfl (fun ls hl => ?_)
  refine lv_aload_n hx hb dX11_again_11 rfl (lv_at hl 1 rfl) ?_
  refine z_gR hx hb hq hown hK hW fs_RX11_12 t1 hb2 dX11_again_12 ?_
  obtain ⟨b8, hb8, h⟩ := zd_at h
  refine z_gR hx hb hq hown hK hW fs_RX11_56 t3 hb8 dX11_again_15 ?_
  obtain ⟨t9, h⟩ := zc_at h
  refine z_gI hx hb hq hown hK hW fs_RX11_140 t9 dX11_again_18 ?_
  refine lv_i2l (v := ((zM st b8 0)).toInt64) hx hb dX11_again_21 rfl ?_
  refine lv_ldc2 (v := (lN 2)) hx hb hown (hq _ (zi zm765)) dX11_again_22 ?_
  refine lv_lload_n hx hb dX11_again_25 rfl (lv_at hl 0 rfl) ?_
  refine lv_lmul hx hb dX11_again_26 ?_
  refine lv_aload_n hx hb dX11_again_27 rfl (lv_at hl 1 rfl) ?_
  refine z_gR hx hb hq hown hK hW fs_RX11_12 t1 hb2 dX11_again_28 ?_
  obtain ⟨r11, c10, h⟩ := zd_at h
  refine z_cV hx hb hq hml hown hK hW hS 2 [] [.long (((lN 2) * r7)), .long (((zM st b8 0)).toInt64)] rfl (List.mem_singleton.mp t3) (c_X2_unseenNow l G N st b2 c10) (zi zm707) (zi zm708) (zi zm709) (zi zm14) (zi zm710) cal_X2_unseenNow rfl rfl hl.1 rfl (Nat.le_of_ble_eq_true rfl) (zR_ok (by omega) (by decide)) ⟨(Nat.le_of_ble_eq_true rfl), (Nat.le_of_ble_eq_true rfl)⟩ dX11_again_31 (fun H locs hW hS => ?_)
  refine W.eq (g2 := F0 m 34 ls [.long (r11), .long (((lN 2) * r7)), .long (((zM st b8 0)).toInt64)]) rfl ?_
  refine lv_lsub hx hb dX11_again_34 ?_
  refine lv_lmul hx hb dX11_again_35 ?_
  refine lv_lload_n hx hb dX11_again_36 rfl (lv_at hl 0 rfl) ?_
  refine lv_iload_n hx hb dX11_again_37 rfl (lv_at hl 2 rfl) ?_
  obtain ⟨r13, c12, h⟩ := zd_at h
  refine z_cS hx hb hq hml hown hK hW hS [.long ((((zM st b8 0)).toInt64 * (((lN 2) * r7) - r11))), .long (r7), .int a1] [] (c_X11_lowest l G N st (((zM st b8 0)).toInt64 * (((lN 2) * r7) - r11)) r7 a1 c12) (zi zm726) (zi zm727) (zi zm2) (zi zm728) cal_X11_lowest rfl hl.1 rfl (Nat.le_of_ble_eq_true rfl) (zR_ok (by omega) (by decide)) ⟨(Nat.le_of_ble_eq_true rfl), (Nat.le_of_ble_eq_true rfl)⟩ dX11_again_38 (fun H locs hW hS => ?_)
  refine W.eq (g2 := F0 m 41 ls [.long (r13)]) rfl ?_
  obtain rfl := Option.some.inj h
  exact z_rl hx hb hr hlk hW hS (Nat.le_of_ble_eq_true rfl) (Nat.le_of_ble_eq_true rfl) dX11_again_41
def f_X11_twice_47 (N : Nat) (st : zS) (o : Nat) (a1 : Int32) (a2 : Int32)  : Nat → Int32 → Int32 → Int64 → Int32 → Option Int64
  | 0, _, _, _, _ => none
  | n47 + 1, x3, x4, x5, x7 => (if x3 ≤ x7 then (if zTg st o ∈ [21] then (Option.bind (zR st o 0) (fun b12 => (if zTg st b12 ∈ [12] then (Option.bind (f_X2_placeCount st b12) (fun r15 => (Option.bind (f_X11_hundreds N (r15 + x4)) (fun r17 => (Option.bind (f_X11_lowest N x5 r17 a2) (fun r19 => (some r19))))))) else none))) else none) else (if zTg st o ∈ [21] then (Option.bind (zR st o 0) (fun b21 => (if zTg st b21 ∈ [12] then (Option.bind (f_X2_signAt N st b21 x7) (fun r24 => (zl (x5 * (((nI 100) - r24)).toInt64) (fun v25 => ((f_X11_twice_47 N st o a1 a2 n47) x3 x4 v25 (x7 + (nI 1))))))) else none))) else none))
def f_X11_twice (N : Nat) (st : zS) (o : Nat) (a1 : Int32) (a2 : Int32) : Option Int64 := (if a1 < (nI 1) then (some (-9223372036854775808 : Int64)) else (if a1 ≤ (nI 4) then (if zTg st o ∈ [21] then (Option.bind (zR st o 0) (fun b2 => (if zTg st b2 ∈ [12] then (Option.bind (zR st b2 2) (fun b4 => (if zTg st b4 ∈ [16] then (zl (zM st b4 0) (fun v6 => (zl (if v6 < a1 then v6 else a1) (fun v7 => (Option.bind (f_X2_unseenNow N st b2) (fun r9 => (zl (v6 - v7) (fun v10 => (f_X11_twice_47 N st o a1 a2 N v6 v7 r9 v10))))))))) else none))) else none))) else none) else (some (-9223372036854775808 : Int64))))
set_option maxHeartbeats 1000000 in
set_option maxRecDepth 100000 in
theorem c_X11_twice (l : Launch) (G : zG) (N : Nat) (st : zS) (o : Nat) (a1 : Int32) (a2 : Int32) {r : Int64} (h : f_X11_twice N st o a1 a2 = some r) : zMet l G yX11_twice cX11_twice 8 (some .long) 6 0 0 [.ref (G.2.2.2 + o), .int a1, .int a2] st (some (.long r)) st := by
  refine zMet_of (by decide +kernel) ?_
  intro p e s m args below meth c X
  obtain ⟨hx, hb, hr, hml, hown, hq, hlk, hK, -, hin, hW, hS⟩ := X
  have hown : s.vm.findClass RX11 = some m.cls := hown
  refine z_ent (by exact Nat.le_of_ble_eq_true rfl) (fun ls hl => ?_)
  have hl : lv_has ls 8 [(0, .ref (G.2.2.2 + o)), (1, .int a1), (2, .int a2)] := hl
  unfold f_X11_twice at h
  have B47 : ∀ (n47 : Nat) (x3 : Int32) (x4 : Int32) (x5 : Int64) (x7 : Int32) (H : Heap) (locs : List Loc) (ls : Array Slot), f_X11_twice_47 N st o a1 a2 n47 x3 x4 x5 x7 = some r → zWd G st H → va_S (zA G) s.heap H locs → lv_has ls 8 [(0, .ref (G.2.2.2 + o)), (2, .int a2), (3, .int x3), (4, .int x4), (5, .long (x5)), (7, .int x7)] → W p l e (zRm 6 0 0) s m args below meth c H locs 0 0 (MQ below (zQ G (some (.long r)) st) args s 0 0 (zA G)) (F0 m 47 ls []) := by
    intro n47
    induction n47 with
    | zero =>
      intro x3 x4 x5 x7 H locs ls h
      unfold f_X11_twice_47 at h
      cases h
    | succ n47 ih47 =>
      intro x3 x4 x5 x7 H locs ls h hW hS hl
      unfold f_X11_twice_47 at h
      refine lv_iload hx hb dX11_twice_47 (lv_at hl 5 rfl) ?_
      refine lv_iload_n hx hb dX11_twice_49 rfl (lv_at hl 2 rfl) ?_
      refine z_br (lv_icmp_ge (tgt := 77) hx hb dX11_twice_50 (by decide)) h (fun h => ?_) (fun h => ?_)
      · refine lv_lload hx hb dX11_twice_77 (lv_at hl 4 rfl) ?_
        refine lv_aload_n hx hb dX11_twice_79 rfl (lv_at hl 0 rfl) ?_
        obtain ⟨t11, h⟩ := zc_at h
        obtain ⟨b12, hb12, h⟩ := zd_at h
        refine z_gR hx hb hq hown hK hW fs_RX11_12 t11 hb12 dX11_twice_80 ?_
        obtain ⟨t13, h⟩ := zc_at h
        obtain ⟨r15, c14, h⟩ := zd_at h
        refine z_cV hx hb hq hml hown hK hW hS 2 [] [.long (x5)] rfl (List.mem_singleton.mp t13) (c_X2_placeCount l G st b12 c14) (zi zm643) (zi zm644) (zi zm645) (zi zm14) (zi zm646) cal_X2_placeCount rfl rfl hl.1 rfl (Nat.le_of_ble_eq_true rfl) (zR_ok (by omega) (by decide)) ⟨(Nat.le_of_ble_eq_true rfl), (Nat.le_of_ble_eq_true rfl)⟩ dX11_twice_83 (fun H locs hW hS => ?_)
        refine W.eq (g2 := F0 m 86 ls [.int r15, .long (x5)]) rfl ?_
        refine lv_iload hx hb dX11_twice_86 (lv_at hl 3 rfl) ?_
        refine lv_iadd hx hb dX11_twice_88 ?_
        obtain ⟨r17, c16, h⟩ := zd_at h
        refine z_cS hx hb hq hml hown hK hW hS [.int ((r15 + x4))] [.long (x5)] (c_X11_hundreds l G N st (r15 + x4) c16) (zi zm722) (zi zm723) (zi zm2) (zi zm724) cal_X11_hundreds rfl hl.1 rfl (Nat.le_of_ble_eq_true rfl) (zR_ok (by omega) (by decide)) ⟨(Nat.le_of_ble_eq_true rfl), (Nat.le_of_ble_eq_true rfl)⟩ dX11_twice_89 (fun H locs hW hS => ?_)
        refine W.eq (g2 := F0 m 92 ls [.long (r17), .long (x5)]) rfl ?_
        refine lv_iload_n hx hb dX11_twice_92 rfl (lv_at hl 1 rfl) ?_
        obtain ⟨r19, c18, h⟩ := zd_at h
        refine z_cS hx hb hq hml hown hK hW hS [.long (x5), .long (r17), .int a2] [] (c_X11_lowest l G N st x5 r17 a2 c18) (zi zm726) (zi zm727) (zi zm2) (zi zm728) cal_X11_lowest rfl hl.1 rfl (Nat.le_of_ble_eq_true rfl) (zR_ok (by omega) (by decide)) ⟨(Nat.le_of_ble_eq_true rfl), (Nat.le_of_ble_eq_true rfl)⟩ dX11_twice_93 (fun H locs hW hS => ?_)
        refine W.eq (g2 := F0 m 96 ls [.long (r19)]) rfl ?_
        obtain rfl := Option.some.inj h
        exact z_rl hx hb hr hlk hW hS (Nat.le_of_ble_eq_true rfl) (Nat.le_of_ble_eq_true rfl) dX11_twice_96
      · refine lv_lload hx hb dX11_twice_53 (lv_at hl 4 rfl) ?_
        refine lv_bipush (v := (nI 100)) hx hb dX11_twice_55 (by decide) ?_
        refine lv_aload_n hx hb dX11_twice_57 rfl (lv_at hl 0 rfl) ?_
        obtain ⟨t20, h⟩ := zc_at h
        obtain ⟨b21, hb21, h⟩ := zd_at h
        refine z_gR hx hb hq hown hK hW fs_RX11_12 t20 hb21 dX11_twice_58 ?_
        refine lv_iload hx hb dX11_twice_61 (lv_at hl 5 rfl) ?_
        obtain ⟨t22, h⟩ := zc_at h
        obtain ⟨r24, c23, h⟩ := zd_at h
        refine z_cV hx hb hq hml hown hK hW hS 2 [.int x7] [.int ((nI 100)), .long (x5)] rfl (List.mem_singleton.mp t22) (c_X2_signAt l G N st b21 x7 c23) (zi zm592) (zi zm593) (zi zm594) (zi zm14) (zi zm595) cal_X2_signAt rfl rfl hl.1 rfl (Nat.le_of_ble_eq_true rfl) (zR_ok (by omega) (by decide)) ⟨(Nat.le_of_ble_eq_true rfl), (Nat.le_of_ble_eq_true rfl)⟩ dX11_twice_63 (fun H locs hW hS => ?_)
        refine W.eq (g2 := F0 m 66 ls [.int r24, .int ((nI 100)), .long (x5)]) rfl ?_
        refine lv_isub hx hb dX11_twice_66 ?_
        refine lv_i2l (v := (((nI 100) - r24)).toInt64) hx hb dX11_twice_67 rfl ?_
        refine lv_lmul hx hb dX11_twice_68 ?_
        refine lv_topl (fun v25 ev25 => ?_)
        have h := zl_at ev25 h
        refine lv_lstore (lv' := [(5, .long (v25)), (0, .ref (G.2.2.2 + o)), (2, .int a2), (3, .int x3), (4, .int x4), (7, .int x7)]) hx hb dX11_twice_69 hl (by decide) rfl (fun ls hl => ?_)
        refine lv_iinc (v := (x7 + (nI 1))) (lv' := [(7, .int ((x7 + (nI 1)))), (5, .long (v25)), (0, .ref (G.2.2.2 + o)), (2, .int a2), (3, .int x3), (4, .int x4)]) hx hb dX11_twice_71 hl (k := 5) rfl rfl (by decide) rfl (fun ls hl => ?_)
        refine lv_goto (tgt := 47) hx hb dX11_twice_74 (by decide) ?_
        exact ih47 x3 x4 v25 (x7 + (nI 1)) _ _ _ h hW hS (lv_sub hl [2, 3, 4, 5, 1, 0] rfl)
  refine lv_iload_n hx hb dX11_twice_0 rfl (lv_at hl 1 rfl) ?_
  refine lv_iconst (v := (nI 1)) hx hb dX11_twice_1 (by decide) ?_
  refine z_br (lv_icmp_lt (tgt := 10) hx hb dX11_twice_2 (by decide)) h (fun h => ?_) (fun h => ?_)
  · refine lv_ldc2 (v := (-9223372036854775808)) hx hb hown (hq _ (zi zm729)) dX11_twice_10 ?_
    obtain rfl := Option.some.inj h
    exact z_rl hx hb hr hlk hW hS (Nat.le_of_ble_eq_true rfl) (Nat.le_of_ble_eq_true rfl) dX11_twice_13
  · refine lv_iload_n hx hb dX11_twice_5 rfl (lv_at hl 1 rfl) ?_
    refine lv_iconst (v := (nI 4)) hx hb dX11_twice_6 (by decide) ?_
    refine z_br (lv_icmp_le (tgt := 14) hx hb dX11_twice_7 (by decide)) h (fun h => ?_) (fun h => ?_)
    · refine lv_aload_n hx hb dX11_twice_14 rfl (lv_at hl 0 rfl) ?_
      obtain ⟨t1, h⟩ := zc_at h
      obtain ⟨b2, hb2, h⟩ := zd_at h
      refine z_gR hx hb hq hown hK hW fs_RX11_12 t1 hb2 dX11_twice_15 ?_
      obtain ⟨t3, h⟩ := zc_at h
      obtain ⟨b4, hb4, h⟩ := zd_at h
      refine z_gR hx hb hq hown hK hW fs_RX11_56 t3 hb4 dX11_twice_18 ?_
      obtain ⟨t5, h⟩ := zc_at h
      refine z_gI hx hb hq hown hK hW fs_RX11_140 t5 dX11_twice_21 ?_
      refine lv_topi (fun v6 ev6 => ?_)
      have h := zl_at ev6 h
      refine lv_istore_n (lv' := [(3, .int v6), (0, .ref (G.2.2.2 + o)), (1, .int a1), (2, .int a2)]) hx hb dX11_twice_24 rfl hl (by decide) rfl (fun ls hl => ?_)
      refine lv_iload_n hx hb dX11_twice_25 rfl (lv_at hl 2 rfl) ?_
      refine lv_iload_n hx hb dX11_twice_26 rfl (lv_at hl 0 rfl) ?_
      refine va_mmin hx hb (hml.trans hl.1.symm) hown (hq _ (zi zm775)) (hq _ (zi zm117)) (hq _ (zi zm53)) (hq _ (zi zm118)) (Nat.le_of_ble_eq_true rfl) (by show _ ≤ 60 * _; exact (Nat.le_of_ble_eq_true rfl)) (Nat.le_of_ble_eq_true rfl) (Nat.le_of_ble_eq_true rfl) dX11_twice_27 ?_
      refine lv_topi (fun v7 ev7 => ?_)
      have h := zl_at ev7 h
      refine lv_istore (lv' := [(4, .int v7), (3, .int v6), (0, .ref (G.2.2.2 + o)), (1, .int a1), (2, .int a2)]) hx hb dX11_twice_30 hl (by decide) rfl (fun ls hl => ?_)
      refine lv_aload_n hx hb dX11_twice_32 rfl (lv_at hl 2 rfl) ?_
      refine z_gR hx hb hq hown hK hW fs_RX11_12 t1 hb2 dX11_twice_33 ?_
      obtain ⟨r9, c8, h⟩ := zd_at h
      refine z_cV hx hb hq hml hown hK hW hS 2 [] [] rfl (List.mem_singleton.mp t3) (c_X2_unseenNow l G N st b2 c8) (zi zm707) (zi zm708) (zi zm709) (zi zm14) (zi zm710) cal_X2_unseenNow rfl rfl hl.1 rfl (Nat.le_of_ble_eq_true rfl) (zR_ok (by omega) (by decide)) ⟨(Nat.le_of_ble_eq_true rfl), (Nat.le_of_ble_eq_true rfl)⟩ dX11_twice_36 (fun H locs hW hS => ?_)
      refine W.eq (g2 := F0 m 39 ls [.long (r9)]) rfl ?_
      refine lv_lstore (lv' := [(5, .long (r9)), (4, .int v7), (3, .int v6), (0, .ref (G.2.2.2 + o)), (1, .int a1), (2, .int a2)]) hx hb dX11_twice_39 hl (by decide) rfl (fun ls hl => ?_)
      refine lv_iload_n hx hb dX11_twice_41 rfl (lv_at hl 2 rfl) ?_
      refine lv_iload hx hb dX11_twice_42 (lv_at hl 1 rfl) ?_
      refine lv_isub hx hb dX11_twice_44 ?_
      refine lv_topi (fun v10 ev10 => ?_)
      have h := zl_at ev10 h
      refine lv_istore (lv' := [(7, .int v10), (5, .long (r9)), (4, .int v7), (3, .int v6), (0, .ref (G.2.2.2 + o)), (1, .int a1), (2, .int a2)]) hx hb dX11_twice_45 hl (by decide) rfl (fun ls hl => ?_)
      exact B47 N v6 v7 r9 v10 _ _ _ h hW hS (lv_sub hl [4, 6, 3, 2, 1, 0] rfl)
    · refine lv_ldc2 (v := (-9223372036854775808)) hx hb hown (hq _ (zi zm729)) dX11_twice_10 ?_
      obtain rfl := Option.some.inj h
      exact z_rl hx hb hr hlk hW hS (Nat.le_of_ble_eq_true rfl) (Nat.le_of_ble_eq_true rfl) dX11_twice_13
