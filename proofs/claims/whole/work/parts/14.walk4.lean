def f_X12_penceOf_27 (st : zS) (o : Nat) (a1 : Int32) (a2 : Int32)   : Option Int32 := (if zTg st o ∈ [22] then (Option.bind (zR st o 1) (fun b6 => (if zTg st b6 ∈ [1] then (if zin ((nI 17) + a1) (zLn st b6) then (some (a2 * (zM st b6 (((nI 17) + a1)).toNatClampNeg))) else none) else none))) else none)
def f_X12_penceOf (st : zS) (o : Nat) (a1 : Int32) (a2 : Int32) : Option Int32 := (if zTg st o ∈ [22] then (Option.bind (zR st o 1) (fun b2 => (if zTg st b2 ∈ [1] then (if zin ((nI 11) + a1) (zLn st b2) then (if (zM st b2 (((nI 11) + a1)).toNatClampNeg) = (nI 3) then (f_X12_penceOf_27 st o a1 a2) else (if zin ((nI 11) + a1) (zLn st b2) then (if (zM st b2 (((nI 11) + a1)).toNatClampNeg) = (nI 6) then (f_X12_penceOf_27 st o a1 a2) else (some (nI 0))) else none)) else none) else none))) else none)
set_option maxHeartbeats 1000000 in
set_option maxRecDepth 100000 in
theorem c_X12_penceOf (l : Launch) (G : zG) (st : zS) (o : Nat) (a1 : Int32) (a2 : Int32) {r : Int32} (h : f_X12_penceOf st o a1 a2 = some r) : zMet l G yX12_penceOf cX12_penceOf 3 (some .int) 0 0 0 [.ref (G.2.2.2 + o), .int a1, .int a2] st (some (.int r)) st := by
  refine zMet_of (by decide +kernel) ?_
  intro p e s m args below meth c X
  obtain ⟨hx, hb, hr, hml, hown, hq, hlk, hK, -, hin, hW, hS⟩ := X
  have hown : s.vm.findClass RX12 = some m.cls := hown
  refine z_ent (by exact Nat.le_of_ble_eq_true rfl) (fun ls hl => ?_)
  have hl : lv_has ls 3 [(0, .ref (G.2.2.2 + o)), (1, .int a1), (2, .int a2)] := hl
  unfold f_X12_penceOf at h
  have B27 : ∀  (H : Heap) (locs : List Loc) (ls : Array Slot), f_X12_penceOf_27 st o a1 a2  = some r → zWd G st H → va_S (zA G) s.heap H locs → lv_has ls 3 [(0, .ref (G.2.2.2 + o)), (1, .int a1), (2, .int a2)] → W p l e (zRm 0 0 0) s m args below meth c H locs 0 0 (MQ below (zQ G (some (.int r)) st) args s 0 0 (zA G)) (F0 m 27 ls []) := by
    intro  H locs ls h hW hS hl
    unfold f_X12_penceOf_27 at h
    refine lv_iload_n hx hb dX12_penceOf_27 rfl (lv_at hl 2 rfl) ?_
    refine lv_aload_n hx hb dX12_penceOf_28 rfl (lv_at hl 0 rfl) ?_
    obtain ⟨t5, h⟩ := zc_at h
    obtain ⟨b6, hb6, h⟩ := zd_at h
    refine z_gR hx hb hq hown hK hW fs_RX12_9 t5 hb6 dX12_penceOf_29 ?_
    refine lv_bipush (v := (nI 17)) hx hb dX12_penceOf_32 (by decide) ?_
    refine lv_iload_n hx hb dX12_penceOf_34 rfl (lv_at hl 1 rfl) ?_
    refine lv_iadd hx hb dX12_penceOf_35 ?_
    obtain ⟨t7, h⟩ := zc_at h
    obtain ⟨t8, h⟩ := zc_at h
    refine z_alI hx hb hK hW (List.mem_singleton.mp t7) t8 dX12_penceOf_36 ?_
    refine lv_imul hx hb dX12_penceOf_37 ?_
    refine lv_goto (tgt := 42) hx hb dX12_penceOf_38 (by decide) ?_
    obtain rfl := Option.some.inj h
    exact z_ri hx hb hr hlk hW hS (Nat.le_of_ble_eq_true rfl) (Nat.le_of_ble_eq_true rfl) dX12_penceOf_42
  refine lv_aload_n hx hb dX12_penceOf_0 rfl (lv_at hl 0 rfl) ?_
  obtain ⟨t1, h⟩ := zc_at h
  obtain ⟨b2, hb2, h⟩ := zd_at h
  refine z_gR hx hb hq hown hK hW fs_RX12_9 t1 hb2 dX12_penceOf_1 ?_
  refine lv_bipush (v := (nI 11)) hx hb dX12_penceOf_4 (by decide) ?_
  refine lv_iload_n hx hb dX12_penceOf_6 rfl (lv_at hl 1 rfl) ?_
  refine lv_iadd hx hb dX12_penceOf_7 ?_
  obtain ⟨t3, h⟩ := zc_at h
  obtain ⟨t4, h⟩ := zc_at h
  refine z_alI hx hb hK hW (List.mem_singleton.mp t3) t4 dX12_penceOf_8 ?_
  refine lv_iconst (v := (nI 3)) hx hb dX12_penceOf_9 (by decide) ?_
  refine z_br (lv_icmp_eq (tgt := 27) hx hb dX12_penceOf_10 (by decide)) h (fun h => ?_) (fun h => ?_)
  · exact B27  _ _ _ h hW hS (lv_sub hl [0, 1, 2] rfl)
  · refine lv_aload_n hx hb dX12_penceOf_13 rfl (lv_at hl 0 rfl) ?_
    refine z_gR hx hb hq hown hK hW fs_RX12_9 t1 hb2 dX12_penceOf_14 ?_
    refine lv_bipush (v := (nI 11)) hx hb dX12_penceOf_17 (by decide) ?_
    refine lv_iload_n hx hb dX12_penceOf_19 rfl (lv_at hl 1 rfl) ?_
    refine lv_iadd hx hb dX12_penceOf_20 ?_
    obtain ⟨t9, h⟩ := zc_at h
    refine z_alI hx hb hK hW (List.mem_singleton.mp t3) t9 dX12_penceOf_21 ?_
    refine lv_bipush (v := (nI 6)) hx hb dX12_penceOf_22 (by decide) ?_
    refine z_brn (lv_icmp_ne (tgt := 41) hx hb dX12_penceOf_24 (by decide)) h (fun h => ?_) (fun h => ?_)
    · refine lv_iconst (v := (nI 0)) hx hb dX12_penceOf_41 (by decide) ?_
      obtain rfl := Option.some.inj h
      exact z_ri hx hb hr hlk hW hS (Nat.le_of_ble_eq_true rfl) (Nat.le_of_ble_eq_true rfl) dX12_penceOf_42
    · exact B27  _ _ _ h hW hS (lv_sub hl [0, 1, 2] rfl)
def f_X12_of_56 (N : Nat) (st : zS) (o : Nat) (a1 : Int32) (a2 : Int32) (k24 : Int32 → Int32 → Option Int32) (x4 : Int32) (y0 : Int32) (y1 : Int32) : Option Int32 := (zl (y1 + y0) (fun v12 => (k24 v12 (x4 + (nI 1)))))
def f_X12_of_24 (N : Nat) (st : zS) (o : Nat) (a1 : Int32) (a2 : Int32)  : Nat → Int32 → Int32 → Option Int32
  | 0, _, _ => none
  | n24 + 1, x3, x4 => (if zTg st o ∈ [22] then (Option.bind (zR st o 1) (fun b7 => (if zTg st b7 ∈ [1] then (if zin (nI 8) (zLn st b7) then (if (zM st b7 ((nI 8)).toNatClampNeg) ≤ x4 then (if a2 = (nI 3) then (some x3) else (if zin (((nI 11) + ((nI 6) * a2)) + a1) (zLn st b7) then (some (zM st b7 ((((nI 11) + ((nI 6) * a2)) + a1)).toNatClampNeg)) else none)) else (if zin ((nI 53) + x4) (zLn st b7) then (if (zM st b7 (((nI 53) + x4)).toNatClampNeg) = a1 then (f_X12_of_56 N st o a1 a2 (f_X12_of_24 N st o a1 a2 n24) x4 (nI 1) x3) else (f_X12_of_56 N st o a1 a2 (f_X12_of_24 N st o a1 a2 n24) x4 (nI 0) x3)) else none)) else none) else none))) else none)
def f_X12_of (N : Nat) (st : zS) (o : Nat) (a1 : Int32) (a2 : Int32) : Option Int32 := (if zTg st o ∈ [22] then (Option.bind (f_X12_isWay st o a1) (fun r3 => (if r3 = 0 then (some (-1 : Int32)) else (Option.bind (f_X12_in a2 (nI 0) (nI 3)) (fun r5 => (if r5 = 0 then (some (-1 : Int32)) else (f_X12_of_24 N st o a1 a2 N (nI 0) (nI 0)))))))) else none)
set_option maxHeartbeats 1000000 in
set_option maxRecDepth 100000 in
theorem c_X12_of (l : Launch) (G : zG) (N : Nat) (st : zS) (o : Nat) (a1 : Int32) (a2 : Int32) {r : Int32} (h : f_X12_of N st o a1 a2 = some r) : zMet l G yX12_of cX12_of 5 (some .int) 2 0 0 [.ref (G.2.2.2 + o), .int a1, .int a2] st (some (.int r)) st := by
  refine zMet_of (by decide +kernel) ?_
  intro p e s m args below meth c X
  obtain ⟨hx, hb, hr, hml, hown, hq, hlk, hK, -, hin, hW, hS⟩ := X
  have hown : s.vm.findClass RX12 = some m.cls := hown
  refine z_ent (by exact Nat.le_of_ble_eq_true rfl) (fun ls hl => ?_)
  have hl : lv_has ls 5 [(0, .ref (G.2.2.2 + o)), (1, .int a1), (2, .int a2)] := hl
  unfold f_X12_of at h
  have B24 : ∀ (n24 : Nat) (x3 : Int32) (x4 : Int32) (H : Heap) (locs : List Loc) (ls : Array Slot), f_X12_of_24 N st o a1 a2 n24 x3 x4 = some r → zWd G st H → va_S (zA G) s.heap H locs → lv_has ls 5 [(0, .ref (G.2.2.2 + o)), (1, .int a1), (2, .int a2), (3, .int x3), (4, .int x4)] → W p l e (zRm 2 0 0) s m args below meth c H locs 0 0 (MQ below (zQ G (some (.int r)) st) args s 0 0 (zA G)) (F0 m 24 ls []) := by
    intro n24
    induction n24 with
    | zero =>
      intro x3 x4 H locs ls h
      unfold f_X12_of_24 at h
      cases h
    | succ n24 ih24 =>
      have B56 : ∀ (x4 : Int32) (y0 : Int32) (y1 : Int32) (H : Heap) (locs : List Loc) (ls : Array Slot), f_X12_of_56 N st o a1 a2 (f_X12_of_24 N st o a1 a2 n24) x4 y0 y1 = some r → zWd G st H → va_S (zA G) s.heap H locs → lv_has ls 5 [(0, .ref (G.2.2.2 + o)), (1, .int a1), (2, .int a2), (4, .int x4)] → W p l e (zRm 2 0 0) s m args below meth c H locs 0 0 (MQ below (zQ G (some (.int r)) st) args s 0 0 (zA G)) (F0 m 56 ls [.int y0, .int y1]) := by
        intro x4 y0 y1 H locs ls h hW hS hl
        unfold f_X12_of_56 at h
        refine lv_iadd hx hb dX12_of_56 ?_
        refine lv_topi (fun v12 ev12 => ?_)
        have h := zl_at ev12 h
        refine lv_istore_n (lv' := [(3, .int v12), (0, .ref (G.2.2.2 + o)), (1, .int a1), (2, .int a2), (4, .int x4)]) hx hb dX12_of_57 rfl hl (by decide) rfl (fun ls hl => ?_)
        refine lv_iinc (v := (x4 + (nI 1))) (lv' := [(4, .int ((x4 + (nI 1)))), (3, .int v12), (0, .ref (G.2.2.2 + o)), (1, .int a1), (2, .int a2)]) hx hb dX12_of_58 hl (k := 4) rfl rfl (by decide) rfl (fun ls hl => ?_)
        refine lv_goto (tgt := 24) hx hb dX12_of_61 (by decide) ?_
        exact ih24 v12 (x4 + (nI 1)) _ _ _ h hW hS (lv_sub hl [2, 3, 4, 1, 0] rfl)
      intro x3 x4 H locs ls h hW hS hl
      unfold f_X12_of_24 at h
      refine lv_iload hx hb dX12_of_24 (lv_at hl 4 rfl) ?_
      refine lv_aload_n hx hb dX12_of_26 rfl (lv_at hl 0 rfl) ?_
      obtain ⟨t6, h⟩ := zc_at h
      obtain ⟨b7, hb7, h⟩ := zd_at h
      refine z_gR hx hb hq hown hK hW fs_RX12_9 t6 hb7 dX12_of_27 ?_
      refine lv_bipush (v := (nI 8)) hx hb dX12_of_30 (by decide) ?_
      obtain ⟨t8, h⟩ := zc_at h
      obtain ⟨t9, h⟩ := zc_at h
      refine z_alI hx hb hK hW (List.mem_singleton.mp t8) t9 dX12_of_32 ?_
      refine z_br (lv_icmp_ge (tgt := 64) hx hb dX12_of_33 (by decide)) h (fun h => ?_) (fun h => ?_)
      · refine lv_iload_n hx hb dX12_of_64 rfl (lv_at hl 2 rfl) ?_
        refine lv_iconst (v := (nI 3)) hx hb dX12_of_65 (by decide) ?_
        refine z_brn (lv_icmp_ne (tgt := 73) hx hb dX12_of_66 (by decide)) h (fun h => ?_) (fun h => ?_)
        · refine lv_aload_n hx hb dX12_of_73 rfl (lv_at hl 0 rfl) ?_
          refine z_gR hx hb hq hown hK hW fs_RX12_9 t6 hb7 dX12_of_74 ?_
          refine lv_bipush (v := (nI 11)) hx hb dX12_of_77 (by decide) ?_
          refine lv_bipush (v := (nI 6)) hx hb dX12_of_79 (by decide) ?_
          refine lv_iload_n hx hb dX12_of_81 rfl (lv_at hl 2 rfl) ?_
          refine lv_imul hx hb dX12_of_82 ?_
          refine lv_iadd hx hb dX12_of_83 ?_
          refine lv_iload_n hx hb dX12_of_84 rfl (lv_at hl 1 rfl) ?_
          refine lv_iadd hx hb dX12_of_85 ?_
          obtain ⟨t10, h⟩ := zc_at h
          refine z_alI hx hb hK hW (List.mem_singleton.mp t8) t10 dX12_of_86 ?_
          obtain rfl := Option.some.inj h
          exact z_ri hx hb hr hlk hW hS (Nat.le_of_ble_eq_true rfl) (Nat.le_of_ble_eq_true rfl) dX12_of_87
        · refine lv_iload_n hx hb dX12_of_69 rfl (lv_at hl 3 rfl) ?_
          refine lv_goto (tgt := 87) hx hb dX12_of_70 (by decide) ?_
          obtain rfl := Option.some.inj h
          exact z_ri hx hb hr hlk hW hS (Nat.le_of_ble_eq_true rfl) (Nat.le_of_ble_eq_true rfl) dX12_of_87
      · refine lv_iload_n hx hb dX12_of_36 rfl (lv_at hl 3 rfl) ?_
        refine lv_aload_n hx hb dX12_of_37 rfl (lv_at hl 0 rfl) ?_
        refine z_gR hx hb hq hown hK hW fs_RX12_9 t6 hb7 dX12_of_38 ?_
        refine lv_bipush (v := (nI 53)) hx hb dX12_of_41 (by decide) ?_
        refine lv_iload hx hb dX12_of_43 (lv_at hl 4 rfl) ?_
        refine lv_iadd hx hb dX12_of_45 ?_
        obtain ⟨t11, h⟩ := zc_at h
        refine z_alI hx hb hK hW (List.mem_singleton.mp t8) t11 dX12_of_46 ?_
        refine lv_iload_n hx hb dX12_of_47 rfl (lv_at hl 1 rfl) ?_
        refine z_brn (lv_icmp_ne (tgt := 55) hx hb dX12_of_48 (by decide)) h (fun h => ?_) (fun h => ?_)
        · refine lv_iconst (v := (nI 0)) hx hb dX12_of_55 (by decide) ?_
          exact B56 x4 (nI 0) x3 _ _ _ h hW hS (lv_sub hl [0, 1, 2, 4] rfl)
        · refine lv_iconst (v := (nI 1)) hx hb dX12_of_51 (by decide) ?_
          refine lv_goto (tgt := 56) hx hb dX12_of_52 (by decide) ?_
          exact B56 x4 (nI 1) x3 _ _ _ h hW hS (lv_sub hl [0, 1, 2, 4] rfl)
  refine lv_aload_n hx hb dX12_of_0 rfl (lv_at hl 0 rfl) ?_
  refine lv_iload_n hx hb dX12_of_1 rfl (lv_at hl 1 rfl) ?_
  obtain ⟨t1, h⟩ := zc_at h
  obtain ⟨r3, c2, h⟩ := zd_at h
  refine z_cV hx hb hq hml hown hK hW hS 12 [.int a1] [] rfl (List.mem_singleton.mp t1) (c_X12_isWay l G st o a1 c2) (zi zm430) (zi zm431) (zi zm432) (zi zm5) (zi zm433) cal_X12_isWay rfl rfl hl.1 rfl (Nat.le_of_ble_eq_true rfl) (zR_ok (by omega) (by decide)) ⟨(Nat.le_of_ble_eq_true rfl), (Nat.le_of_ble_eq_true rfl)⟩ dX12_of_2 (fun H locs hW hS => ?_)
  refine W.eq (g2 := F0 m 5 ls [.int r3]) rfl ?_
  refine z_br (lv_if_eq (tgt := 17) hx hb dX12_of_5 (by decide)) h (fun h => ?_) (fun h => ?_)
  · refine lv_iconst (v := (-1)) hx hb dX12_of_17 (by decide) ?_
    obtain rfl := Option.some.inj h
    exact z_ri hx hb hr hlk hW hS (Nat.le_of_ble_eq_true rfl) (Nat.le_of_ble_eq_true rfl) dX12_of_18
  · refine lv_iload_n hx hb dX12_of_8 rfl (lv_at hl 2 rfl) ?_
    refine lv_iconst (v := (nI 0)) hx hb dX12_of_9 (by decide) ?_
    refine lv_iconst (v := (nI 3)) hx hb dX12_of_10 (by decide) ?_
    obtain ⟨r5, c4, h⟩ := zd_at h
    refine z_cS hx hb hq hml hown hK hW hS [.int a2, .int ((nI 0)), .int ((nI 3))] [] (c_X12_in l G st a2 (nI 0) (nI 3) c4) (zi zm90) (zi zm91) (zi zm5) (zi zm92) cal_X12_in rfl hl.1 rfl (Nat.le_of_ble_eq_true rfl) (zR_ok (by omega) (by decide)) ⟨(Nat.le_of_ble_eq_true rfl), (Nat.le_of_ble_eq_true rfl)⟩ dX12_of_11 (fun H locs hW hS => ?_)
    refine W.eq (g2 := F0 m 14 ls [.int r5]) rfl ?_
    refine z_brn (lv_if_ne (tgt := 19) hx hb dX12_of_14 (by decide)) h (fun h => ?_) (fun h => ?_)
    · refine lv_iconst (v := (nI 0)) hx hb dX12_of_19 (by decide) ?_
      refine lv_istore_n (lv' := [(3, .int ((nI 0))), (0, .ref (G.2.2.2 + o)), (1, .int a1), (2, .int a2)]) hx hb dX12_of_20 rfl hl (by decide) rfl (fun ls hl => ?_)
      refine lv_iconst (v := (nI 0)) hx hb dX12_of_21 (by decide) ?_
      refine lv_istore (lv' := [(4, .int ((nI 0))), (3, .int ((nI 0))), (0, .ref (G.2.2.2 + o)), (1, .int a1), (2, .int a2)]) hx hb dX12_of_22 hl (by decide) rfl (fun ls hl => ?_)
      exact B24 N (nI 0) (nI 0) _ _ _ h hW hS (lv_sub hl [2, 3, 4, 1, 0] rfl)
    · refine lv_iconst (v := (-1)) hx hb dX12_of_17 (by decide) ?_
      obtain rfl := Option.some.inj h
      exact z_ri hx hb hr hlk hW hS (Nat.le_of_ble_eq_true rfl) (Nat.le_of_ble_eq_true rfl) dX12_of_18
def f_X12_row (st : zS) (o : Nat) (a1 : Int32) (a2 : Int32) (a3 : Int32) : Option (zS × Int32) := (if zTg st o ∈ [22] then (Option.bind (f_X12_isWay st o a1) (fun r3 => (if r3 = 0 then (some (st, (-1 : Int32))) else (Option.bind (f_X12_in a2 (nI 0) (nI 3)) (fun r5 => (if r5 = 0 then (some (st, (-1 : Int32))) else (Option.bind (f_X12_in a3 (nI 0) (nI 9)) (fun r7 => (if r7 = 0 then (some (st, (-2 : Int32))) else (Option.bind (zR st o 1) (fun b8 => (if zTg st b8 ∈ [1] then (if zin ((nI 11) + a1) (zLn st b8) then (if (zM st b8 (((nI 11) + a1)).toNatClampNeg) = (nI 6) then (if zin (((nI 29) + ((nI 4) * a1)) + a2) (zLn st b8) then (zl (zM st b8 ((((nI 29) + ((nI 4) * a1)) + a2)).toNatClampNeg) (fun v12 => (if zin (((nI 29) + ((nI 4) * a1)) + a2) (zLn st b8) then (some ((zPM st b8 ((((nI 29) + ((nI 4) * a1)) + a2)).toNatClampNeg a3), v12)) else none))) else none) else (some (st, (-3 : Int32)))) else none) else none)))))))))))) else none)
set_option maxHeartbeats 1000000 in
set_option maxRecDepth 100000 in
theorem c_X12_row (l : Launch) (G : zG) (st : zS) (o : Nat) (a1 : Int32) (a2 : Int32) (a3 : Int32) {st' : zS} {r : Int32} (h : f_X12_row st o a1 a2 a3 = some (st', r)) : zMet l G yX12_row cX12_row 5 (some .int) 2 0 0 [.ref (G.2.2.2 + o), .int a1, .int a2, .int a3] st (some (.int r)) st' := by
  refine zMet_of (by decide +kernel) ?_
  intro p e s m args below meth c X
  obtain ⟨hx, hb, hr, hml, hown, hq, hlk, hK, -, hin, hW, hS⟩ := X
  have hown : s.vm.findClass RX12 = some m.cls := hown
  refine z_ent (by exact Nat.le_of_ble_eq_true rfl) (fun ls hl => ?_)
  have hl : lv_has ls 5 [(0, .ref (G.2.2.2 + o)), (1, .int a1), (2, .int a2), (3, .int a3)] := hl
  unfold f_X12_row at h
  refine lv_aload_n hx hb dX12_row_0 rfl (lv_at hl 0 rfl) ?_
  refine lv_iload_n hx hb dX12_row_1 rfl (lv_at hl 1 rfl) ?_
  obtain ⟨t1, h⟩ := zc_at h
  obtain ⟨r3, c2, h⟩ := zd_at h
  refine z_cV hx hb hq hml hown hK hW hS 12 [.int a1] [] rfl (List.mem_singleton.mp t1) (c_X12_isWay l G st o a1 c2) (zi zm430) (zi zm431) (zi zm432) (zi zm5) (zi zm433) cal_X12_isWay rfl rfl hl.1 rfl (Nat.le_of_ble_eq_true rfl) (zR_ok (by omega) (by decide)) ⟨(Nat.le_of_ble_eq_true rfl), (Nat.le_of_ble_eq_true rfl)⟩ dX12_row_2 (fun H locs hW hS => ?_)
  refine W.eq (g2 := F0 m 5 ls [.int r3]) rfl ?_
  refine z_br (lv_if_eq (tgt := 17) hx hb dX12_row_5 (by decide)) h (fun h => ?_) (fun h => ?_)
  · refine lv_iconst (v := (-1)) hx hb dX12_row_17 (by decide) ?_
    obtain ⟨rfl, rfl⟩ := Prod.mk.inj (Option.some.inj h)
    exact z_ri hx hb hr hlk hW hS (Nat.le_of_ble_eq_true rfl) (Nat.le_of_ble_eq_true rfl) dX12_row_18
  · refine lv_iload_n hx hb dX12_row_8 rfl (lv_at hl 2 rfl) ?_
    refine lv_iconst (v := (nI 0)) hx hb dX12_row_9 (by decide) ?_
    refine lv_iconst (v := (nI 3)) hx hb dX12_row_10 (by decide) ?_
    obtain ⟨r5, c4, h⟩ := zd_at h
    refine z_cS hx hb hq hml hown hK hW hS [.int a2, .int ((nI 0)), .int ((nI 3))] [] (c_X12_in l G st a2 (nI 0) (nI 3) c4) (zi zm90) (zi zm91) (zi zm5) (zi zm92) cal_X12_in rfl hl.1 rfl (Nat.le_of_ble_eq_true rfl) (zR_ok (by omega) (by decide)) ⟨(Nat.le_of_ble_eq_true rfl), (Nat.le_of_ble_eq_true rfl)⟩ dX12_row_11 (fun H locs hW hS => ?_)
    refine W.eq (g2 := F0 m 14 ls [.int r5]) rfl ?_
    refine z_brn (lv_if_ne (tgt := 19) hx hb dX12_row_14 (by decide)) h (fun h => ?_) (fun h => ?_)
    · refine lv_iload_n hx hb dX12_row_19 rfl (lv_at hl 3 rfl) ?_
      refine lv_iconst (v := (nI 0)) hx hb dX12_row_20 (by decide) ?_
      refine lv_bipush (v := (nI 9)) hx hb dX12_row_21 (by decide) ?_
      obtain ⟨r7, c6, h⟩ := zd_at h
      refine z_cS hx hb hq hml hown hK hW hS [.int a3, .int ((nI 0)), .int ((nI 9))] [] (c_X12_in l G st a3 (nI 0) (nI 9) c6) (zi zm90) (zi zm91) (zi zm5) (zi zm92) cal_X12_in rfl hl.1 rfl (Nat.le_of_ble_eq_true rfl) (zR_ok (by omega) (by decide)) ⟨(Nat.le_of_ble_eq_true rfl), (Nat.le_of_ble_eq_true rfl)⟩ dX12_row_23 (fun H locs hW hS => ?_)
      refine W.eq (g2 := F0 m 26 ls [.int r7]) rfl ?_
      refine z_brn (lv_if_ne (tgt := 32) hx hb dX12_row_26 (by decide)) h (fun h => ?_) (fun h => ?_)
      · refine lv_aload_n hx hb dX12_row_32 rfl (lv_at hl 0 rfl) ?_
        obtain ⟨b8, hb8, h⟩ := zd_at h
        refine z_gR hx hb hq hown hK hW fs_RX12_9 t1 hb8 dX12_row_33 ?_
        refine lv_bipush (v := (nI 11)) hx hb dX12_row_36 (by decide) ?_
        refine lv_iload_n hx hb dX12_row_38 rfl (lv_at hl 1 rfl) ?_
        refine lv_iadd hx hb dX12_row_39 ?_
        obtain ⟨t9, h⟩ := zc_at h
        obtain ⟨t10, h⟩ := zc_at h
        refine z_alI hx hb hK hW (List.mem_singleton.mp t9) t10 dX12_row_40 ?_
        refine lv_bipush (v := (nI 6)) hx hb dX12_row_41 (by decide) ?_
        refine z_br (lv_icmp_eq (tgt := 49) hx hb dX12_row_43 (by decide)) h (fun h => ?_) (fun h => ?_)
        · refine lv_aload_n hx hb dX12_row_49 rfl (lv_at hl 0 rfl) ?_
          refine z_gR hx hb hq hown hK hW fs_RX12_9 t1 hb8 dX12_row_50 ?_
          refine lv_bipush (v := (nI 29)) hx hb dX12_row_53 (by decide) ?_
          refine lv_iconst (v := (nI 4)) hx hb dX12_row_55 (by decide) ?_
          refine lv_iload_n hx hb dX12_row_56 rfl (lv_at hl 1 rfl) ?_
          refine lv_imul hx hb dX12_row_57 ?_
          refine lv_iadd hx hb dX12_row_58 ?_
          refine lv_iload_n hx hb dX12_row_59 rfl (lv_at hl 2 rfl) ?_
          refine lv_iadd hx hb dX12_row_60 ?_
          obtain ⟨t11, h⟩ := zc_at h
          refine z_alI hx hb hK hW (List.mem_singleton.mp t9) t11 dX12_row_61 ?_
          refine lv_topi (fun v12 ev12 => ?_)
          have h := zl_at ev12 h
          refine lv_istore (lv' := [(4, .int v12), (0, .ref (G.2.2.2 + o)), (1, .int a1), (2, .int a2), (3, .int a3)]) hx hb dX12_row_62 hl (by decide) rfl (fun ls hl => ?_)
          refine lv_aload_n hx hb dX12_row_64 rfl (lv_at hl 1 rfl) ?_
          refine z_gR hx hb hq hown hK hW fs_RX12_9 t1 hb8 dX12_row_65 ?_
          refine lv_bipush (v := (nI 29)) hx hb dX12_row_68 (by decide) ?_
          refine lv_iconst (v := (nI 4)) hx hb dX12_row_70 (by decide) ?_
          refine lv_iload_n hx hb dX12_row_71 rfl (lv_at hl 2 rfl) ?_
          refine lv_imul hx hb dX12_row_72 ?_
          refine lv_iadd hx hb dX12_row_73 ?_
          refine lv_iload_n hx hb dX12_row_74 rfl (lv_at hl 3 rfl) ?_
          refine lv_iadd hx hb dX12_row_75 ?_
          refine lv_iload_n hx hb dX12_row_76 rfl (lv_at hl 4 rfl) ?_
          obtain ⟨t13, h⟩ := zc_at h
          refine z_asI hx hb hK hW hS (List.mem_singleton.mp t9) t13 dX12_row_77 (fun H locs hW hS => ?_)
          refine lv_iload hx hb dX12_row_78 (lv_at hl 0 rfl) ?_
          obtain ⟨rfl, rfl⟩ := Prod.mk.inj (Option.some.inj h)
          exact z_ri hx hb hr hlk hW hS (Nat.le_of_ble_eq_true rfl) (Nat.le_of_ble_eq_true rfl) dX12_row_80
        · refine lv_bipush (v := (-3)) hx hb dX12_row_46 (by decide) ?_
          obtain ⟨rfl, rfl⟩ := Prod.mk.inj (Option.some.inj h)
          exact z_ri hx hb hr hlk hW hS (Nat.le_of_ble_eq_true rfl) (Nat.le_of_ble_eq_true rfl) dX12_row_48
      · refine lv_bipush (v := (-2)) hx hb dX12_row_29 (by decide) ?_
        obtain ⟨rfl, rfl⟩ := Prod.mk.inj (Option.some.inj h)
        exact z_ri hx hb hr hlk hW hS (Nat.le_of_ble_eq_true rfl) (Nat.le_of_ble_eq_true rfl) dX12_row_31
    · refine lv_iconst (v := (-1)) hx hb dX12_row_17 (by decide) ?_
      obtain ⟨rfl, rfl⟩ := Prod.mk.inj (Option.some.inj h)
      exact z_ri hx hb hr hlk hW hS (Nat.le_of_ble_eq_true rfl) (Nat.le_of_ble_eq_true rfl) dX12_row_18
def f_X12_write_110 (N : Nat) (o : Nat) (a1 : Int32) (a2 : Int32)  (st : zS) (y0 : Int32) (y1 : Int32) (y2 : Int32) (y3 : Nat) : Option (zS × Int32) := (if zTg st y3 ∈ [1] then (if zin y2 (zLn st y3) then (if zTg (zPM st y3 (y2).toNatClampNeg (y1 + y0)) o ∈ [22] then (Option.bind (zR (zPM st y3 (y2).toNatClampNeg (y1 + y0)) o 1) (fun b18 => (if zTg (zPM st y3 (y2).toNatClampNeg (y1 + y0)) b18 ∈ [1] then (if zin (nI 10) (zLn (zPM st y3 (y2).toNatClampNeg (y1 + y0)) b18) then (if a1 = (-1 : Int32) then (if zin (nI 10) (zLn (zPM st y3 (y2).toNatClampNeg (y1 + y0)) b18) then (if zin (nI 8) (zLn (zPM (zPM st y3 (y2).toNatClampNeg (y1 + y0)) b18 ((nI 10)).toNatClampNeg ((zM (zPM st y3 (y2).toNatClampNeg (y1 + y0)) b18 ((nI 10)).toNatClampNeg) + (nI 0))) b18) then (some ((zPM (zPM st y3 (y2).toNatClampNeg (y1 + y0)) b18 ((nI 10)).toNatClampNeg ((zM (zPM st y3 (y2).toNatClampNeg (y1 + y0)) b18 ((nI 10)).toNatClampNeg) + (nI 0))), (zM (zPM (zPM st y3 (y2).toNatClampNeg (y1 + y0)) b18 ((nI 10)).toNatClampNeg ((zM (zPM st y3 (y2).toNatClampNeg (y1 + y0)) b18 ((nI 10)).toNatClampNeg) + (nI 0))) b18 ((nI 8)).toNatClampNeg))) else none) else none) else (Option.bind (f_X12_penceOf (zPM st y3 (y2).toNatClampNeg (y1 + y0)) o a1 a2) (fun r22 => (if zin (nI 10) (zLn (zPM st y3 (y2).toNatClampNeg (y1 + y0)) b18) then (if zin (nI 8) (zLn (zPM (zPM st y3 (y2).toNatClampNeg (y1 + y0)) b18 ((nI 10)).toNatClampNeg ((zM (zPM st y3 (y2).toNatClampNeg (y1 + y0)) b18 ((nI 10)).toNatClampNeg) + r22)) b18) then (some ((zPM (zPM st y3 (y2).toNatClampNeg (y1 + y0)) b18 ((nI 10)).toNatClampNeg ((zM (zPM st y3 (y2).toNatClampNeg (y1 + y0)) b18 ((nI 10)).toNatClampNeg) + r22)), (zM (zPM (zPM st y3 (y2).toNatClampNeg (y1 + y0)) b18 ((nI 10)).toNatClampNeg ((zM (zPM st y3 (y2).toNatClampNeg (y1 + y0)) b18 ((nI 10)).toNatClampNeg) + r22)) b18 ((nI 8)).toNatClampNeg))) else none) else none)))) else none) else none))) else none) else none) else none)
def f_X12_write_47 (N : Nat) (o : Nat) (a1 : Int32) (a2 : Int32)  : Nat → zS → Int32 → Option (zS × Int32)
  | 0, _, _ => none
  | n47 + 1, st, x3 => (if a2 ≤ x3 then (if zTg st o ∈ [22] then (Option.bind (zR st o 1) (fun b8 => (if zTg st b8 ∈ [1] then (if zin (nI 8) (zLn st b8) then (if zin (nI 8) (zLn st b8) then (if zin (nI 9) (zLn (zPM st b8 ((nI 8)).toNatClampNeg ((zM st b8 ((nI 8)).toNatClampNeg) + a2)) b8) then (if a1 = (-1 : Int32) then (f_X12_write_110 N o a1 a2 (zPM st b8 ((nI 8)).toNatClampNeg ((zM st b8 ((nI 8)).toNatClampNeg) + a2)) (nI 0) (zM (zPM st b8 ((nI 8)).toNatClampNeg ((zM st b8 ((nI 8)).toNatClampNeg) + a2)) b8 ((nI 9)).toNatClampNeg) (nI 9) b8) else (Option.bind (f_X12_secondsOf N (zPM st b8 ((nI 8)).toNatClampNeg ((zM st b8 ((nI 8)).toNatClampNeg) + a2)) o a1 a2) (fun r14 => (f_X12_write_110 N o a1 a2 (zPM st b8 ((nI 8)).toNatClampNeg ((zM st b8 ((nI 8)).toNatClampNeg) + a2)) r14 (zM (zPM st b8 ((nI 8)).toNatClampNeg ((zM st b8 ((nI 8)).toNatClampNeg) + a2)) b8 ((nI 9)).toNatClampNeg) (nI 9) b8)))) else none) else none) else none) else none))) else none) else (if zTg st o ∈ [22] then (Option.bind (zR st o 1) (fun b28 => (if zTg st b28 ∈ [1] then (if zin (nI 8) (zLn st b28) then (if zin (((nI 53) + (zM st b28 ((nI 8)).toNatClampNeg)) + x3) (zLn st b28) then ((f_X12_write_47 N o a1 a2 n47) (zPM st b28 ((((nI 53) + (zM st b28 ((nI 8)).toNatClampNeg)) + x3)).toNatClampNeg a1) (x3 + (nI 1))) else none) else none) else none))) else none))
def f_X12_write_15 (N : Nat) (o : Nat) (a1 : Int32) (a2 : Int32)  (st : zS) : Option (zS × Int32) := (Option.bind (f_X12_in a2 (nI 1) (nI 40)) (fun r2 => (if r2 = 0 then (some (st, (-2 : Int32))) else (if zTg st o ∈ [22] then (Option.bind (zR st o 1) (fun b4 => (if zTg st b4 ∈ [1] then (if zin (nI 8) (zLn st b4) then (if ((zM st b4 ((nI 8)).toNatClampNeg) + a2) ≤ (nI 40) then (f_X12_write_47 N o a1 a2 N st (nI 0)) else (some (st, (-4 : Int32)))) else none) else none))) else none))))
def f_X12_write (N : Nat) (st : zS) (o : Nat) (a1 : Int32) (a2 : Int32) : Option (zS × Int32) := (if a1 = (-1 : Int32) then (f_X12_write_15 N o a1 a2 st) else (if zTg st o ∈ [22] then (Option.bind (f_X12_isWay st o a1) (fun r34 => (if r34 = 0 then (some (st, (-1 : Int32))) else (f_X12_write_15 N o a1 a2 st)))) else none))
set_option maxHeartbeats 1000000 in
set_option maxRecDepth 100000 in
theorem c_X12_write (l : Launch) (G : zG) (N : Nat) (st : zS) (o : Nat) (a1 : Int32) (a2 : Int32) {st' : zS} {r : Int32} (h : f_X12_write N st o a1 a2 = some (st', r)) : zMet l G yX12_write cX12_write 4 (some .int) 2 0 0 [.ref (G.2.2.2 + o), .int a1, .int a2] st (some (.int r)) st' := by
  refine zMet_of (by decide +kernel) ?_
  intro p e s m args below meth c X
  obtain ⟨hx, hb, hr, hml, hown, hq, hlk, hK, -, hin, hW, hS⟩ := X
  have hown : s.vm.findClass RX12 = some m.cls := hown
  refine z_ent (by exact Nat.le_of_ble_eq_true rfl) (fun ls hl => ?_)
  have hl : lv_has ls 4 [(0, .ref (G.2.2.2 + o)), (1, .int a1), (2, .int a2)] := hl
  unfold f_X12_write at h
  have B110 : ∀ (st : zS) (y0 : Int32) (y1 : Int32) (y2 : Int32) (y3 : Nat) (H : Heap) (locs : List Loc) (ls : Array Slot), f_X12_write_110 N o a1 a2 st y0 y1 y2 y3 = some (st', r) → zWd G st H → va_S (zA G) s.heap H locs → lv_has ls 4 [(0, .ref (G.2.2.2 + o)), (1, .int a1), (2, .int a2)] → W p l e (zRm 2 0 0) s m args below meth c H locs 0 0 (MQ below (zQ G (some (.int r)) st') args s 0 0 (zA G)) (F0 m 110 ls [.int y0, .int y1, .int y2, .ref (G.2.2.2 + y3)]) := by
    intro st y0 y1 y2 y3 H locs ls h hW hS hl
    unfold f_X12_write_110 at h
    refine lv_iadd hx hb dX12_write_110 ?_
    obtain ⟨t15, h⟩ := zc_at h
    obtain ⟨t16, h⟩ := zc_at h
    refine z_asI hx hb hK hW hS (List.mem_singleton.mp t15) t16 dX12_write_111 (fun H locs hW hS => ?_)
    refine lv_aload_n hx hb dX12_write_112 rfl (lv_at hl 0 rfl) ?_
    obtain ⟨t17, h⟩ := zc_at h
    obtain ⟨b18, hb18, h⟩ := zd_at h
    refine z_gR hx hb hq hown hK hW fs_RX12_9 t17 hb18 dX12_write_113 ?_
    refine lv_bipush (v := (nI 10)) hx hb dX12_write_116 (by decide) ?_
    refine lv_dup2_11 hx hb dX12_write_118 rfl rfl ?_
    obtain ⟨t19, h⟩ := zc_at h
    obtain ⟨t20, h⟩ := zc_at h
    refine z_alI hx hb hK hW (List.mem_singleton.mp t19) t20 dX12_write_119 ?_
    refine lv_iload_n hx hb dX12_write_120 rfl (lv_at hl 1 rfl) ?_
    refine lv_iconst (v := (-1)) hx hb dX12_write_121 (by decide) ?_
    refine z_brn (lv_icmp_ne (tgt := 129) hx hb dX12_write_122 (by decide)) h (fun h => ?_) (fun h => ?_)
    · refine lv_aload_n hx hb dX12_write_129 rfl (lv_at hl 0 rfl) ?_
      refine lv_iload_n hx hb dX12_write_130 rfl (lv_at hl 1 rfl) ?_
      refine lv_iload_n hx hb dX12_write_131 rfl (lv_at hl 2 rfl) ?_
      obtain ⟨r22, c21, h⟩ := zd_at h
      refine z_cV hx hb hq hml hown hK hW hS 12 [.int a1, .int a2] [.int ((zM (zPM st y3 (y2).toNatClampNeg (y1 + y0)) b18 ((nI 10)).toNatClampNeg)), .int ((nI 10)), .ref (G.2.2.2 + b18)] rfl (List.mem_singleton.mp t17) (c_X12_penceOf l G (zPM st y3 (y2).toNatClampNeg (y1 + y0)) o a1 a2 c21) (zi zm568) (zi zm569) (zi zm570) (zi zm5) (zi zm571) cal_X12_penceOf rfl rfl hl.1 rfl (Nat.le_of_ble_eq_true rfl) (zR_ok (by omega) (by decide)) ⟨(Nat.le_of_ble_eq_true rfl), (Nat.le_of_ble_eq_true rfl)⟩ dX12_write_132 (fun H locs hW hS => ?_)
      refine W.eq (g2 := F0 m 135 ls [.int r22, .int ((zM (zPM st y3 (y2).toNatClampNeg (y1 + y0)) b18 ((nI 10)).toNatClampNeg)), .int ((nI 10)), .ref (G.2.2.2 + b18)]) rfl ?_
      refine lv_iadd hx hb dX12_write_135 ?_
      obtain ⟨t23, h⟩ := zc_at h
      refine z_asI hx hb hK hW hS (List.mem_singleton.mp t19) t23 dX12_write_136 (fun H locs hW hS => ?_)
      refine lv_aload_n hx hb dX12_write_137 rfl (lv_at hl 0 rfl) ?_
      refine z_gR hx hb hq hown hK hW fs_RX12_9 t17 hb18 dX12_write_138 ?_
      refine lv_bipush (v := (nI 8)) hx hb dX12_write_141 (by decide) ?_
      obtain ⟨t24, h⟩ := zc_at h
      refine z_alI hx hb hK hW (List.mem_singleton.mp t19) t24 dX12_write_143 ?_
      obtain ⟨rfl, rfl⟩ := Prod.mk.inj (Option.some.inj h)
      exact z_ri hx hb hr hlk hW hS (Nat.le_of_ble_eq_true rfl) (Nat.le_of_ble_eq_true rfl) dX12_write_144
    · refine lv_iconst (v := (nI 0)) hx hb dX12_write_125 (by decide) ?_
      refine lv_goto (tgt := 135) hx hb dX12_write_126 (by decide) ?_
      refine lv_iadd hx hb dX12_write_135 ?_
      obtain ⟨t25, h⟩ := zc_at h
      refine z_asI hx hb hK hW hS (List.mem_singleton.mp t19) t25 dX12_write_136 (fun H locs hW hS => ?_)
      refine lv_aload_n hx hb dX12_write_137 rfl (lv_at hl 0 rfl) ?_
      refine z_gR hx hb hq hown hK hW fs_RX12_9 t17 hb18 dX12_write_138 ?_
      refine lv_bipush (v := (nI 8)) hx hb dX12_write_141 (by decide) ?_
      obtain ⟨t26, h⟩ := zc_at h
      refine z_alI hx hb hK hW (List.mem_singleton.mp t19) t26 dX12_write_143 ?_
      obtain ⟨rfl, rfl⟩ := Prod.mk.inj (Option.some.inj h)
      exact z_ri hx hb hr hlk hW hS (Nat.le_of_ble_eq_true rfl) (Nat.le_of_ble_eq_true rfl) dX12_write_144
  have B47 : ∀ (n47 : Nat) (st : zS) (x3 : Int32) (H : Heap) (locs : List Loc) (ls : Array Slot), f_X12_write_47 N o a1 a2 n47 st x3 = some (st', r) → zWd G st H → va_S (zA G) s.heap H locs → lv_has ls 4 [(0, .ref (G.2.2.2 + o)), (1, .int a1), (2, .int a2), (3, .int x3)] → W p l e (zRm 2 0 0) s m args below meth c H locs 0 0 (MQ below (zQ G (some (.int r)) st') args s 0 0 (zA G)) (F0 m 47 ls []) := by
    intro n47
    induction n47 with
    | zero =>
      intro st x3 H locs ls h
      unfold f_X12_write_47 at h
      cases h
    | succ n47 ih47 =>
      intro st x3 H locs ls h hW hS hl
      unfold f_X12_write_47 at h
      refine lv_iload_n hx hb dX12_write_47 rfl (lv_at hl 3 rfl) ?_
      refine lv_iload_n hx hb dX12_write_48 rfl (lv_at hl 2 rfl) ?_
      refine z_br (lv_icmp_ge (tgt := 76) hx hb dX12_write_49 (by decide)) h (fun h => ?_) (fun h => ?_)
      · refine lv_aload_n hx hb dX12_write_76 rfl (lv_at hl 0 rfl) ?_
        obtain ⟨t7, h⟩ := zc_at h
        obtain ⟨b8, hb8, h⟩ := zd_at h
        refine z_gR hx hb hq hown hK hW fs_RX12_9 t7 hb8 dX12_write_77 ?_
        refine lv_bipush (v := (nI 8)) hx hb dX12_write_80 (by decide) ?_
        refine lv_dup2_11 hx hb dX12_write_82 rfl rfl ?_
        obtain ⟨t9, h⟩ := zc_at h
        obtain ⟨t10, h⟩ := zc_at h
        refine z_alI hx hb hK hW (List.mem_singleton.mp t9) t10 dX12_write_83 ?_
        refine lv_iload_n hx hb dX12_write_84 rfl (lv_at hl 2 rfl) ?_
        refine lv_iadd hx hb dX12_write_85 ?_
        obtain ⟨t11, h⟩ := zc_at h
        refine z_asI hx hb hK hW hS (List.mem_singleton.mp t9) t11 dX12_write_86 (fun H locs hW hS => ?_)
        refine lv_aload_n hx hb dX12_write_87 rfl (lv_at hl 0 rfl) ?_
        refine z_gR hx hb hq hown hK hW fs_RX12_9 t7 hb8 dX12_write_88 ?_
        refine lv_bipush (v := (nI 9)) hx hb dX12_write_91 (by decide) ?_
        refine lv_dup2_11 hx hb dX12_write_93 rfl rfl ?_
        obtain ⟨t12, h⟩ := zc_at h
        refine z_alI hx hb hK hW (List.mem_singleton.mp t9) t12 dX12_write_94 ?_
        refine lv_iload_n hx hb dX12_write_95 rfl (lv_at hl 1 rfl) ?_
        refine lv_iconst (v := (-1)) hx hb dX12_write_96 (by decide) ?_
        refine z_brn (lv_icmp_ne (tgt := 104) hx hb dX12_write_97 (by decide)) h (fun h => ?_) (fun h => ?_)
        · refine lv_aload_n hx hb dX12_write_104 rfl (lv_at hl 0 rfl) ?_
          refine lv_iload_n hx hb dX12_write_105 rfl (lv_at hl 1 rfl) ?_
          refine lv_iload_n hx hb dX12_write_106 rfl (lv_at hl 2 rfl) ?_
          obtain ⟨r14, c13, h⟩ := zd_at h
          refine z_cV hx hb hq hml hown hK hW hS 12 [.int a1, .int a2] [.int ((zM (zPM st b8 ((nI 8)).toNatClampNeg ((zM st b8 ((nI 8)).toNatClampNeg) + a2)) b8 ((nI 9)).toNatClampNeg)), .int ((nI 9)), .ref (G.2.2.2 + b8)] rfl (List.mem_singleton.mp t7) (c_X12_secondsOf l G N (zPM st b8 ((nI 8)).toNatClampNeg ((zM st b8 ((nI 8)).toNatClampNeg) + a2)) o a1 a2 c13) (zi zm552) (zi zm553) (zi zm554) (zi zm5) (zi zm555) cal_X12_secondsOf rfl rfl hl.1 rfl (Nat.le_of_ble_eq_true rfl) (zR_ok (by omega) (by decide)) ⟨(Nat.le_of_ble_eq_true rfl), (Nat.le_of_ble_eq_true rfl)⟩ dX12_write_107 (fun H locs hW hS => ?_)
          refine W.eq (g2 := F0 m 110 ls [.int r14, .int ((zM (zPM st b8 ((nI 8)).toNatClampNeg ((zM st b8 ((nI 8)).toNatClampNeg) + a2)) b8 ((nI 9)).toNatClampNeg)), .int ((nI 9)), .ref (G.2.2.2 + b8)]) rfl ?_
          exact B110 (zPM st b8 ((nI 8)).toNatClampNeg ((zM st b8 ((nI 8)).toNatClampNeg) + a2)) r14 (zM (zPM st b8 ((nI 8)).toNatClampNeg ((zM st b8 ((nI 8)).toNatClampNeg) + a2)) b8 ((nI 9)).toNatClampNeg) (nI 9) b8 _ _ _ h hW hS (lv_sub hl [0, 1, 2] rfl)
        · refine lv_iconst (v := (nI 0)) hx hb dX12_write_100 (by decide) ?_
          refine lv_goto (tgt := 110) hx hb dX12_write_101 (by decide) ?_
          exact B110 (zPM st b8 ((nI 8)).toNatClampNeg ((zM st b8 ((nI 8)).toNatClampNeg) + a2)) (nI 0) (zM (zPM st b8 ((nI 8)).toNatClampNeg ((zM st b8 ((nI 8)).toNatClampNeg) + a2)) b8 ((nI 9)).toNatClampNeg) (nI 9) b8 _ _ _ h hW hS (lv_sub hl [0, 1, 2] rfl)
      · refine lv_aload_n hx hb dX12_write_52 rfl (lv_at hl 0 rfl) ?_
        obtain ⟨t27, h⟩ := zc_at h
        obtain ⟨b28, hb28, h⟩ := zd_at h
        refine z_gR hx hb hq hown hK hW fs_RX12_9 t27 hb28 dX12_write_53 ?_
        refine lv_bipush (v := (nI 53)) hx hb dX12_write_56 (by decide) ?_
        refine lv_aload_n hx hb dX12_write_58 rfl (lv_at hl 0 rfl) ?_
        refine z_gR hx hb hq hown hK hW fs_RX12_9 t27 hb28 dX12_write_59 ?_
        refine lv_bipush (v := (nI 8)) hx hb dX12_write_62 (by decide) ?_
        obtain ⟨t29, h⟩ := zc_at h
        obtain ⟨t30, h⟩ := zc_at h
        refine z_alI hx hb hK hW (List.mem_singleton.mp t29) t30 dX12_write_64 ?_
        refine lv_iadd hx hb dX12_write_65 ?_
        refine lv_iload_n hx hb dX12_write_66 rfl (lv_at hl 3 rfl) ?_
        refine lv_iadd hx hb dX12_write_67 ?_
        refine lv_iload_n hx hb dX12_write_68 rfl (lv_at hl 1 rfl) ?_
        obtain ⟨t31, h⟩ := zc_at h
        refine z_asI hx hb hK hW hS (List.mem_singleton.mp t29) t31 dX12_write_69 (fun H locs hW hS => ?_)
        refine lv_iinc (v := (x3 + (nI 1))) (lv' := [(3, .int ((x3 + (nI 1)))), (0, .ref (G.2.2.2 + o)), (1, .int a1), (2, .int a2)]) hx hb dX12_write_70 hl (k := 3) rfl rfl (by decide) rfl (fun ls hl => ?_)
        refine lv_goto (tgt := 47) hx hb dX12_write_73 (by decide) ?_
        exact ih47 (zPM st b28 ((((nI 53) + (zM st b28 ((nI 8)).toNatClampNeg)) + x3)).toNatClampNeg a1) (x3 + (nI 1)) _ _ _ h hW hS (lv_sub hl [1, 2, 3, 0] rfl)
  have B15 : ∀ (st : zS) (H : Heap) (locs : List Loc) (ls : Array Slot), f_X12_write_15 N o a1 a2 st = some (st', r) → zWd G st H → va_S (zA G) s.heap H locs → lv_has ls 4 [(0, .ref (G.2.2.2 + o)), (1, .int a1), (2, .int a2)] → W p l e (zRm 2 0 0) s m args below meth c H locs 0 0 (MQ below (zQ G (some (.int r)) st') args s 0 0 (zA G)) (F0 m 15 ls []) := by
    intro st H locs ls h hW hS hl
    unfold f_X12_write_15 at h
    refine lv_iload_n hx hb dX12_write_15 rfl (lv_at hl 2 rfl) ?_
    refine lv_iconst (v := (nI 1)) hx hb dX12_write_16 (by decide) ?_
    refine lv_bipush (v := (nI 40)) hx hb dX12_write_17 (by decide) ?_
    obtain ⟨r2, c1, h⟩ := zd_at h
    refine z_cS hx hb hq hml hown hK hW hS [.int a2, .int ((nI 1)), .int ((nI 40))] [] (c_X12_in l G st a2 (nI 1) (nI 40) c1) (zi zm90) (zi zm91) (zi zm5) (zi zm92) cal_X12_in rfl hl.1 rfl (Nat.le_of_ble_eq_true rfl) (zR_ok (by omega) (by decide)) ⟨(Nat.le_of_ble_eq_true rfl), (Nat.le_of_ble_eq_true rfl)⟩ dX12_write_19 (fun H locs hW hS => ?_)
    refine W.eq (g2 := F0 m 22 ls [.int r2]) rfl ?_
    refine z_brn (lv_if_ne (tgt := 28) hx hb dX12_write_22 (by decide)) h (fun h => ?_) (fun h => ?_)
    · refine lv_aload_n hx hb dX12_write_28 rfl (lv_at hl 0 rfl) ?_
      obtain ⟨t3, h⟩ := zc_at h
      obtain ⟨b4, hb4, h⟩ := zd_at h
      refine z_gR hx hb hq hown hK hW fs_RX12_9 t3 hb4 dX12_write_29 ?_
      refine lv_bipush (v := (nI 8)) hx hb dX12_write_32 (by decide) ?_
      obtain ⟨t5, h⟩ := zc_at h
      obtain ⟨t6, h⟩ := zc_at h
      refine z_alI hx hb hK hW (List.mem_singleton.mp t5) t6 dX12_write_34 ?_
      refine lv_iload_n hx hb dX12_write_35 rfl (lv_at hl 2 rfl) ?_
      refine lv_iadd hx hb dX12_write_36 ?_
      refine lv_bipush (v := (nI 40)) hx hb dX12_write_37 (by decide) ?_
      refine z_br (lv_icmp_le (tgt := 45) hx hb dX12_write_39 (by decide)) h (fun h => ?_) (fun h => ?_)
      · refine lv_iconst (v := (nI 0)) hx hb dX12_write_45 (by decide) ?_
        refine lv_istore_n (lv' := [(3, .int ((nI 0))), (0, .ref (G.2.2.2 + o)), (1, .int a1), (2, .int a2)]) hx hb dX12_write_46 rfl hl (by decide) rfl (fun ls hl => ?_)
        exact B47 N st (nI 0) _ _ _ h hW hS (lv_sub hl [1, 2, 3, 0] rfl)
      · refine lv_bipush (v := (-4)) hx hb dX12_write_42 (by decide) ?_
        obtain ⟨rfl, rfl⟩ := Prod.mk.inj (Option.some.inj h)
        exact z_ri hx hb hr hlk hW hS (Nat.le_of_ble_eq_true rfl) (Nat.le_of_ble_eq_true rfl) dX12_write_44
    · refine lv_bipush (v := (-2)) hx hb dX12_write_25 (by decide) ?_
      obtain ⟨rfl, rfl⟩ := Prod.mk.inj (Option.some.inj h)
      exact z_ri hx hb hr hlk hW hS (Nat.le_of_ble_eq_true rfl) (Nat.le_of_ble_eq_true rfl) dX12_write_27
  refine lv_iload_n hx hb dX12_write_0 rfl (lv_at hl 1 rfl) ?_
  refine lv_iconst (v := (-1)) hx hb dX12_write_1 (by decide) ?_
  refine z_br (lv_icmp_eq (tgt := 15) hx hb dX12_write_2 (by decide)) h (fun h => ?_) (fun h => ?_)
  · exact B15 st _ _ _ h hW hS (lv_sub hl [0, 1, 2] rfl)
  · refine lv_aload_n hx hb dX12_write_5 rfl (lv_at hl 0 rfl) ?_
    refine lv_iload_n hx hb dX12_write_6 rfl (lv_at hl 1 rfl) ?_
    obtain ⟨t32, h⟩ := zc_at h
    obtain ⟨r34, c33, h⟩ := zd_at h
    refine z_cV hx hb hq hml hown hK hW hS 12 [.int a1] [] rfl (List.mem_singleton.mp t32) (c_X12_isWay l G st o a1 c33) (zi zm430) (zi zm431) (zi zm432) (zi zm5) (zi zm433) cal_X12_isWay rfl rfl hl.1 rfl (Nat.le_of_ble_eq_true rfl) (zR_ok (by omega) (by decide)) ⟨(Nat.le_of_ble_eq_true rfl), (Nat.le_of_ble_eq_true rfl)⟩ dX12_write_7 (fun H locs hW hS => ?_)
    refine W.eq (g2 := F0 m 10 ls [.int r34]) rfl ?_
    refine z_brn (lv_if_ne (tgt := 15) hx hb dX12_write_10 (by decide)) h (fun h => ?_) (fun h => ?_)
    · exact B15 st _ _ _ h hW hS (lv_sub hl [0, 1, 2] rfl)
    · refine lv_iconst (v := (-1)) hx hb dX12_write_13 (by decide) ?_
      obtain ⟨rfl, rfl⟩ := Prod.mk.inj (Option.some.inj h)
      exact z_ri hx hb hr hlk hW hS (Nat.le_of_ble_eq_true rfl) (Nat.le_of_ble_eq_true rfl) dX12_write_14
def f_X12_tear (st : zS) (o : Nat) : Option (zS × Int32) := (if zTg st o ∈ [22] then (Option.bind (zR st o 1) (fun b2 => (if zTg st b2 ∈ [1] then (if zin (nI 8) (zLn st b2) then (zl (zM st b2 ((nI 8)).toNatClampNeg) (fun v5 => (if zin (nI 8) (zLn st b2) then (if zin (nI 9) (zLn (zPM st b2 ((nI 8)).toNatClampNeg (nI 0)) b2) then (if zin (nI 10) (zLn (zPM (zPM st b2 ((nI 8)).toNatClampNeg (nI 0)) b2 ((nI 9)).toNatClampNeg (nI 0)) b2) then (if zin (nI 3) (zLn (zPM (zPM (zPM st b2 ((nI 8)).toNatClampNeg (nI 0)) b2 ((nI 9)).toNatClampNeg (nI 0)) b2 ((nI 10)).toNatClampNeg (nI 0)) b2) then (some ((zPM (zPM (zPM (zPM st b2 ((nI 8)).toNatClampNeg (nI 0)) b2 ((nI 9)).toNatClampNeg (nI 0)) b2 ((nI 10)).toNatClampNeg (nI 0)) b2 ((nI 3)).toNatClampNeg (nI 0)), v5)) else none) else none) else none) else none))) else none) else none))) else none)
set_option maxHeartbeats 1000000 in
set_option maxRecDepth 100000 in
theorem c_X12_tear (l : Launch) (G : zG) (st : zS) (o : Nat) {st' : zS} {r : Int32} (h : f_X12_tear st o = some (st', r)) : zMet l G yX12_tear cX12_tear 2 (some .int) 0 0 0 [.ref (G.2.2.2 + o)] st (some (.int r)) st' := by
  refine zMet_of (by decide +kernel) ?_
  intro p e s m args below meth c X
  obtain ⟨hx, hb, hr, hml, hown, hq, hlk, hK, -, hin, hW, hS⟩ := X
  have hown : s.vm.findClass RX12 = some m.cls := hown
  refine z_ent (by exact Nat.le_of_ble_eq_true rfl) (fun ls hl => ?_)
  have hl : lv_has ls 2 [(0, .ref (G.2.2.2 + o))] := hl
  unfold f_X12_tear at h
  refine lv_aload_n hx hb dX12_tear_0 rfl (lv_at hl 0 rfl) ?_
  obtain ⟨t1, h⟩ := zc_at h
  obtain ⟨b2, hb2, h⟩ := zd_at h
  refine z_gR hx hb hq hown hK hW fs_RX12_9 t1 hb2 dX12_tear_1 ?_
  refine lv_bipush (v := (nI 8)) hx hb dX12_tear_4 (by decide) ?_
  obtain ⟨t3, h⟩ := zc_at h
  obtain ⟨t4, h⟩ := zc_at h
  refine z_alI hx hb hK hW (List.mem_singleton.mp t3) t4 dX12_tear_6 ?_
  refine lv_topi (fun v5 ev5 => ?_)
  have h := zl_at ev5 h
  refine lv_istore_n (lv' := [(1, .int v5), (0, .ref (G.2.2.2 + o))]) hx hb dX12_tear_7 rfl hl (by decide) rfl (fun ls hl => ?_)
  refine lv_aload_n hx hb dX12_tear_8 rfl (lv_at hl 1 rfl) ?_
  refine z_gR hx hb hq hown hK hW fs_RX12_9 t1 hb2 dX12_tear_9 ?_
  refine lv_bipush (v := (nI 8)) hx hb dX12_tear_12 (by decide) ?_
  refine lv_iconst (v := (nI 0)) hx hb dX12_tear_14 (by decide) ?_
  obtain ⟨t6, h⟩ := zc_at h
  refine z_asI hx hb hK hW hS (List.mem_singleton.mp t3) t6 dX12_tear_15 (fun H locs hW hS => ?_)
  refine lv_aload_n hx hb dX12_tear_16 rfl (lv_at hl 1 rfl) ?_
  refine z_gR hx hb hq hown hK hW fs_RX12_9 t1 hb2 dX12_tear_17 ?_
  refine lv_bipush (v := (nI 9)) hx hb dX12_tear_20 (by decide) ?_
  refine lv_iconst (v := (nI 0)) hx hb dX12_tear_22 (by decide) ?_
  obtain ⟨t7, h⟩ := zc_at h
  refine z_asI hx hb hK hW hS (List.mem_singleton.mp t3) t7 dX12_tear_23 (fun H locs hW hS => ?_)
  refine lv_aload_n hx hb dX12_tear_24 rfl (lv_at hl 1 rfl) ?_
  refine z_gR hx hb hq hown hK hW fs_RX12_9 t1 hb2 dX12_tear_25 ?_
  refine lv_bipush (v := (nI 10)) hx hb dX12_tear_28 (by decide) ?_
  refine lv_iconst (v := (nI 0)) hx hb dX12_tear_30 (by decide) ?_
  obtain ⟨t8, h⟩ := zc_at h
  refine z_asI hx hb hK hW hS (List.mem_singleton.mp t3) t8 dX12_tear_31 (fun H locs hW hS => ?_)
  refine lv_aload_n hx hb dX12_tear_32 rfl (lv_at hl 1 rfl) ?_
  refine z_gR hx hb hq hown hK hW fs_RX12_9 t1 hb2 dX12_tear_33 ?_
  refine lv_iconst (v := (nI 3)) hx hb dX12_tear_36 (by decide) ?_
  refine lv_iconst (v := (nI 0)) hx hb dX12_tear_37 (by decide) ?_
  obtain ⟨t9, h⟩ := zc_at h
  refine z_asI hx hb hK hW hS (List.mem_singleton.mp t3) t9 dX12_tear_38 (fun H locs hW hS => ?_)
  refine lv_iload_n hx hb dX12_tear_39 rfl (lv_at hl 0 rfl) ?_
  obtain ⟨rfl, rfl⟩ := Prod.mk.inj (Option.some.inj h)
  exact z_ri hx hb hr hlk hW hS (Nat.le_of_ble_eq_true rfl) (Nat.le_of_ble_eq_true rfl) dX12_tear_40
def f_X12_line (N : Nat) (st : zS) (o : Nat) (a1 : Int32) (a2 : Int32) : Option (zS × Int32) := (if zTg st o ∈ [22] then (Option.bind (zR st o 1) (fun b2 => (if zTg st b2 ∈ [1] then (if zin (nI 8) (zLn st b2) then (Option.bind (f_X12_in a1 (nI 0) ((zM st b2 ((nI 8)).toNatClampNeg) - (nI 1))) (fun r6 => (if r6 = 0 then (some (st, (-1 : Int32))) else (Option.bind (f_X12_in a2 (nI 0) (nI 1)) (fun r8 => (if r8 = 0 then (some (st, (-1 : Int32))) else (if a2 = (nI 1) then (zb (f_X12_signAt N st o a1) (fun st12 r13 => (some (st12, r13)))) else (if zin ((nI 53) + a1) (zLn st b2) then (if (zM st b2 (((nI 53) + a1)).toNatClampNeg) = (-1 : Int32) then (some (st, (-5 : Int32))) else (if zin ((nI 53) + a1) (zLn st b2) then (some (st, (zM st b2 (((nI 53) + a1)).toNatClampNeg))) else none)) else none)))))))) else none) else none))) else none)
set_option maxHeartbeats 1000000 in
set_option maxRecDepth 100000 in
theorem c_X12_line (l : Launch) (G : zG) (N : Nat) (st : zS) (o : Nat) (a1 : Int32) (a2 : Int32) {st' : zS} {r : Int32} (h : f_X12_line N st o a1 a2 = some (st', r)) : zMet l G yX12_line cX12_line 3 (some .int) 2 0 0 [.ref (G.2.2.2 + o), .int a1, .int a2] st (some (.int r)) st' := by
  refine zMet_of (by decide +kernel) ?_
  intro p e s m args below meth c X
  obtain ⟨hx, hb, hr, hml, hown, hq, hlk, hK, -, hin, hW, hS⟩ := X
  have hown : s.vm.findClass RX12 = some m.cls := hown
  refine z_ent (by exact Nat.le_of_ble_eq_true rfl) (fun ls hl => ?_)
  have hl : lv_has ls 3 [(0, .ref (G.2.2.2 + o)), (1, .int a1), (2, .int a2)] := hl
  unfold f_X12_line at h
  refine lv_iload_n hx hb dX12_line_0 rfl (lv_at hl 1 rfl) ?_
  refine lv_iconst (v := (nI 0)) hx hb dX12_line_1 (by decide) ?_
  refine lv_aload_n hx hb dX12_line_2 rfl (lv_at hl 0 rfl) ?_
  obtain ⟨t1, h⟩ := zc_at h
  obtain ⟨b2, hb2, h⟩ := zd_at h
  refine z_gR hx hb hq hown hK hW fs_RX12_9 t1 hb2 dX12_line_3 ?_
  refine lv_bipush (v := (nI 8)) hx hb dX12_line_6 (by decide) ?_
  obtain ⟨t3, h⟩ := zc_at h
  obtain ⟨t4, h⟩ := zc_at h
  refine z_alI hx hb hK hW (List.mem_singleton.mp t3) t4 dX12_line_8 ?_
  refine lv_iconst (v := (nI 1)) hx hb dX12_line_9 (by decide) ?_
  refine lv_isub hx hb dX12_line_10 ?_
  obtain ⟨r6, c5, h⟩ := zd_at h
  refine z_cS hx hb hq hml hown hK hW hS [.int a1, .int ((nI 0)), .int (((zM st b2 ((nI 8)).toNatClampNeg) - (nI 1)))] [] (c_X12_in l G st a1 (nI 0) ((zM st b2 ((nI 8)).toNatClampNeg) - (nI 1)) c5) (zi zm90) (zi zm91) (zi zm5) (zi zm92) cal_X12_in rfl hl.1 rfl (Nat.le_of_ble_eq_true rfl) (zR_ok (by omega) (by decide)) ⟨(Nat.le_of_ble_eq_true rfl), (Nat.le_of_ble_eq_true rfl)⟩ dX12_line_11 (fun H locs hW hS => ?_)
  refine W.eq (g2 := F0 m 14 ls [.int r6]) rfl ?_
  refine z_br (lv_if_eq (tgt := 26) hx hb dX12_line_14 (by decide)) h (fun h => ?_) (fun h => ?_)
  · refine lv_iconst (v := (-1)) hx hb dX12_line_26 (by decide) ?_
    obtain ⟨rfl, rfl⟩ := Prod.mk.inj (Option.some.inj h)
    exact z_ri hx hb hr hlk hW hS (Nat.le_of_ble_eq_true rfl) (Nat.le_of_ble_eq_true rfl) dX12_line_27
  · refine lv_iload_n hx hb dX12_line_17 rfl (lv_at hl 2 rfl) ?_
    refine lv_iconst (v := (nI 0)) hx hb dX12_line_18 (by decide) ?_
    refine lv_iconst (v := (nI 1)) hx hb dX12_line_19 (by decide) ?_
    obtain ⟨r8, c7, h⟩ := zd_at h
    refine z_cS hx hb hq hml hown hK hW hS [.int a2, .int ((nI 0)), .int ((nI 1))] [] (c_X12_in l G st a2 (nI 0) (nI 1) c7) (zi zm90) (zi zm91) (zi zm5) (zi zm92) cal_X12_in rfl hl.1 rfl (Nat.le_of_ble_eq_true rfl) (zR_ok (by omega) (by decide)) ⟨(Nat.le_of_ble_eq_true rfl), (Nat.le_of_ble_eq_true rfl)⟩ dX12_line_20 (fun H locs hW hS => ?_)
    refine W.eq (g2 := F0 m 23 ls [.int r8]) rfl ?_
    refine z_brn (lv_if_ne (tgt := 28) hx hb dX12_line_23 (by decide)) h (fun h => ?_) (fun h => ?_)
    · refine lv_iload_n hx hb dX12_line_28 rfl (lv_at hl 2 rfl) ?_
      refine lv_iconst (v := (nI 1)) hx hb dX12_line_29 (by decide) ?_
      refine z_brn (lv_icmp_ne (tgt := 41) hx hb dX12_line_30 (by decide)) h (fun h => ?_) (fun h => ?_)
      · refine lv_aload_n hx hb dX12_line_41 rfl (lv_at hl 0 rfl) ?_
        refine z_gR hx hb hq hown hK hW fs_RX12_9 t1 hb2 dX12_line_42 ?_
        refine lv_bipush (v := (nI 53)) hx hb dX12_line_45 (by decide) ?_
        refine lv_iload_n hx hb dX12_line_47 rfl (lv_at hl 1 rfl) ?_
        refine lv_iadd hx hb dX12_line_48 ?_
        obtain ⟨t9, h⟩ := zc_at h
        refine z_alI hx hb hK hW (List.mem_singleton.mp t3) t9 dX12_line_49 ?_
        refine lv_iconst (v := (-1)) hx hb dX12_line_50 (by decide) ?_
        refine z_brn (lv_icmp_ne (tgt := 59) hx hb dX12_line_51 (by decide)) h (fun h => ?_) (fun h => ?_)
        · refine lv_aload_n hx hb dX12_line_59 rfl (lv_at hl 0 rfl) ?_
          refine z_gR hx hb hq hown hK hW fs_RX12_9 t1 hb2 dX12_line_60 ?_
          refine lv_bipush (v := (nI 53)) hx hb dX12_line_63 (by decide) ?_
          refine lv_iload_n hx hb dX12_line_65 rfl (lv_at hl 1 rfl) ?_
          refine lv_iadd hx hb dX12_line_66 ?_
          obtain ⟨t10, h⟩ := zc_at h
          refine z_alI hx hb hK hW (List.mem_singleton.mp t3) t10 dX12_line_67 ?_
          obtain ⟨rfl, rfl⟩ := Prod.mk.inj (Option.some.inj h)
          exact z_ri hx hb hr hlk hW hS (Nat.le_of_ble_eq_true rfl) (Nat.le_of_ble_eq_true rfl) dX12_line_68
        · refine lv_bipush (v := (-5)) hx hb dX12_line_54 (by decide) ?_
          refine lv_goto (tgt := 68) hx hb dX12_line_56 (by decide) ?_
          obtain ⟨rfl, rfl⟩ := Prod.mk.inj (Option.some.inj h)
          exact z_ri hx hb hr hlk hW hS (Nat.le_of_ble_eq_true rfl) (Nat.le_of_ble_eq_true rfl) dX12_line_68
      · refine lv_aload_n hx hb dX12_line_33 rfl (lv_at hl 0 rfl) ?_
        refine lv_iload_n hx hb dX12_line_34 rfl (lv_at hl 1 rfl) ?_
        obtain ⟨st12, r13, c11, h⟩ := zb_at h
        refine z_cV hx hb hq hml hown hK hW hS 12 [.int a1] [] rfl (List.mem_singleton.mp t1) (c_X12_signAt l G N st o a1 c11) (zi zm624) (zi zm625) (zi zm626) (zi zm5) (zi zm627) cal_X12_signAt rfl rfl hl.1 rfl (Nat.le_of_ble_eq_true rfl) (zR_ok (by omega) (by decide)) ⟨(Nat.le_of_ble_eq_true rfl), (Nat.le_of_ble_eq_true rfl)⟩ dX12_line_35 (fun H locs hW hS => ?_)
        refine W.eq (g2 := F0 m 38 ls [.int r13]) rfl ?_
        refine lv_goto (tgt := 68) hx hb dX12_line_38 (by decide) ?_
        obtain ⟨rfl, rfl⟩ := Prod.mk.inj (Option.some.inj h)
        exact z_ri hx hb hr hlk hW hS (Nat.le_of_ble_eq_true rfl) (Nat.le_of_ble_eq_true rfl) dX12_line_68
    · refine lv_iconst (v := (-1)) hx hb dX12_line_26 (by decide) ?_
      obtain ⟨rfl, rfl⟩ := Prod.mk.inj (Option.some.inj h)
      exact z_ri hx hb hr hlk hW hS (Nat.le_of_ble_eq_true rfl) (Nat.le_of_ble_eq_true rfl) dX12_line_27
def f_X12_missing_34 (N : Nat) (st : zS) (o : Nat) (k4 : Int32 → Int32 → Option Int32) (x2 : Int32) (y0 : Int32) (y1 : Int32) : Option Int32 := (zl (y1 + y0) (fun v6 => (k4 v6 (x2 + (nI 1)))))
def f_X12_missing_4 (N : Nat) (st : zS) (o : Nat)  : Nat → Int32 → Int32 → Option Int32
  | 0, _, _ => none
  | n4 + 1, x1, x2 => (if zTg st o ∈ [22] then (Option.bind (zR st o 1) (fun b2 => (if zTg st b2 ∈ [1] then (if zin (nI 8) (zLn st b2) then (if (zM st b2 ((nI 8)).toNatClampNeg) ≤ x2 then (some x1) else (if zin ((nI 53) + x2) (zLn st b2) then (if (zM st b2 (((nI 53) + x2)).toNatClampNeg) = (-1 : Int32) then (f_X12_missing_34 N st o (f_X12_missing_4 N st o n4) x2 (nI 1) x1) else (f_X12_missing_34 N st o (f_X12_missing_4 N st o n4) x2 (nI 0) x1)) else none)) else none) else none))) else none)
def f_X12_missing (N : Nat) (st : zS) (o : Nat) : Option Int32 := (f_X12_missing_4 N st o N (nI 0) (nI 0))
set_option maxHeartbeats 1000000 in
set_option maxRecDepth 100000 in
theorem c_X12_missing (l : Launch) (G : zG) (N : Nat) (st : zS) (o : Nat) {r : Int32} (h : f_X12_missing N st o = some r) : zMet l G yX12_missing cX12_missing 3 (some .int) 0 0 0 [.ref (G.2.2.2 + o)] st (some (.int r)) st := by
  refine zMet_of (by decide +kernel) ?_
  intro p e s m args below meth c X
  obtain ⟨hx, hb, hr, hml, hown, hq, hlk, hK, -, hin, hW, hS⟩ := X
  have hown : s.vm.findClass RX12 = some m.cls := hown
  refine z_ent (by exact Nat.le_of_ble_eq_true rfl) (fun ls hl => ?_)
  have hl : lv_has ls 3 [(0, .ref (G.2.2.2 + o))] := hl
  unfold f_X12_missing at h
  have B4 : ∀ (n4 : Nat) (x1 : Int32) (x2 : Int32) (H : Heap) (locs : List Loc) (ls : Array Slot), f_X12_missing_4 N st o n4 x1 x2 = some r → zWd G st H → va_S (zA G) s.heap H locs → lv_has ls 3 [(0, .ref (G.2.2.2 + o)), (1, .int x1), (2, .int x2)] → W p l e (zRm 0 0 0) s m args below meth c H locs 0 0 (MQ below (zQ G (some (.int r)) st) args s 0 0 (zA G)) (F0 m 4 ls []) := by
    intro n4
    induction n4 with
    | zero =>
      intro x1 x2 H locs ls h
      unfold f_X12_missing_4 at h
      cases h
    | succ n4 ih4 =>
      have B34 : ∀ (x2 : Int32) (y0 : Int32) (y1 : Int32) (H : Heap) (locs : List Loc) (ls : Array Slot), f_X12_missing_34 N st o (f_X12_missing_4 N st o n4) x2 y0 y1 = some r → zWd G st H → va_S (zA G) s.heap H locs → lv_has ls 3 [(0, .ref (G.2.2.2 + o)), (2, .int x2)] → W p l e (zRm 0 0 0) s m args below meth c H locs 0 0 (MQ below (zQ G (some (.int r)) st) args s 0 0 (zA G)) (F0 m 34 ls [.int y0, .int y1]) := by
        intro x2 y0 y1 H locs ls h hW hS hl
        unfold f_X12_missing_34 at h
        refine lv_iadd hx hb dX12_missing_34 ?_
        refine lv_topi (fun v6 ev6 => ?_)
        have h := zl_at ev6 h
        refine lv_istore_n (lv' := [(1, .int v6), (0, .ref (G.2.2.2 + o)), (2, .int x2)]) hx hb dX12_missing_35 rfl hl (by decide) rfl (fun ls hl => ?_)
        refine lv_iinc (v := (x2 + (nI 1))) (lv' := [(2, .int ((x2 + (nI 1)))), (1, .int v6), (0, .ref (G.2.2.2 + o))]) hx hb dX12_missing_36 hl (k := 2) rfl rfl (by decide) rfl (fun ls hl => ?_)
        refine lv_goto (tgt := 4) hx hb dX12_missing_39 (by decide) ?_
        exact ih4 v6 (x2 + (nI 1)) _ _ _ h hW hS (lv_sub hl [2, 1, 0] rfl)
      intro x1 x2 H locs ls h hW hS hl
      unfold f_X12_missing_4 at h
      refine lv_iload_n hx hb dX12_missing_4 rfl (lv_at hl 2 rfl) ?_
      refine lv_aload_n hx hb dX12_missing_5 rfl (lv_at hl 0 rfl) ?_
      obtain ⟨t1, h⟩ := zc_at h
      obtain ⟨b2, hb2, h⟩ := zd_at h
      refine z_gR hx hb hq hown hK hW fs_RX12_9 t1 hb2 dX12_missing_6 ?_
      refine lv_bipush (v := (nI 8)) hx hb dX12_missing_9 (by decide) ?_
      obtain ⟨t3, h⟩ := zc_at h
      obtain ⟨t4, h⟩ := zc_at h
      refine z_alI hx hb hK hW (List.mem_singleton.mp t3) t4 dX12_missing_11 ?_
      refine z_br (lv_icmp_ge (tgt := 42) hx hb dX12_missing_12 (by decide)) h (fun h => ?_) (fun h => ?_)
      · refine lv_iload_n hx hb dX12_missing_42 rfl (lv_at hl 1 rfl) ?_
        obtain rfl := Option.some.inj h
        exact z_ri hx hb hr hlk hW hS (Nat.le_of_ble_eq_true rfl) (Nat.le_of_ble_eq_true rfl) dX12_missing_43
      · refine lv_iload_n hx hb dX12_missing_15 rfl (lv_at hl 1 rfl) ?_
        refine lv_aload_n hx hb dX12_missing_16 rfl (lv_at hl 0 rfl) ?_
        refine z_gR hx hb hq hown hK hW fs_RX12_9 t1 hb2 dX12_missing_17 ?_
        refine lv_bipush (v := (nI 53)) hx hb dX12_missing_20 (by decide) ?_
        refine lv_iload_n hx hb dX12_missing_22 rfl (lv_at hl 2 rfl) ?_
        refine lv_iadd hx hb dX12_missing_23 ?_
        obtain ⟨t5, h⟩ := zc_at h
        refine z_alI hx hb hK hW (List.mem_singleton.mp t3) t5 dX12_missing_24 ?_
        refine lv_iconst (v := (-1)) hx hb dX12_missing_25 (by decide) ?_
        refine z_brn (lv_icmp_ne (tgt := 33) hx hb dX12_missing_26 (by decide)) h (fun h => ?_) (fun h => ?_)
        · refine lv_iconst (v := (nI 0)) hx hb dX12_missing_33 (by decide) ?_
          exact B34 x2 (nI 0) x1 _ _ _ h hW hS (lv_sub hl [0, 2] rfl)
        · refine lv_iconst (v := (nI 1)) hx hb dX12_missing_29 (by decide) ?_
          refine lv_goto (tgt := 34) hx hb dX12_missing_30 (by decide) ?_
          exact B34 x2 (nI 1) x1 _ _ _ h hW hS (lv_sub hl [0, 2] rfl)
  refine lv_iconst (v := (nI 0)) hx hb dX12_missing_0 (by decide) ?_
  refine lv_istore_n (lv' := [(1, .int ((nI 0))), (0, .ref (G.2.2.2 + o))]) hx hb dX12_missing_1 rfl hl (by decide) rfl (fun ls hl => ?_)
  refine lv_iconst (v := (nI 0)) hx hb dX12_missing_2 (by decide) ?_
  refine lv_istore_n (lv' := [(2, .int ((nI 0))), (1, .int ((nI 0))), (0, .ref (G.2.2.2 + o))]) hx hb dX12_missing_3 rfl hl (by decide) rfl (fun ls hl => ?_)
  exact B4 N (nI 0) (nI 0) _ _ _ h hW hS (lv_sub hl [2, 1, 0] rfl)
def f_X12_isPlace_31 (N : Nat) (st : zS) (o : Nat) (a1 : Int32) (k4 : Int32 → Int32 → Option Int32) (x3 : Int32) (y0 : Int32) : Option Int32 := (k4 y0 (x3 + (nI 1)))
def f_X12_isPlace_26 (N : Nat) (st : zS) (o : Nat) (a1 : Int32) (k4 : Int32 → Int32 → Option Int32) (x3 : Int32) : Option Int32 := (f_X12_isPlace_31 N st o a1 k4 x3 (nI 1))
def f_X12_isPlace_4 (N : Nat) (st : zS) (o : Nat) (a1 : Int32)  : Nat → Int32 → Int32 → Option Int32
  | 0, _, _ => none
  | n4 + 1, x2, x3 => (if zTg st o ∈ [22] then (if (zM st o 12) ≤ x3 then (if zB x2 then (some x2) else none) else (if x2 = 0 then (Option.bind (zR st o 11) (fun b3 => (if zTg st b3 ∈ [1] then (if zin x3 (zLn st b3) then (if (zM st b3 (x3).toNatClampNeg) = a1 then (f_X12_isPlace_26 N st o a1 (f_X12_isPlace_4 N st o a1 n4) x3) else (f_X12_isPlace_31 N st o a1 (f_X12_isPlace_4 N st o a1 n4) x3 (nI 0))) else none) else none))) else (f_X12_isPlace_26 N st o a1 (f_X12_isPlace_4 N st o a1 n4) x3))) else none)
def f_X12_isPlace (N : Nat) (st : zS) (o : Nat) (a1 : Int32) : Option Int32 := (f_X12_isPlace_4 N st o a1 N (nI 0) (nI 0))
set_option maxHeartbeats 1000000 in
set_option maxRecDepth 100000 in
theorem c_X12_isPlace (l : Launch) (G : zG) (N : Nat) (st : zS) (o : Nat) (a1 : Int32) {r : Int32} (h : f_X12_isPlace N st o a1 = some r) : zMet l G yX12_isPlace cX12_isPlace 4 (some .boolean) 0 0 0 [.ref (G.2.2.2 + o), .int a1] st (some (.int r)) st := by
  refine zMet_of (by decide +kernel) ?_
  intro p e s m args below meth c X
  obtain ⟨hx, hb, hr, hml, hown, hq, hlk, hK, -, hin, hW, hS⟩ := X
  have hown : s.vm.findClass RX12 = some m.cls := hown
  refine z_ent (by exact Nat.le_of_ble_eq_true rfl) (fun ls hl => ?_)
  have hl : lv_has ls 4 [(0, .ref (G.2.2.2 + o)), (1, .int a1)] := hl
  unfold f_X12_isPlace at h
  have B4 : ∀ (n4 : Nat) (x2 : Int32) (x3 : Int32) (H : Heap) (locs : List Loc) (ls : Array Slot), f_X12_isPlace_4 N st o a1 n4 x2 x3 = some r → zWd G st H → va_S (zA G) s.heap H locs → lv_has ls 4 [(0, .ref (G.2.2.2 + o)), (1, .int a1), (2, .int x2), (3, .int x3)] → W p l e (zRm 0 0 0) s m args below meth c H locs 0 0 (MQ below (zQ G (some (.int r)) st) args s 0 0 (zA G)) (F0 m 4 ls []) := by
    intro n4
    induction n4 with
    | zero =>
      intro x2 x3 H locs ls h
      unfold f_X12_isPlace_4 at h
      cases h
    | succ n4 ih4 =>
      have B31 : ∀ (x3 : Int32) (y0 : Int32) (H : Heap) (locs : List Loc) (ls : Array Slot), f_X12_isPlace_31 N st o a1 (f_X12_isPlace_4 N st o a1 n4) x3 y0 = some r → zWd G st H → va_S (zA G) s.heap H locs → lv_has ls 4 [(0, .ref (G.2.2.2 + o)), (1, .int a1), (3, .int x3)] → W p l e (zRm 0 0 0) s m args below meth c H locs 0 0 (MQ below (zQ G (some (.int r)) st) args s 0 0 (zA G)) (F0 m 31 ls [.int y0]) := by
        intro x3 y0 H locs ls h hW hS hl
        unfold f_X12_isPlace_31 at h
        refine lv_istore_n (lv' := [(2, .int y0), (0, .ref (G.2.2.2 + o)), (1, .int a1), (3, .int x3)]) hx hb dX12_isPlace_31 rfl hl (by decide) rfl (fun ls hl => ?_)
        refine lv_iinc (v := (x3 + (nI 1))) (lv' := [(3, .int ((x3 + (nI 1)))), (2, .int y0), (0, .ref (G.2.2.2 + o)), (1, .int a1)]) hx hb dX12_isPlace_32 hl (k := 3) rfl rfl (by decide) rfl (fun ls hl => ?_)
        refine lv_goto (tgt := 4) hx hb dX12_isPlace_35 (by decide) ?_
        exact ih4 y0 (x3 + (nI 1)) _ _ _ h hW hS (lv_sub hl [2, 3, 1, 0] rfl)
      have B26 : ∀ (x3 : Int32) (H : Heap) (locs : List Loc) (ls : Array Slot), f_X12_isPlace_26 N st o a1 (f_X12_isPlace_4 N st o a1 n4) x3 = some r → zWd G st H → va_S (zA G) s.heap H locs → lv_has ls 4 [(0, .ref (G.2.2.2 + o)), (1, .int a1), (3, .int x3)] → W p l e (zRm 0 0 0) s m args below meth c H locs 0 0 (MQ below (zQ G (some (.int r)) st) args s 0 0 (zA G)) (F0 m 26 ls []) := by
        intro x3 H locs ls h hW hS hl
        unfold f_X12_isPlace_26 at h
        refine lv_iconst (v := (nI 1)) hx hb dX12_isPlace_26 (by decide) ?_
        refine lv_goto (tgt := 31) hx hb dX12_isPlace_27 (by decide) ?_
        exact B31 x3 (nI 1) _ _ _ h hW hS (lv_sub hl [0, 1, 2] rfl)
      intro x2 x3 H locs ls h hW hS hl
      unfold f_X12_isPlace_4 at h
      refine lv_iload_n hx hb dX12_isPlace_4 rfl (lv_at hl 3 rfl) ?_
      refine lv_aload_n hx hb dX12_isPlace_5 rfl (lv_at hl 0 rfl) ?_
      obtain ⟨t1, h⟩ := zc_at h
      refine z_gI hx hb hq hown hK hW fs_RX12_151 t1 dX12_isPlace_6 ?_
      refine z_br (lv_icmp_ge (tgt := 38) hx hb dX12_isPlace_9 (by decide)) h (fun h => ?_) (fun h => ?_)
      · refine lv_iload_n hx hb dX12_isPlace_38 rfl (lv_at hl 2 rfl) ?_
        obtain ⟨t2, h⟩ := zc_at h
        obtain rfl := Option.some.inj h
        exact z_rz hx hb hr hlk (zB_n t2) hW hS (Nat.le_of_ble_eq_true rfl) (Nat.le_of_ble_eq_true rfl) dX12_isPlace_39
      · refine lv_iload_n hx hb dX12_isPlace_12 rfl (lv_at hl 2 rfl) ?_
        refine z_brn (lv_if_ne (tgt := 26) hx hb dX12_isPlace_13 (by decide)) h (fun h => ?_) (fun h => ?_)
        · exact B26 x3 _ _ _ h hW hS (lv_sub hl [0, 1, 3] rfl)
        · refine lv_aload_n hx hb dX12_isPlace_16 rfl (lv_at hl 0 rfl) ?_
          obtain ⟨b3, hb3, h⟩ := zd_at h
          refine z_gR hx hb hq hown hK hW fs_RX12_25 t1 hb3 dX12_isPlace_17 ?_
          refine lv_iload_n hx hb dX12_isPlace_20 rfl (lv_at hl 3 rfl) ?_
          obtain ⟨t4, h⟩ := zc_at h
          obtain ⟨t5, h⟩ := zc_at h
          refine z_alI hx hb hK hW (List.mem_singleton.mp t4) t5 dX12_isPlace_21 ?_
          refine lv_iload_n hx hb dX12_isPlace_22 rfl (lv_at hl 1 rfl) ?_
          refine z_brn (lv_icmp_ne (tgt := 30) hx hb dX12_isPlace_23 (by decide)) h (fun h => ?_) (fun h => ?_)
          · refine lv_iconst (v := (nI 0)) hx hb dX12_isPlace_30 (by decide) ?_
            exact B31 x3 (nI 0) _ _ _ h hW hS (lv_sub hl [0, 1, 3] rfl)
          · exact B26 x3 _ _ _ h hW hS (lv_sub hl [0, 1, 3] rfl)
  refine lv_iconst (v := (nI 0)) hx hb dX12_isPlace_0 (by decide) ?_
  refine lv_istore_n (lv' := [(2, .int ((nI 0))), (0, .ref (G.2.2.2 + o)), (1, .int a1)]) hx hb dX12_isPlace_1 rfl hl (by decide) rfl (fun ls hl => ?_)
  refine lv_iconst (v := (nI 0)) hx hb dX12_isPlace_2 (by decide) ?_
  refine lv_istore_n (lv' := [(3, .int ((nI 0))), (2, .int ((nI 0))), (0, .ref (G.2.2.2 + o)), (1, .int a1)]) hx hb dX12_isPlace_3 rfl hl (by decide) rfl (fun ls hl => ?_)
  exact B4 N (nI 0) (nI 0) _ _ _ h hW hS (lv_sub hl [2, 3, 1, 0] rfl)
def f_X12_looksForPlaces_117 (N : Nat) (o : Nat) (k19 : zS → Int32 → Int32 → Int32 → Option zS) (st : zS) (x1 : Int32) (x2 : Int32) (x3 : Int32) : Option zS := (k19 st x1 x2 (x3 + (nI 1)))
def f_X12_looksForPlaces_85 (N : Nat) (o : Nat) (k19 : zS → Int32 → Int32 → Int32 → Option zS) (st : zS) (x1 : Int32) (x2 : Int32) (x3 : Int32) (y0 : Int32) : Option zS := (if zTg st o ∈ [22] then (Option.bind (f_X12_isPlace N st o y0) (fun r13 => (if r13 = 0 then (Option.bind (zR st o 11) (fun b14 => (if zTg st b14 ∈ [1] then (if zin (zM st o 12) (zLn st b14) then (f_X12_looksForPlaces_117 N o k19 (zPM (zPM st b14 ((zM st o 12)).toNatClampNeg y0) o 12 ((zM (zPM st b14 ((zM st o 12)).toNatClampNeg y0) o 12) + (nI 1))) x1 x2 x3) else none) else none))) else (f_X12_looksForPlaces_117 N o k19 st x1 x2 x3)))) else none)
def f_X12_looksForPlaces_44 (N : Nat) (o : Nat) (k19 : zS → Int32 → Int32 → Int32 → Option zS) (st : zS) (x1 : Int32) (x2 : Int32) (x3 : Int32) (y0 : Int32) (y1 : Int32) : Option zS := (if y0 ≤ y1 then (some st) else (if x2 ≤ 0 then (if x3 = 0 then (f_X12_looksForPlaces_85 N o k19 st x1 x2 x3 (nI 0)) else (if x3 = (nI 1) then (f_X12_looksForPlaces_85 N o k19 st x1 x2 x3 (x1 - (nI 1))) else (f_X12_looksForPlaces_85 N o k19 st x1 x2 x3 (x1 / (nI 2))))) else (if zTg st o ∈ [22] then (Option.bind (zR st o 1) (fun b18 => (if zTg st b18 ∈ [1] then (if zin ((nI 93) + x3) (zLn st b18) then (f_X12_looksForPlaces_85 N o k19 st x1 x2 x3 (zM st b18 (((nI 93) + x3)).toNatClampNeg)) else none) else none))) else none)))
def f_X12_looksForPlaces_19 (N : Nat) (o : Nat)  : Nat → zS → Int32 → Int32 → Int32 → Option zS
  | 0, _, _, _, _ => none
  | n19 + 1, st, x1, x2, x3 => (if x2 ≤ 0 then (if zTg st o ∈ [22] then (Option.bind (f_X12_lookNow st o) (fun r10 => (if (nI 3) ≤ r10 then (f_X12_looksForPlaces_44 N o (f_X12_looksForPlaces_19 N o n19) st x1 x2 x3 (nI 3) x3) else (Option.bind (f_X12_lookNow st o) (fun r22 => (f_X12_looksForPlaces_44 N o (f_X12_looksForPlaces_19 N o n19) st x1 x2 x3 r22 x3)))))) else none) else (f_X12_looksForPlaces_44 N o (f_X12_looksForPlaces_19 N o n19) st x1 x2 x3 x2 x3))
def f_X12_looksForPlaces (N : Nat) (st : zS) (o : Nat) : Option zS := (if zTg st o ∈ [22] then (Option.bind (f_X12_wantNow (zPM st o 12 (nI 0)) o) (fun r3 => (Option.bind (zR (zPM st o 12 (nI 0)) o 1) (fun b4 => (if zTg (zPM st o 12 (nI 0)) b4 ∈ [1] then (if zin (nI 2) (zLn (zPM st o 12 (nI 0)) b4) then (zl (zM (zPM st o 12 (nI 0)) b4 ((nI 2)).toNatClampNeg) (fun v7 => (f_X12_looksForPlaces_19 N o N (zPM st o 12 (nI 0)) r3 v7 (nI 0)))) else none) else none))))) else none)
set_option maxHeartbeats 1000000 in
set_option maxRecDepth 100000 in
theorem c_X12_looksForPlaces (l : Launch) (G : zG) (N : Nat) (st : zS) (o : Nat) {st' : zS} (h : f_X12_looksForPlaces N st o = some st') : zMet l G yX12_looksForPlaces cX12_looksForPlaces 5 none 2 0 0 [.ref (G.2.2.2 + o)] st none st' := by
  refine zMet_of (by decide +kernel) ?_
  intro p e s m args below meth c X
  obtain ⟨hx, hb, hr, hml, hown, hq, hlk, hK, -, hin, hW, hS⟩ := X
  have hown : s.vm.findClass RX12 = some m.cls := hown
  refine z_ent (by exact Nat.le_of_ble_eq_true rfl) (fun ls hl => ?_)
  have hl : lv_has ls 5 [(0, .ref (G.2.2.2 + o))] := hl
  unfold f_X12_looksForPlaces at h
  have B19 : ∀ (n19 : Nat) (st : zS) (x1 : Int32) (x2 : Int32) (x3 : Int32) (H : Heap) (locs : List Loc) (ls : Array Slot), f_X12_looksForPlaces_19 N o n19 st x1 x2 x3 = some st' → zWd G st H → va_S (zA G) s.heap H locs → lv_has ls 5 [(0, .ref (G.2.2.2 + o)), (1, .int x1), (2, .int x2), (3, .int x3)] → W p l e (zRm 2 0 0) s m args below meth c H locs 0 0 (MQ below (zQ G none st') args s 0 0 (zA G)) (F0 m 19 ls []) := by
    intro n19
    induction n19 with
    | zero =>
      intro st x1 x2 x3 H locs ls h
      unfold f_X12_looksForPlaces_19 at h
      cases h
    | succ n19 ih19 =>
      have B117 : ∀ (st : zS) (x1 : Int32) (x2 : Int32) (x3 : Int32) (H : Heap) (locs : List Loc) (ls : Array Slot), f_X12_looksForPlaces_117 N o (f_X12_looksForPlaces_19 N o n19) st x1 x2 x3 = some st' → zWd G st H → va_S (zA G) s.heap H locs → lv_has ls 5 [(0, .ref (G.2.2.2 + o)), (1, .int x1), (2, .int x2), (3, .int x3)] → W p l e (zRm 2 0 0) s m args below meth c H locs 0 0 (MQ below (zQ G none st') args s 0 0 (zA G)) (F0 m 117 ls []) := by
        intro st x1 x2 x3 H locs ls h hW hS hl
        unfold f_X12_looksForPlaces_117 at h
        refine lv_iinc (v := (x3 + (nI 1))) (lv' := [(3, .int ((x3 + (nI 1)))), (0, .ref (G.2.2.2 + o)), (1, .int x1), (2, .int x2)]) hx hb dX12_looksForPlaces_117 hl (k := 3) rfl rfl (by decide) rfl (fun ls hl => ?_)
        refine lv_goto (tgt := 19) hx hb dX12_looksForPlaces_120 (by decide) ?_
        exact ih19 st x1 x2 (x3 + (nI 1)) _ _ _ h hW hS (lv_sub hl [1, 2, 3, 0] rfl)
      have B85 : ∀ (st : zS) (x1 : Int32) (x2 : Int32) (x3 : Int32) (y0 : Int32) (H : Heap) (locs : List Loc) (ls : Array Slot), f_X12_looksForPlaces_85 N o (f_X12_looksForPlaces_19 N o n19) st x1 x2 x3 y0 = some st' → zWd G st H → va_S (zA G) s.heap H locs → lv_has ls 5 [(0, .ref (G.2.2.2 + o)), (1, .int x1), (2, .int x2), (3, .int x3)] → W p l e (zRm 2 0 0) s m args below meth c H locs 0 0 (MQ below (zQ G none st') args s 0 0 (zA G)) (F0 m 85 ls [.int y0]) := by
        intro st x1 x2 x3 y0 H locs ls h hW hS hl
        unfold f_X12_looksForPlaces_85 at h
        refine lv_istore (lv' := [(4, .int y0), (0, .ref (G.2.2.2 + o)), (1, .int x1), (2, .int x2), (3, .int x3)]) hx hb dX12_looksForPlaces_85 hl (by decide) rfl (fun ls hl => ?_)
        refine lv_aload_n hx hb dX12_looksForPlaces_87 rfl (lv_at hl 1 rfl) ?_
        refine lv_iload hx hb dX12_looksForPlaces_88 (lv_at hl 0 rfl) ?_
        obtain ⟨t11, h⟩ := zc_at h
        obtain ⟨r13, c12, h⟩ := zd_at h
        refine z_cV hx hb hq hml hown hK hW hS 12 [.int y0] [] rfl (List.mem_singleton.mp t11) (c_X12_isPlace l G N st o y0 c12) (zi zm675) (zi zm676) (zi zm677) (zi zm5) (zi zm678) cal_X12_isPlace rfl rfl hl.1 rfl (Nat.le_of_ble_eq_true rfl) (zR_ok (by omega) (by decide)) ⟨(Nat.le_of_ble_eq_true rfl), (Nat.le_of_ble_eq_true rfl)⟩ dX12_looksForPlaces_90 (fun H locs hW hS => ?_)
        refine W.eq (g2 := F0 m 93 ls [.int r13]) rfl ?_
        refine z_brn (lv_if_ne (tgt := 117) hx hb dX12_looksForPlaces_93 (by decide)) h (fun h => ?_) (fun h => ?_)
        · exact B117 st x1 x2 x3 _ _ _ h hW hS (lv_sub hl [1, 2, 3, 4] rfl)
        · refine lv_aload_n hx hb dX12_looksForPlaces_96 rfl (lv_at hl 1 rfl) ?_
          obtain ⟨b14, hb14, h⟩ := zd_at h
          refine z_gR hx hb hq hown hK hW fs_RX12_25 t11 hb14 dX12_looksForPlaces_97 ?_
          refine lv_aload_n hx hb dX12_looksForPlaces_100 rfl (lv_at hl 1 rfl) ?_
          refine z_gI hx hb hq hown hK hW fs_RX12_151 t11 dX12_looksForPlaces_101 ?_
          refine lv_iload hx hb dX12_looksForPlaces_104 (lv_at hl 0 rfl) ?_
          obtain ⟨t15, h⟩ := zc_at h
          obtain ⟨t16, h⟩ := zc_at h
          refine z_asI hx hb hK hW hS (List.mem_singleton.mp t15) t16 dX12_looksForPlaces_106 (fun H locs hW hS => ?_)
          refine lv_aload_n hx hb dX12_looksForPlaces_107 rfl (lv_at hl 1 rfl) ?_
          refine lv_dup hx hb dX12_looksForPlaces_108 rfl ?_
          refine z_gI hx hb hq hown hK hW fs_RX12_151 t11 dX12_looksForPlaces_109 ?_
          refine lv_iconst (v := (nI 1)) hx hb dX12_looksForPlaces_112 (by decide) ?_
          refine lv_iadd hx hb dX12_looksForPlaces_113 ?_
          refine z_pI hx hb hq hown hK hW hS fp_RX12_151 t11 (fun h => by cases h) rfl rfl dX12_looksForPlaces_114 (fun H locs hW hS => ?_)
          exact B117 (zPM (zPM st b14 ((zM st o 12)).toNatClampNeg y0) o 12 ((zM (zPM st b14 ((zM st o 12)).toNatClampNeg y0) o 12) + (nI 1))) x1 x2 x3 _ _ _ h hW hS (lv_sub hl [1, 2, 3, 4] rfl)
      have B44 : ∀ (st : zS) (x1 : Int32) (x2 : Int32) (x3 : Int32) (y0 : Int32) (y1 : Int32) (H : Heap) (locs : List Loc) (ls : Array Slot), f_X12_looksForPlaces_44 N o (f_X12_looksForPlaces_19 N o n19) st x1 x2 x3 y0 y1 = some st' → zWd G st H → va_S (zA G) s.heap H locs → lv_has ls 5 [(0, .ref (G.2.2.2 + o)), (1, .int x1), (2, .int x2), (3, .int x3)] → W p l e (zRm 2 0 0) s m args below meth c H locs 0 0 (MQ below (zQ G none st') args s 0 0 (zA G)) (F0 m 44 ls [.int y0, .int y1]) := by
        intro st x1 x2 x3 y0 y1 H locs ls h hW hS hl
        unfold f_X12_looksForPlaces_44 at h
        refine z_br (lv_icmp_ge (tgt := 123) hx hb dX12_looksForPlaces_44 (by decide)) h (fun h => ?_) (fun h => ?_)
        · obtain rfl := Option.some.inj h
          exact z_rv hx hb hr hlk hW hS (Nat.le_of_ble_eq_true rfl) (Nat.le_of_ble_eq_true rfl) dX12_looksForPlaces_123
        · refine lv_iload_n hx hb dX12_looksForPlaces_47 rfl (lv_at hl 2 rfl) ?_
          refine z_br (lv_if_le (tgt := 63) hx hb dX12_looksForPlaces_48 (by decide)) h (fun h => ?_) (fun h => ?_)
          · refine lv_iload_n hx hb dX12_looksForPlaces_63 rfl (lv_at hl 3 rfl) ?_
            refine z_brn (lv_if_ne (tgt := 71) hx hb dX12_looksForPlaces_64 (by decide)) h (fun h => ?_) (fun h => ?_)
            · refine lv_iload_n hx hb dX12_looksForPlaces_71 rfl (lv_at hl 3 rfl) ?_
              refine lv_iconst (v := (nI 1)) hx hb dX12_looksForPlaces_72 (by decide) ?_
              refine z_brn (lv_icmp_ne (tgt := 82) hx hb dX12_looksForPlaces_73 (by decide)) h (fun h => ?_) (fun h => ?_)
              · refine lv_iload_n hx hb dX12_looksForPlaces_82 rfl (lv_at hl 1 rfl) ?_
                refine lv_iconst (v := (nI 2)) hx hb dX12_looksForPlaces_83 (by decide) ?_
                refine lv_idiv hx hb dX12_looksForPlaces_84 (by decide) ?_
                exact B85 st x1 x2 x3 (x1 / (nI 2)) _ _ _ h hW hS (lv_sub hl [0, 1, 2, 3] rfl)
              · refine lv_iload_n hx hb dX12_looksForPlaces_76 rfl (lv_at hl 1 rfl) ?_
                refine lv_iconst (v := (nI 1)) hx hb dX12_looksForPlaces_77 (by decide) ?_
                refine lv_isub hx hb dX12_looksForPlaces_78 ?_
                refine lv_goto (tgt := 85) hx hb dX12_looksForPlaces_79 (by decide) ?_
                exact B85 st x1 x2 x3 (x1 - (nI 1)) _ _ _ h hW hS (lv_sub hl [0, 1, 2, 3] rfl)
            · refine lv_iconst (v := (nI 0)) hx hb dX12_looksForPlaces_67 (by decide) ?_
              refine lv_goto (tgt := 85) hx hb dX12_looksForPlaces_68 (by decide) ?_
              exact B85 st x1 x2 x3 (nI 0) _ _ _ h hW hS (lv_sub hl [0, 1, 2, 3] rfl)
          · refine lv_aload_n hx hb dX12_looksForPlaces_51 rfl (lv_at hl 0 rfl) ?_
            obtain ⟨t17, h⟩ := zc_at h
            obtain ⟨b18, hb18, h⟩ := zd_at h
            refine z_gR hx hb hq hown hK hW fs_RX12_9 t17 hb18 dX12_looksForPlaces_52 ?_
            refine lv_bipush (v := (nI 93)) hx hb dX12_looksForPlaces_55 (by decide) ?_
            refine lv_iload_n hx hb dX12_looksForPlaces_57 rfl (lv_at hl 3 rfl) ?_
            refine lv_iadd hx hb dX12_looksForPlaces_58 ?_
            obtain ⟨t19, h⟩ := zc_at h
            obtain ⟨t20, h⟩ := zc_at h
            refine z_alI hx hb hK hW (List.mem_singleton.mp t19) t20 dX12_looksForPlaces_59 ?_
            refine lv_goto (tgt := 85) hx hb dX12_looksForPlaces_60 (by decide) ?_
            exact B85 st x1 x2 x3 (zM st b18 (((nI 93) + x3)).toNatClampNeg) _ _ _ h hW hS (lv_sub hl [0, 1, 2, 3] rfl)
      intro st x1 x2 x3 H locs ls h hW hS hl
      unfold f_X12_looksForPlaces_19 at h
      refine lv_iload_n hx hb dX12_looksForPlaces_19 rfl (lv_at hl 3 rfl) ?_
      refine lv_iload_n hx hb dX12_looksForPlaces_20 rfl (lv_at hl 2 rfl) ?_
      refine z_br (lv_if_le (tgt := 28) hx hb dX12_looksForPlaces_21 (by decide)) h (fun h => ?_) (fun h => ?_)
      · refine lv_aload_n hx hb dX12_looksForPlaces_28 rfl (lv_at hl 0 rfl) ?_
        obtain ⟨t8, h⟩ := zc_at h
        obtain ⟨r10, c9, h⟩ := zd_at h
        refine z_cV hx hb hq hml hown hK hW hS 12 [] [.int x3] rfl (List.mem_singleton.mp t8) (c_X12_lookNow l G st o c9) (zi zm671) (zi zm672) (zi zm673) (zi zm5) (zi zm674) cal_X12_lookNow rfl rfl hl.1 rfl (Nat.le_of_ble_eq_true rfl) (zR_ok (by omega) (by decide)) ⟨(Nat.le_of_ble_eq_true rfl), (Nat.le_of_ble_eq_true rfl)⟩ dX12_looksForPlaces_29 (fun H locs hW hS => ?_)
        refine W.eq (g2 := F0 m 32 ls [.int r10, .int x3]) rfl ?_
        refine lv_iconst (v := (nI 3)) hx hb dX12_looksForPlaces_32 (by decide) ?_
        refine z_br (lv_icmp_ge (tgt := 43) hx hb dX12_looksForPlaces_33 (by decide)) h (fun h => ?_) (fun h => ?_)
        · refine lv_iconst (v := (nI 3)) hx hb dX12_looksForPlaces_43 (by decide) ?_
          exact B44 st x1 x2 x3 (nI 3) x3 _ _ _ h hW hS (lv_sub hl [0, 1, 2, 3] rfl)
        · refine lv_aload_n hx hb dX12_looksForPlaces_36 rfl (lv_at hl 0 rfl) ?_
          obtain ⟨r22, c21, h⟩ := zd_at h
          refine z_cV hx hb hq hml hown hK hW hS 12 [] [.int x3] rfl (List.mem_singleton.mp t8) (c_X12_lookNow l G st o c21) (zi zm671) (zi zm672) (zi zm673) (zi zm5) (zi zm674) cal_X12_lookNow rfl rfl hl.1 rfl (Nat.le_of_ble_eq_true rfl) (zR_ok (by omega) (by decide)) ⟨(Nat.le_of_ble_eq_true rfl), (Nat.le_of_ble_eq_true rfl)⟩ dX12_looksForPlaces_37 (fun H locs hW hS => ?_)
          refine W.eq (g2 := F0 m 40 ls [.int r22, .int x3]) rfl ?_
          refine lv_goto (tgt := 44) hx hb dX12_looksForPlaces_40 (by decide) ?_
          exact B44 st x1 x2 x3 r22 x3 _ _ _ h hW hS (lv_sub hl [0, 1, 2, 3] rfl)
      · refine lv_iload_n hx hb dX12_looksForPlaces_24 rfl (lv_at hl 2 rfl) ?_
        refine lv_goto (tgt := 44) hx hb dX12_looksForPlaces_25 (by decide) ?_
        exact B44 st x1 x2 x3 x2 x3 _ _ _ h hW hS (lv_sub hl [0, 1, 2, 3] rfl)
  refine lv_aload_n hx hb dX12_looksForPlaces_0 rfl (lv_at hl 0 rfl) ?_
  refine lv_iconst (v := (nI 0)) hx hb dX12_looksForPlaces_1 (by decide) ?_
  obtain ⟨t1, h⟩ := zc_at h
  refine z_pI hx hb hq hown hK hW hS fp_RX12_151 t1 (fun h => by cases h) rfl rfl dX12_looksForPlaces_2 (fun H locs hW hS => ?_)
  refine lv_aload_n hx hb dX12_looksForPlaces_5 rfl (lv_at hl 0 rfl) ?_
  obtain ⟨r3, c2, h⟩ := zd_at h
  refine z_cV hx hb hq hml hown hK hW hS 12 [] [] rfl (List.mem_singleton.mp t1) (c_X12_wantNow l G (zPM st o 12 (nI 0)) o c2) (zi zm664) (zi zm665) (zi zm666) (zi zm5) (zi zm667) cal_X12_wantNow rfl rfl hl.1 rfl (Nat.le_of_ble_eq_true rfl) (zR_ok (by omega) (by decide)) ⟨(Nat.le_of_ble_eq_true rfl), (Nat.le_of_ble_eq_true rfl)⟩ dX12_looksForPlaces_6 (fun H locs hW hS => ?_)
  refine W.eq (g2 := F0 m 9 ls [.int r3]) rfl ?_
  refine lv_istore_n (lv' := [(1, .int r3), (0, .ref (G.2.2.2 + o))]) hx hb dX12_looksForPlaces_9 rfl hl (by decide) rfl (fun ls hl => ?_)
  refine lv_aload_n hx hb dX12_looksForPlaces_10 rfl (lv_at hl 1 rfl) ?_
  obtain ⟨b4, hb4, h⟩ := zd_at h
  refine z_gR hx hb hq hown hK hW fs_RX12_9 t1 hb4 dX12_looksForPlaces_11 ?_
  refine lv_iconst (v := (nI 2)) hx hb dX12_looksForPlaces_14 (by decide) ?_
  obtain ⟨t5, h⟩ := zc_at h
  obtain ⟨t6, h⟩ := zc_at h
  refine z_alI hx hb hK hW (List.mem_singleton.mp t5) t6 dX12_looksForPlaces_15 ?_
  refine lv_topi (fun v7 ev7 => ?_)
  have h := zl_at ev7 h
  refine lv_istore_n (lv' := [(2, .int v7), (1, .int r3), (0, .ref (G.2.2.2 + o))]) hx hb dX12_looksForPlaces_16 rfl hl (by decide) rfl (fun ls hl => ?_)
  refine lv_iconst (v := (nI 0)) hx hb dX12_looksForPlaces_17 (by decide) ?_
  refine lv_istore_n (lv' := [(3, .int ((nI 0))), (2, .int v7), (1, .int r3), (0, .ref (G.2.2.2 + o))]) hx hb dX12_looksForPlaces_18 rfl hl (by decide) rfl (fun ls hl => ?_)
  exact B19 N (zPM st o 12 (nI 0)) r3 v7 (nI 0) _ _ _ h hW hS (lv_sub hl [3, 2, 1, 0] rfl)
def f_X12_told (N : Nat) (st : zS) (o : Nat) (a1 : Int32) : Option (zS × Int32) := (if zTg st o ∈ [22] then (Option.bind (f_X12_looksForPlaces N st o) (fun st3 => (if zTg st3 o ∈ [22] then (Option.bind (f_X12_in (a1 - (nI 10)) (nI 0) ((zM st3 o 12) - (nI 1))) (fun r6 => (if r6 = 0 then (if a1 = (nI 0) then (Option.bind (zR st3 o 1) (fun b8 => (if zTg st3 b8 ∈ [1] then (if zin (nI 8) (zLn st3 b8) then (some (st3, (zM st3 b8 ((nI 8)).toNatClampNeg))) else none) else none))) else (if a1 = (nI 1) then (Option.bind (zR st3 o 1) (fun b12 => (if zTg st3 b12 ∈ [1] then (if zin (nI 9) (zLn st3 b12) then (some (st3, (zM st3 b12 ((nI 9)).toNatClampNeg))) else none) else none))) else (if a1 = (nI 2) then (Option.bind (zR st3 o 1) (fun b16 => (if zTg st3 b16 ∈ [1] then (if zin (nI 10) (zLn st3 b16) then (some (st3, (zM st3 b16 ((nI 10)).toNatClampNeg))) else none) else none))) else (if a1 = (nI 3) then (Option.bind (f_X12_wantNow st3 o) (fun r21 => (some (st3, r21)))) else (if a1 = (nI 4) then (Option.bind (f_X12_lookNow st3 o) (fun r24 => (some (st3, r24)))) else (if a1 = (nI 5) then (Option.bind (f_X12_tellsOf st3 o (nI 238) (nI 0)) (fun r27 => (some (st3, r27)))) else (if a1 = (nI 6) then (Option.bind (f_X12_missing N st3 o) (fun r30 => (some (st3, r30)))) else (some (st3, (-1 : Int32)))))))))) else (Option.bind (zR st3 o 11) (fun b31 => (if zTg st3 b31 ∈ [1] then (if zin (a1 - (nI 10)) (zLn st3 b31) then (some (st3, (zM st3 b31 ((a1 - (nI 10))).toNatClampNeg))) else none) else none)))))) else none))) else none)
set_option maxHeartbeats 1000000 in
set_option maxRecDepth 100000 in
theorem c_X12_told (l : Launch) (G : zG) (N : Nat) (st : zS) (o : Nat) (a1 : Int32) {st' : zS} {r : Int32} (h : f_X12_told N st o a1 = some (st', r)) : zMet l G yX12_told cX12_told 2 (some .int) 3 0 0 [.ref (G.2.2.2 + o), .int a1] st (some (.int r)) st' := by
  refine zMet_of (by decide +kernel) ?_
  intro p e s m args below meth c X
  obtain ⟨hx, hb, hr, hml, hown, hq, hlk, hK, -, hin, hW, hS⟩ := X
  have hown : s.vm.findClass RX12 = some m.cls := hown
  refine z_ent (by exact Nat.le_of_ble_eq_true rfl) (fun ls hl => ?_)
  have hl : lv_has ls 2 [(0, .ref (G.2.2.2 + o)), (1, .int a1)] := hl
  unfold f_X12_told at h
  refine lv_aload_n hx hb dX12_told_0 rfl (lv_at hl 0 rfl) ?_
  obtain ⟨t1, h⟩ := zc_at h
  obtain ⟨st3, c2, h⟩ := zd_at h
  refine z_cV hx hb hq hml hown hK hW hS 12 [] [] rfl (List.mem_singleton.mp t1) (c_X12_looksForPlaces l G N st o c2) (zi zm660) (zi zm661) (zi zm662) (zi zm5) (zi zm663) cal_X12_looksForPlaces rfl rfl hl.1 rfl (Nat.le_of_ble_eq_true rfl) (zR_ok (by omega) (by decide)) ⟨(Nat.le_of_ble_eq_true rfl), (Nat.le_of_ble_eq_true rfl)⟩ dX12_told_1 (fun H locs hW hS => ?_)
  refine W.eq (g2 := F0 m 4 ls []) rfl ?_
  refine lv_iload_n hx hb dX12_told_4 rfl (lv_at hl 1 rfl) ?_
  refine lv_bipush (v := (nI 10)) hx hb dX12_told_5 (by decide) ?_
  refine lv_isub hx hb dX12_told_7 ?_
  refine lv_iconst (v := (nI 0)) hx hb dX12_told_8 (by decide) ?_
  refine lv_aload_n hx hb dX12_told_9 rfl (lv_at hl 0 rfl) ?_
  obtain ⟨t4, h⟩ := zc_at h
  refine z_gI hx hb hq hown hK hW fs_RX12_151 t4 dX12_told_10 ?_
  refine lv_iconst (v := (nI 1)) hx hb dX12_told_13 (by decide) ?_
  refine lv_isub hx hb dX12_told_14 ?_
  obtain ⟨r6, c5, h⟩ := zd_at h
  refine z_cS hx hb hq hml hown hK hW hS [.int ((a1 - (nI 10))), .int ((nI 0)), .int (((zM st3 o 12) - (nI 1)))] [] (c_X12_in l G st3 (a1 - (nI 10)) (nI 0) ((zM st3 o 12) - (nI 1)) c5) (zi zm90) (zi zm91) (zi zm5) (zi zm92) cal_X12_in rfl hl.1 rfl (Nat.le_of_ble_eq_true rfl) (zR_ok (by omega) (by decide)) ⟨(Nat.le_of_ble_eq_true rfl), (Nat.le_of_ble_eq_true rfl)⟩ dX12_told_15 (fun H locs hW hS => ?_)
  refine W.eq (g2 := F0 m 18 ls [.int r6]) rfl ?_
  refine z_br (lv_if_eq (tgt := 31) hx hb dX12_told_18 (by decide)) h (fun h => ?_) (fun h => ?_)
  · refine lv_iload_n hx hb dX12_told_31 rfl (lv_at hl 1 rfl) ?_
    rcases zi_at h with ⟨k7, h⟩ | ⟨k7, h⟩
    · refine lv_tableIn (off := 44) (tgt := 76) hx hb dX12_told_32 (by rw [k7]; decide) (by rw [k7]; decide) (by rw [k7]; rfl) (by decide) ?_
      refine lv_aload_n hx hb dX12_told_76 rfl (lv_at hl 0 rfl) ?_
      obtain ⟨b8, hb8, h⟩ := zd_at h
      refine z_gR hx hb hq hown hK hW fs_RX12_9 t4 hb8 dX12_told_77 ?_
      refine lv_bipush (v := (nI 8)) hx hb dX12_told_80 (by decide) ?_
      obtain ⟨t9, h⟩ := zc_at h
      obtain ⟨t10, h⟩ := zc_at h
      refine z_alI hx hb hK hW (List.mem_singleton.mp t9) t10 dX12_told_82 ?_
      obtain ⟨rfl, rfl⟩ := Prod.mk.inj (Option.some.inj h)
      exact z_ri hx hb hr hlk hW hS (Nat.le_of_ble_eq_true rfl) (Nat.le_of_ble_eq_true rfl) dX12_told_83
    · rcases zi_at h with ⟨k11, h⟩ | ⟨k11, h⟩
      · refine lv_tableIn (off := 52) (tgt := 84) hx hb dX12_told_32 (by rw [k11]; decide) (by rw [k11]; decide) (by rw [k11]; rfl) (by decide) ?_
        refine lv_aload_n hx hb dX12_told_84 rfl (lv_at hl 0 rfl) ?_
        obtain ⟨b12, hb12, h⟩ := zd_at h
        refine z_gR hx hb hq hown hK hW fs_RX12_9 t4 hb12 dX12_told_85 ?_
        refine lv_bipush (v := (nI 9)) hx hb dX12_told_88 (by decide) ?_
        obtain ⟨t13, h⟩ := zc_at h
        obtain ⟨t14, h⟩ := zc_at h
        refine z_alI hx hb hK hW (List.mem_singleton.mp t13) t14 dX12_told_90 ?_
        obtain ⟨rfl, rfl⟩ := Prod.mk.inj (Option.some.inj h)
        exact z_ri hx hb hr hlk hW hS (Nat.le_of_ble_eq_true rfl) (Nat.le_of_ble_eq_true rfl) dX12_told_91
      · rcases zi_at h with ⟨k15, h⟩ | ⟨k15, h⟩
        · refine lv_tableIn (off := 60) (tgt := 92) hx hb dX12_told_32 (by rw [k15]; decide) (by rw [k15]; decide) (by rw [k15]; rfl) (by decide) ?_
          refine lv_aload_n hx hb dX12_told_92 rfl (lv_at hl 0 rfl) ?_
          obtain ⟨b16, hb16, h⟩ := zd_at h
          refine z_gR hx hb hq hown hK hW fs_RX12_9 t4 hb16 dX12_told_93 ?_
          refine lv_bipush (v := (nI 10)) hx hb dX12_told_96 (by decide) ?_
          obtain ⟨t17, h⟩ := zc_at h
          obtain ⟨t18, h⟩ := zc_at h
          refine z_alI hx hb hK hW (List.mem_singleton.mp t17) t18 dX12_told_98 ?_
          obtain ⟨rfl, rfl⟩ := Prod.mk.inj (Option.some.inj h)
          exact z_ri hx hb hr hlk hW hS (Nat.le_of_ble_eq_true rfl) (Nat.le_of_ble_eq_true rfl) dX12_told_99
        · rcases zi_at h with ⟨k19, h⟩ | ⟨k19, h⟩
          · refine lv_tableIn (off := 68) (tgt := 100) hx hb dX12_told_32 (by rw [k19]; decide) (by rw [k19]; decide) (by rw [k19]; rfl) (by decide) ?_
            refine lv_aload_n hx hb dX12_told_100 rfl (lv_at hl 0 rfl) ?_
            obtain ⟨r21, c20, h⟩ := zd_at h
            refine z_cV hx hb hq hml hown hK hW hS 12 [] [] rfl (List.mem_singleton.mp t4) (c_X12_wantNow l G st3 o c20) (zi zm664) (zi zm665) (zi zm666) (zi zm5) (zi zm667) cal_X12_wantNow rfl rfl hl.1 rfl (Nat.le_of_ble_eq_true rfl) (zR_ok (by omega) (by decide)) ⟨(Nat.le_of_ble_eq_true rfl), (Nat.le_of_ble_eq_true rfl)⟩ dX12_told_101 (fun H locs hW hS => ?_)
            refine W.eq (g2 := F0 m 104 ls [.int r21]) rfl ?_
            obtain ⟨rfl, rfl⟩ := Prod.mk.inj (Option.some.inj h)
            exact z_ri hx hb hr hlk hW hS (Nat.le_of_ble_eq_true rfl) (Nat.le_of_ble_eq_true rfl) dX12_told_104
          · rcases zi_at h with ⟨k22, h⟩ | ⟨k22, h⟩
            · refine lv_tableIn (off := 73) (tgt := 105) hx hb dX12_told_32 (by rw [k22]; decide) (by rw [k22]; decide) (by rw [k22]; rfl) (by decide) ?_
              refine lv_aload_n hx hb dX12_told_105 rfl (lv_at hl 0 rfl) ?_
              obtain ⟨r24, c23, h⟩ := zd_at h
              refine z_cV hx hb hq hml hown hK hW hS 12 [] [] rfl (List.mem_singleton.mp t4) (c_X12_lookNow l G st3 o c23) (zi zm671) (zi zm672) (zi zm673) (zi zm5) (zi zm674) cal_X12_lookNow rfl rfl hl.1 rfl (Nat.le_of_ble_eq_true rfl) (zR_ok (by omega) (by decide)) ⟨(Nat.le_of_ble_eq_true rfl), (Nat.le_of_ble_eq_true rfl)⟩ dX12_told_106 (fun H locs hW hS => ?_)
              refine W.eq (g2 := F0 m 109 ls [.int r24]) rfl ?_
              obtain ⟨rfl, rfl⟩ := Prod.mk.inj (Option.some.inj h)
              exact z_ri hx hb hr hlk hW hS (Nat.le_of_ble_eq_true rfl) (Nat.le_of_ble_eq_true rfl) dX12_told_109
            · rcases zi_at h with ⟨k25, h⟩ | ⟨k25, h⟩
              · refine lv_tableIn (off := 78) (tgt := 110) hx hb dX12_told_32 (by rw [k25]; decide) (by rw [k25]; decide) (by rw [k25]; rfl) (by decide) ?_
                refine lv_aload_n hx hb dX12_told_110 rfl (lv_at hl 0 rfl) ?_
                refine lv_sipush (v := (nI 238)) hx hb dX12_told_111 (by decide) ?_
                refine lv_iconst (v := (nI 0)) hx hb dX12_told_114 (by decide) ?_
                obtain ⟨r27, c26, h⟩ := zd_at h
                refine z_cV hx hb hq hml hown hK hW hS 12 [.int ((nI 238)), .int ((nI 0))] [] rfl (List.mem_singleton.mp t4) (c_X12_tellsOf l G st3 o (nI 238) (nI 0) c26) (zi zm632) (zi zm633) (zi zm634) (zi zm5) (zi zm635) cal_X12_tellsOf rfl rfl hl.1 rfl (Nat.le_of_ble_eq_true rfl) (zR_ok (by omega) (by decide)) ⟨(Nat.le_of_ble_eq_true rfl), (Nat.le_of_ble_eq_true rfl)⟩ dX12_told_115 (fun H locs hW hS => ?_)
                refine W.eq (g2 := F0 m 118 ls [.int r27]) rfl ?_
                obtain ⟨rfl, rfl⟩ := Prod.mk.inj (Option.some.inj h)
                exact z_ri hx hb hr hlk hW hS (Nat.le_of_ble_eq_true rfl) (Nat.le_of_ble_eq_true rfl) dX12_told_118
              · rcases zi_at h with ⟨k28, h⟩ | ⟨k28, h⟩
                · refine lv_tableIn (off := 87) (tgt := 119) hx hb dX12_told_32 (by rw [k28]; decide) (by rw [k28]; decide) (by rw [k28]; rfl) (by decide) ?_
                  refine lv_aload_n hx hb dX12_told_119 rfl (lv_at hl 0 rfl) ?_
                  obtain ⟨r30, c29, h⟩ := zd_at h
                  refine z_cV hx hb hq hml hown hK hW hS 12 [] [] rfl (List.mem_singleton.mp t4) (c_X12_missing l G N st3 o c29) (zi zm679) (zi zm680) (zi zm681) (zi zm5) (zi zm682) cal_X12_missing rfl rfl hl.1 rfl (Nat.le_of_ble_eq_true rfl) (zR_ok (by omega) (by decide)) ⟨(Nat.le_of_ble_eq_true rfl), (Nat.le_of_ble_eq_true rfl)⟩ dX12_told_120 (fun H locs hW hS => ?_)
                  refine W.eq (g2 := F0 m 123 ls [.int r30]) rfl ?_
                  obtain ⟨rfl, rfl⟩ := Prod.mk.inj (Option.some.inj h)
                  exact z_ri hx hb hr hlk hW hS (Nat.le_of_ble_eq_true rfl) (Nat.le_of_ble_eq_true rfl) dX12_told_123
                · refine lv_tableOut (tgt := 124) hx hb dX12_told_32 (by have q0 := lv_neT (a := 0) k7 (by decide); have q1 := lv_neT (a := 1) k11 (by decide); have q2 := lv_neT (a := 2) k15 (by decide); have q3 := lv_neT (a := 3) k19 (by decide); have q4 := lv_neT (a := 4) k22 (by decide); have q5 := lv_neT (a := 5) k25 (by decide); have q6 := lv_neT (a := 6) k28 (by decide); omega) (by decide) ?_
                  refine lv_iconst (v := (-1)) hx hb dX12_told_124 (by decide) ?_
                  obtain ⟨rfl, rfl⟩ := Prod.mk.inj (Option.some.inj h)
                  exact z_ri hx hb hr hlk hW hS (Nat.le_of_ble_eq_true rfl) (Nat.le_of_ble_eq_true rfl) dX12_told_125
  · refine lv_aload_n hx hb dX12_told_21 rfl (lv_at hl 0 rfl) ?_
    obtain ⟨b31, hb31, h⟩ := zd_at h
    refine z_gR hx hb hq hown hK hW fs_RX12_25 t4 hb31 dX12_told_22 ?_
    refine lv_iload_n hx hb dX12_told_25 rfl (lv_at hl 1 rfl) ?_
    refine lv_bipush (v := (nI 10)) hx hb dX12_told_26 (by decide) ?_
    refine lv_isub hx hb dX12_told_28 ?_
    obtain ⟨t32, h⟩ := zc_at h
    obtain ⟨t33, h⟩ := zc_at h
    refine z_alI hx hb hK hW (List.mem_singleton.mp t32) t33 dX12_told_29 ?_
    obtain ⟨rfl, rfl⟩ := Prod.mk.inj (Option.some.inj h)
    exact z_ri hx hb hr hlk hW hS (Nat.le_of_ble_eq_true rfl) (Nat.le_of_ble_eq_true rfl) dX12_told_30
def f_X12_cost (N : Nat) (st : zS) (o : Nat) (a1 : Int32) (a2 : Int32) (a3 : Int32) : Option Int32 := (if zTg st o ∈ [22] then (Option.bind (f_X12_isWay st o a1) (fun r3 => (if r3 = 0 then (some (-1 : Int32)) else (Option.bind (f_X12_in a3 (nI 0) (nI 1)) (fun r5 => (if r5 = 0 then (some (-1 : Int32)) else (Option.bind (f_X12_in a2 (nI 1) (nI 40)) (fun r7 => (if r7 = 0 then (some (-2 : Int32)) else (if a3 = 0 then (Option.bind (f_X12_secondsOf N st o a1 a2) (fun r11 => (some r11))) else (Option.bind (f_X12_penceOf st o a1 a2) (fun r9 => (some r9))))))))))))) else none)
set_option maxHeartbeats 1000000 in
set_option maxRecDepth 100000 in
theorem c_X12_cost (l : Launch) (G : zG) (N : Nat) (st : zS) (o : Nat) (a1 : Int32) (a2 : Int32) (a3 : Int32) {r : Int32} (h : f_X12_cost N st o a1 a2 a3 = some r) : zMet l G yX12_cost cX12_cost 4 (some .int) 2 0 0 [.ref (G.2.2.2 + o), .int a1, .int a2, .int a3] st (some (.int r)) st := by
  refine zMet_of (by decide +kernel) ?_
  intro p e s m args below meth c X
  obtain ⟨hx, hb, hr, hml, hown, hq, hlk, hK, -, hin, hW, hS⟩ := X
  have hown : s.vm.findClass RX12 = some m.cls := hown
  refine z_ent (by exact Nat.le_of_ble_eq_true rfl) (fun ls hl => ?_)
  have hl : lv_has ls 4 [(0, .ref (G.2.2.2 + o)), (1, .int a1), (2, .int a2), (3, .int a3)] := hl
  unfold f_X12_cost at h
  refine lv_aload_n hx hb dX12_cost_0 rfl (lv_at hl 0 rfl) ?_
  refine lv_iload_n hx hb dX12_cost_1 rfl (lv_at hl 1 rfl) ?_
  obtain ⟨t1, h⟩ := zc_at h
  obtain ⟨r3, c2, h⟩ := zd_at h
  refine z_cV hx hb hq hml hown hK hW hS 12 [.int a1] [] rfl (List.mem_singleton.mp t1) (c_X12_isWay l G st o a1 c2) (zi zm430) (zi zm431) (zi zm432) (zi zm5) (zi zm433) cal_X12_isWay rfl rfl hl.1 rfl (Nat.le_of_ble_eq_true rfl) (zR_ok (by omega) (by decide)) ⟨(Nat.le_of_ble_eq_true rfl), (Nat.le_of_ble_eq_true rfl)⟩ dX12_cost_2 (fun H locs hW hS => ?_)
  refine W.eq (g2 := F0 m 5 ls [.int r3]) rfl ?_
  refine z_br (lv_if_eq (tgt := 17) hx hb dX12_cost_5 (by decide)) h (fun h => ?_) (fun h => ?_)
  · refine lv_iconst (v := (-1)) hx hb dX12_cost_17 (by decide) ?_
    obtain rfl := Option.some.inj h
    exact z_ri hx hb hr hlk hW hS (Nat.le_of_ble_eq_true rfl) (Nat.le_of_ble_eq_true rfl) dX12_cost_18
  · refine lv_iload_n hx hb dX12_cost_8 rfl (lv_at hl 3 rfl) ?_
    refine lv_iconst (v := (nI 0)) hx hb dX12_cost_9 (by decide) ?_
    refine lv_iconst (v := (nI 1)) hx hb dX12_cost_10 (by decide) ?_
    obtain ⟨r5, c4, h⟩ := zd_at h
    refine z_cS hx hb hq hml hown hK hW hS [.int a3, .int ((nI 0)), .int ((nI 1))] [] (c_X12_in l G st a3 (nI 0) (nI 1) c4) (zi zm90) (zi zm91) (zi zm5) (zi zm92) cal_X12_in rfl hl.1 rfl (Nat.le_of_ble_eq_true rfl) (zR_ok (by omega) (by decide)) ⟨(Nat.le_of_ble_eq_true rfl), (Nat.le_of_ble_eq_true rfl)⟩ dX12_cost_11 (fun H locs hW hS => ?_)
    refine W.eq (g2 := F0 m 14 ls [.int r5]) rfl ?_
    refine z_brn (lv_if_ne (tgt := 19) hx hb dX12_cost_14 (by decide)) h (fun h => ?_) (fun h => ?_)
    · refine lv_iload_n hx hb dX12_cost_19 rfl (lv_at hl 2 rfl) ?_
      refine lv_iconst (v := (nI 1)) hx hb dX12_cost_20 (by decide) ?_
      refine lv_bipush (v := (nI 40)) hx hb dX12_cost_21 (by decide) ?_
      obtain ⟨r7, c6, h⟩ := zd_at h
      refine z_cS hx hb hq hml hown hK hW hS [.int a2, .int ((nI 1)), .int ((nI 40))] [] (c_X12_in l G st a2 (nI 1) (nI 40) c6) (zi zm90) (zi zm91) (zi zm5) (zi zm92) cal_X12_in rfl hl.1 rfl (Nat.le_of_ble_eq_true rfl) (zR_ok (by omega) (by decide)) ⟨(Nat.le_of_ble_eq_true rfl), (Nat.le_of_ble_eq_true rfl)⟩ dX12_cost_23 (fun H locs hW hS => ?_)
      refine W.eq (g2 := F0 m 26 ls [.int r7]) rfl ?_
      refine z_brn (lv_if_ne (tgt := 32) hx hb dX12_cost_26 (by decide)) h (fun h => ?_) (fun h => ?_)
      · refine lv_iload_n hx hb dX12_cost_32 rfl (lv_at hl 3 rfl) ?_
        refine z_brn (lv_if_ne (tgt := 45) hx hb dX12_cost_33 (by decide)) h (fun h => ?_) (fun h => ?_)
        · refine lv_aload_n hx hb dX12_cost_45 rfl (lv_at hl 0 rfl) ?_
          refine lv_iload_n hx hb dX12_cost_46 rfl (lv_at hl 1 rfl) ?_
          refine lv_iload_n hx hb dX12_cost_47 rfl (lv_at hl 2 rfl) ?_
          obtain ⟨r9, c8, h⟩ := zd_at h
          refine z_cV hx hb hq hml hown hK hW hS 12 [.int a1, .int a2] [] rfl (List.mem_singleton.mp t1) (c_X12_penceOf l G st o a1 a2 c8) (zi zm568) (zi zm569) (zi zm570) (zi zm5) (zi zm571) cal_X12_penceOf rfl rfl hl.1 rfl (Nat.le_of_ble_eq_true rfl) (zR_ok (by omega) (by decide)) ⟨(Nat.le_of_ble_eq_true rfl), (Nat.le_of_ble_eq_true rfl)⟩ dX12_cost_48 (fun H locs hW hS => ?_)
          refine W.eq (g2 := F0 m 51 ls [.int r9]) rfl ?_
          obtain rfl := Option.some.inj h
          exact z_ri hx hb hr hlk hW hS (Nat.le_of_ble_eq_true rfl) (Nat.le_of_ble_eq_true rfl) dX12_cost_51
        · refine lv_aload_n hx hb dX12_cost_36 rfl (lv_at hl 0 rfl) ?_
          refine lv_iload_n hx hb dX12_cost_37 rfl (lv_at hl 1 rfl) ?_
          refine lv_iload_n hx hb dX12_cost_38 rfl (lv_at hl 2 rfl) ?_
          obtain ⟨r11, c10, h⟩ := zd_at h
          refine z_cV hx hb hq hml hown hK hW hS 12 [.int a1, .int a2] [] rfl (List.mem_singleton.mp t1) (c_X12_secondsOf l G N st o a1 a2 c10) (zi zm552) (zi zm553) (zi zm554) (zi zm5) (zi zm555) cal_X12_secondsOf rfl rfl hl.1 rfl (Nat.le_of_ble_eq_true rfl) (zR_ok (by omega) (by decide)) ⟨(Nat.le_of_ble_eq_true rfl), (Nat.le_of_ble_eq_true rfl)⟩ dX12_cost_39 (fun H locs hW hS => ?_)
          refine W.eq (g2 := F0 m 42 ls [.int r11]) rfl ?_
          refine lv_goto (tgt := 51) hx hb dX12_cost_42 (by decide) ?_
          obtain rfl := Option.some.inj h
          exact z_ri hx hb hr hlk hW hS (Nat.le_of_ble_eq_true rfl) (Nat.le_of_ble_eq_true rfl) dX12_cost_51
      · refine lv_bipush (v := (-2)) hx hb dX12_cost_29 (by decide) ?_
        obtain rfl := Option.some.inj h
        exact z_ri hx hb hr hlk hW hS (Nat.le_of_ble_eq_true rfl) (Nat.le_of_ble_eq_true rfl) dX12_cost_31
    · refine lv_iconst (v := (-1)) hx hb dX12_cost_17 (by decide) ?_
      obtain rfl := Option.some.inj h
      exact z_ri hx hb hr hlk hW hS (Nat.le_of_ble_eq_true rfl) (Nat.le_of_ble_eq_true rfl) dX12_cost_18
def f_X12_looks_29 (N : Nat) (o : Nat) (a1 : Int32)  : Nat → zS → Int32 → Option (zS × Int32)
  | 0, _, _ => none
  | n29 + 1, st, x2 => (if zTg st o ∈ [22] then (Option.bind (zR st o 1) (fun b4 => (if zTg st b4 ∈ [1] then (if zin (nI 2) (zLn st b4) then (if (zM st b4 ((nI 2)).toNatClampNeg) ≤ x2 then (if zin (nI 2) (zLn st b4) then (if (zM st b4 ((nI 2)).toNatClampNeg) = (nI 5) then (some (st, (-4 : Int32))) else (if zin (nI 2) (zLn st b4) then (if zin ((nI 93) + (zM st b4 ((nI 2)).toNatClampNeg)) (zLn st b4) then (if zin (nI 2) (zLn (zPM st b4 (((nI 93) + (zM st b4 ((nI 2)).toNatClampNeg))).toNatClampNeg a1) b4) then (if zin (nI 2) (zLn (zPM st b4 (((nI 93) + (zM st b4 ((nI 2)).toNatClampNeg))).toNatClampNeg a1) b4) then (if zin (nI 2) (zLn (zPM (zPM st b4 (((nI 93) + (zM st b4 ((nI 2)).toNatClampNeg))).toNatClampNeg a1) b4 ((nI 2)).toNatClampNeg ((zM (zPM st b4 (((nI 93) + (zM st b4 ((nI 2)).toNatClampNeg))).toNatClampNeg a1) b4 ((nI 2)).toNatClampNeg) + (nI 1))) b4) then (some ((zPM (zPM st b4 (((nI 93) + (zM st b4 ((nI 2)).toNatClampNeg))).toNatClampNeg a1) b4 ((nI 2)).toNatClampNeg ((zM (zPM st b4 (((nI 93) + (zM st b4 ((nI 2)).toNatClampNeg))).toNatClampNeg a1) b4 ((nI 2)).toNatClampNeg) + (nI 1))), (zM (zPM (zPM st b4 (((nI 93) + (zM st b4 ((nI 2)).toNatClampNeg))).toNatClampNeg a1) b4 ((nI 2)).toNatClampNeg ((zM (zPM st b4 (((nI 93) + (zM st b4 ((nI 2)).toNatClampNeg))).toNatClampNeg a1) b4 ((nI 2)).toNatClampNeg) + (nI 1))) b4 ((nI 2)).toNatClampNeg))) else none) else none) else none) else none) else none)) else none) else (if zin ((nI 93) + x2) (zLn st b4) then (if (zM st b4 (((nI 93) + x2)).toNatClampNeg) = a1 then (some (st, (-2 : Int32))) else ((f_X12_looks_29 N o a1 n29) st (x2 + (nI 1)))) else none)) else none) else none))) else none)
def f_X12_looks (N : Nat) (st : zS) (o : Nat) (a1 : Int32) : Option (zS × Int32) := (if a1 = (-1 : Int32) then (if zTg st o ∈ [22] then (Option.bind (zR st o 1) (fun b15 => (if zTg st b15 ∈ [1] then (if zin (nI 2) (zLn st b15) then (some ((zPM st b15 ((nI 2)).toNatClampNeg (nI 0)), (nI 0))) else none) else none))) else none) else (Option.bind (f_X12_in a1 (nI 0) (nI 39)) (fun r2 => (if r2 = 0 then (some (st, (-2 : Int32))) else (f_X12_looks_29 N o a1 N st (nI 0))))))
set_option maxHeartbeats 1000000 in
set_option maxRecDepth 100000 in
theorem c_X12_looks (l : Launch) (G : zG) (N : Nat) (st : zS) (o : Nat) (a1 : Int32) {st' : zS} {r : Int32} (h : f_X12_looks N st o a1 = some (st', r)) : zMet l G yX12_looks cX12_looks 3 (some .int) 1 0 0 [.ref (G.2.2.2 + o), .int a1] st (some (.int r)) st' := by
  refine zMet_of (by decide +kernel) ?_
  intro p e s m args below meth c X
  obtain ⟨hx, hb, hr, hml, hown, hq, hlk, hK, -, hin, hW, hS⟩ := X
  have hown : s.vm.findClass RX12 = some m.cls := hown
  refine z_ent (by exact Nat.le_of_ble_eq_true rfl) (fun ls hl => ?_)
  have hl : lv_has ls 3 [(0, .ref (G.2.2.2 + o)), (1, .int a1)] := hl
  unfold f_X12_looks at h
  have B29 : ∀ (n29 : Nat) (st : zS) (x2 : Int32) (H : Heap) (locs : List Loc) (ls : Array Slot), f_X12_looks_29 N o a1 n29 st x2 = some (st', r) → zWd G st H → va_S (zA G) s.heap H locs → lv_has ls 3 [(0, .ref (G.2.2.2 + o)), (1, .int a1), (2, .int x2)] → W p l e (zRm 1 0 0) s m args below meth c H locs 0 0 (MQ below (zQ G (some (.int r)) st') args s 0 0 (zA G)) (F0 m 29 ls []) := by
    intro n29
    induction n29 with
    | zero =>
      intro st x2 H locs ls h
      unfold f_X12_looks_29 at h
      cases h
    | succ n29 ih29 =>
      intro st x2 H locs ls h hW hS hl
      unfold f_X12_looks_29 at h
      refine lv_iload_n hx hb dX12_looks_29 rfl (lv_at hl 2 rfl) ?_
      refine lv_aload_n hx hb dX12_looks_30 rfl (lv_at hl 0 rfl) ?_
      obtain ⟨t3, h⟩ := zc_at h
      obtain ⟨b4, hb4, h⟩ := zd_at h
      refine z_gR hx hb hq hown hK hW fs_RX12_9 t3 hb4 dX12_looks_31 ?_
      refine lv_iconst (v := (nI 2)) hx hb dX12_looks_34 (by decide) ?_
      obtain ⟨t5, h⟩ := zc_at h
      obtain ⟨t6, h⟩ := zc_at h
      refine z_alI hx hb hK hW (List.mem_singleton.mp t5) t6 dX12_looks_35 ?_
      refine z_br (lv_icmp_ge (tgt := 61) hx hb dX12_looks_36 (by decide)) h (fun h => ?_) (fun h => ?_)
      · refine lv_aload_n hx hb dX12_looks_61 rfl (lv_at hl 0 rfl) ?_
        refine z_gR hx hb hq hown hK hW fs_RX12_9 t3 hb4 dX12_looks_62 ?_
        refine lv_iconst (v := (nI 2)) hx hb dX12_looks_65 (by decide) ?_
        obtain ⟨t7, h⟩ := zc_at h
        refine z_alI hx hb hK hW (List.mem_singleton.mp t5) t7 dX12_looks_66 ?_
        refine lv_iconst (v := (nI 5)) hx hb dX12_looks_67 (by decide) ?_
        refine z_brn (lv_icmp_ne (tgt := 74) hx hb dX12_looks_68 (by decide)) h (fun h => ?_) (fun h => ?_)
        · refine lv_aload_n hx hb dX12_looks_74 rfl (lv_at hl 0 rfl) ?_
          refine z_gR hx hb hq hown hK hW fs_RX12_9 t3 hb4 dX12_looks_75 ?_
          refine lv_bipush (v := (nI 93)) hx hb dX12_looks_78 (by decide) ?_
          refine lv_aload_n hx hb dX12_looks_80 rfl (lv_at hl 0 rfl) ?_
          refine z_gR hx hb hq hown hK hW fs_RX12_9 t3 hb4 dX12_looks_81 ?_
          refine lv_iconst (v := (nI 2)) hx hb dX12_looks_84 (by decide) ?_
          obtain ⟨t8, h⟩ := zc_at h
          refine z_alI hx hb hK hW (List.mem_singleton.mp t5) t8 dX12_looks_85 ?_
          refine lv_iadd hx hb dX12_looks_86 ?_
          refine lv_iload_n hx hb dX12_looks_87 rfl (lv_at hl 1 rfl) ?_
          obtain ⟨t9, h⟩ := zc_at h
          refine z_asI hx hb hK hW hS (List.mem_singleton.mp t5) t9 dX12_looks_88 (fun H locs hW hS => ?_)
          refine lv_aload_n hx hb dX12_looks_89 rfl (lv_at hl 0 rfl) ?_
          refine z_gR hx hb hq hown hK hW fs_RX12_9 t3 hb4 dX12_looks_90 ?_
          refine lv_iconst (v := (nI 2)) hx hb dX12_looks_93 (by decide) ?_
          refine lv_dup2_11 hx hb dX12_looks_94 rfl rfl ?_
          obtain ⟨t10, h⟩ := zc_at h
          refine z_alI hx hb hK hW (List.mem_singleton.mp t5) t10 dX12_looks_95 ?_
          refine lv_iconst (v := (nI 1)) hx hb dX12_looks_96 (by decide) ?_
          refine lv_iadd hx hb dX12_looks_97 ?_
          obtain ⟨t11, h⟩ := zc_at h
          refine z_asI hx hb hK hW hS (List.mem_singleton.mp t5) t11 dX12_looks_98 (fun H locs hW hS => ?_)
          refine lv_aload_n hx hb dX12_looks_99 rfl (lv_at hl 0 rfl) ?_
          refine z_gR hx hb hq hown hK hW fs_RX12_9 t3 hb4 dX12_looks_100 ?_
          refine lv_iconst (v := (nI 2)) hx hb dX12_looks_103 (by decide) ?_
          obtain ⟨t12, h⟩ := zc_at h
          refine z_alI hx hb hK hW (List.mem_singleton.mp t5) t12 dX12_looks_104 ?_
          obtain ⟨rfl, rfl⟩ := Prod.mk.inj (Option.some.inj h)
          exact z_ri hx hb hr hlk hW hS (Nat.le_of_ble_eq_true rfl) (Nat.le_of_ble_eq_true rfl) dX12_looks_105
        · refine lv_bipush (v := (-4)) hx hb dX12_looks_71 (by decide) ?_
          obtain ⟨rfl, rfl⟩ := Prod.mk.inj (Option.some.inj h)
          exact z_ri hx hb hr hlk hW hS (Nat.le_of_ble_eq_true rfl) (Nat.le_of_ble_eq_true rfl) dX12_looks_73
      · refine lv_aload_n hx hb dX12_looks_39 rfl (lv_at hl 0 rfl) ?_
        refine z_gR hx hb hq hown hK hW fs_RX12_9 t3 hb4 dX12_looks_40 ?_
        refine lv_bipush (v := (nI 93)) hx hb dX12_looks_43 (by decide) ?_
        refine lv_iload_n hx hb dX12_looks_45 rfl (lv_at hl 2 rfl) ?_
        refine lv_iadd hx hb dX12_looks_46 ?_
        obtain ⟨t13, h⟩ := zc_at h
        refine z_alI hx hb hK hW (List.mem_singleton.mp t5) t13 dX12_looks_47 ?_
        refine lv_iload_n hx hb dX12_looks_48 rfl (lv_at hl 1 rfl) ?_
        refine z_brn (lv_icmp_ne (tgt := 55) hx hb dX12_looks_49 (by decide)) h (fun h => ?_) (fun h => ?_)
        · refine lv_iinc (v := (x2 + (nI 1))) (lv' := [(2, .int ((x2 + (nI 1)))), (0, .ref (G.2.2.2 + o)), (1, .int a1)]) hx hb dX12_looks_55 hl (k := 2) rfl rfl (by decide) rfl (fun ls hl => ?_)
          refine lv_goto (tgt := 29) hx hb dX12_looks_58 (by decide) ?_
          exact ih29 st (x2 + (nI 1)) _ _ _ h hW hS (lv_sub hl [1, 2, 0] rfl)
        · refine lv_bipush (v := (-2)) hx hb dX12_looks_52 (by decide) ?_
          obtain ⟨rfl, rfl⟩ := Prod.mk.inj (Option.some.inj h)
          exact z_ri hx hb hr hlk hW hS (Nat.le_of_ble_eq_true rfl) (Nat.le_of_ble_eq_true rfl) dX12_looks_54
  refine lv_iload_n hx hb dX12_looks_0 rfl (lv_at hl 1 rfl) ?_
  refine lv_iconst (v := (-1)) hx hb dX12_looks_1 (by decide) ?_
  refine z_brn (lv_icmp_ne (tgt := 14) hx hb dX12_looks_2 (by decide)) h (fun h => ?_) (fun h => ?_)
  · refine lv_iload_n hx hb dX12_looks_14 rfl (lv_at hl 1 rfl) ?_
    refine lv_iconst (v := (nI 0)) hx hb dX12_looks_15 (by decide) ?_
    refine lv_bipush (v := (nI 39)) hx hb dX12_looks_16 (by decide) ?_
    obtain ⟨r2, c1, h⟩ := zd_at h
    refine z_cS hx hb hq hml hown hK hW hS [.int a1, .int ((nI 0)), .int ((nI 39))] [] (c_X12_in l G st a1 (nI 0) (nI 39) c1) (zi zm90) (zi zm91) (zi zm5) (zi zm92) cal_X12_in rfl hl.1 rfl (Nat.le_of_ble_eq_true rfl) (zR_ok (by omega) (by decide)) ⟨(Nat.le_of_ble_eq_true rfl), (Nat.le_of_ble_eq_true rfl)⟩ dX12_looks_18 (fun H locs hW hS => ?_)
    refine W.eq (g2 := F0 m 21 ls [.int r2]) rfl ?_
    refine z_brn (lv_if_ne (tgt := 27) hx hb dX12_looks_21 (by decide)) h (fun h => ?_) (fun h => ?_)
    · refine lv_iconst (v := (nI 0)) hx hb dX12_looks_27 (by decide) ?_
      refine lv_istore_n (lv' := [(2, .int ((nI 0))), (0, .ref (G.2.2.2 + o)), (1, .int a1)]) hx hb dX12_looks_28 rfl hl (by decide) rfl (fun ls hl => ?_)
      exact B29 N st (nI 0) _ _ _ h hW hS (lv_sub hl [1, 2, 0] rfl)
    · refine lv_bipush (v := (-2)) hx hb dX12_looks_24 (by decide) ?_
      obtain ⟨rfl, rfl⟩ := Prod.mk.inj (Option.some.inj h)
      exact z_ri hx hb hr hlk hW hS (Nat.le_of_ble_eq_true rfl) (Nat.le_of_ble_eq_true rfl) dX12_looks_26
  · refine lv_aload_n hx hb dX12_looks_5 rfl (lv_at hl 0 rfl) ?_
    obtain ⟨t14, h⟩ := zc_at h
    obtain ⟨b15, hb15, h⟩ := zd_at h
    refine z_gR hx hb hq hown hK hW fs_RX12_9 t14 hb15 dX12_looks_6 ?_
    refine lv_iconst (v := (nI 2)) hx hb dX12_looks_9 (by decide) ?_
    refine lv_iconst (v := (nI 0)) hx hb dX12_looks_10 (by decide) ?_
    obtain ⟨t16, h⟩ := zc_at h
    obtain ⟨t17, h⟩ := zc_at h
    refine z_asI hx hb hK hW hS (List.mem_singleton.mp t16) t17 dX12_looks_11 (fun H locs hW hS => ?_)
    refine lv_iconst (v := (nI 0)) hx hb dX12_looks_12 (by decide) ?_
    obtain ⟨rfl, rfl⟩ := Prod.mk.inj (Option.some.inj h)
    exact z_ri hx hb hr hlk hW hS (Nat.le_of_ble_eq_true rfl) (Nat.le_of_ble_eq_true rfl) dX12_looks_13
def f_X12_lowest_17 (N : Nat) (a0 : Int64) (a2 : Int64) (a4 : Int32)  : Nat → Int64 → Int64 → Option Int64
  | 0, _, _ => none
  | n17 + 1, x5, x7 => (if (lg_cmp x7 (lN 0)) = 0 then (if a4 = 0 then (if ¬ x5 = 0 then (some (a0 / x5)) else none) else (if ¬ x5 = 0 then (some (a2 / x5)) else none)) else (if ¬ x7 = 0 then (zl (x5 - x5 / x7 * x7) (fun v4 => ((f_X12_lowest_17 N a0 a2 a4 n17) x7 v4))) else none))
def f_X12_lowest_12 (N : Nat) (a0 : Int64) (a2 : Int64) (a4 : Int32)  (y0 : Int64) : Option Int64 := (f_X12_lowest_17 N a0 a2 a4 N y0 a2)
def f_X12_lowest (N : Nat) (a0 : Int64) (a2 : Int64) (a4 : Int32) : Option Int64 := (if 0 ≤ (lg_cmp a0 (lN 0)) then (f_X12_lowest_12 N a0 a2 a4 a0) else (f_X12_lowest_12 N a0 a2 a4 (-a0)))
set_option maxHeartbeats 1000000 in
set_option maxRecDepth 100000 in
theorem c_X12_lowest (l : Launch) (G : zG) (N : Nat) (st : zS) (a0 : Int64) (a2 : Int64) (a4 : Int32) {r : Int64} (h : f_X12_lowest N a0 a2 a4 = some r) : zMet l G yX12_lowest cX12_lowest 11 (some .long) 0 0 0 [.long (a0), .long (a2), .int a4] st (some (.long r)) st := by
  refine zMet_of (by decide +kernel) ?_
  intro p e s m args below meth c X
  obtain ⟨hx, hb, hr, hml, hown, hq, hlk, hK, -, hin, hW, hS⟩ := X
  have hown : s.vm.findClass RX12 = some m.cls := hown
  refine z_ent (by exact Nat.le_of_ble_eq_true rfl) (fun ls hl => ?_)
  have hl : lv_has ls 11 [(0, .long (a0)), (2, .long (a2)), (4, .int a4)] := hl
  unfold f_X12_lowest at h
  have B17 : ∀ (n17 : Nat) (x5 : Int64) (x7 : Int64) (H : Heap) (locs : List Loc) (ls : Array Slot), f_X12_lowest_17 N a0 a2 a4 n17 x5 x7 = some r → zWd G st H → va_S (zA G) s.heap H locs → lv_has ls 11 [(0, .long (a0)), (2, .long (a2)), (4, .int a4), (5, .long (x5)), (7, .long (x7))] → W p l e (zRm 0 0 0) s m args below meth c H locs 0 0 (MQ below (zQ G (some (.long r)) st) args s 0 0 (zA G)) (F0 m 17 ls []) := by
    intro n17
    induction n17 with
    | zero =>
      intro x5 x7 H locs ls h
      unfold f_X12_lowest_17 at h
      cases h
    | succ n17 ih17 =>
      intro x5 x7 H locs ls h hW hS hl
      unfold f_X12_lowest_17 at h
      refine lv_lload hx hb dX12_lowest_17 (lv_at hl 4 rfl) ?_
      refine lv_lconst (v := (lN 0)) hx hb dX12_lowest_19 (by decide) ?_
      refine W.lcmp hx hb dX12_lowest_20 ?_
      refine z_br (lv_if_eq (tgt := 42) hx hb dX12_lowest_21 (by decide)) h (fun h => ?_) (fun h => ?_)
      · refine lv_iload hx hb dX12_lowest_42 (lv_at hl 2 rfl) ?_
        refine z_brn (lv_if_ne (tgt := 51) hx hb dX12_lowest_44 (by decide)) h (fun h => ?_) (fun h => ?_)
        · refine lv_lload_n hx hb dX12_lowest_51 rfl (lv_at hl 1 rfl) ?_
          refine lv_lload hx hb dX12_lowest_52 (lv_at hl 3 rfl) ?_
          obtain ⟨t1, h⟩ := zc_at h
          refine lv_ldiv hx hb dX12_lowest_54 t1 ?_
          obtain rfl := Option.some.inj h
          exact z_rl hx hb hr hlk hW hS (Nat.le_of_ble_eq_true rfl) (Nat.le_of_ble_eq_true rfl) dX12_lowest_55
        · refine lv_lload_n hx hb dX12_lowest_47 rfl (lv_at hl 0 rfl) ?_
          refine lv_goto (tgt := 52) hx hb dX12_lowest_48 (by decide) ?_
          refine lv_lload hx hb dX12_lowest_52 (lv_at hl 3 rfl) ?_
          obtain ⟨t2, h⟩ := zc_at h
          refine lv_ldiv hx hb dX12_lowest_54 t2 ?_
          obtain rfl := Option.some.inj h
          exact z_rl hx hb hr hlk hW hS (Nat.le_of_ble_eq_true rfl) (Nat.le_of_ble_eq_true rfl) dX12_lowest_55
      · refine lv_lload hx hb dX12_lowest_24 (lv_at hl 3 rfl) ?_
        refine lv_lload hx hb dX12_lowest_26 (lv_at hl 4 rfl) ?_
        obtain ⟨t3, h⟩ := zc_at h
        refine lv_lrem hx hb dX12_lowest_28 t3 ?_
        refine lv_topl (fun v4 ev4 => ?_)
        have h := zl_at ev4 h
        refine lv_lstore (lv' := [(9, .long (v4)), (0, .long (a0)), (2, .long (a2)), (4, .int a4), (5, .long (x5)), (7, .long (x7))]) hx hb dX12_lowest_29 hl (by decide) rfl (fun ls hl => ?_)
        refine lv_lload hx hb dX12_lowest_31 (lv_at hl 5 rfl) ?_
        refine lv_lstore (lv' := [(5, .long (x7)), (9, .long (v4)), (0, .long (a0)), (2, .long (a2)), (4, .int a4), (7, .long (x7))]) hx hb dX12_lowest_33 hl (by decide) rfl (fun ls hl => ?_)
        refine lv_lload hx hb dX12_lowest_35 (lv_at hl 1 rfl) ?_
        refine lv_lstore (lv' := [(7, .long (v4)), (5, .long (x7)), (9, .long (v4)), (0, .long (a0)), (2, .long (a2)), (4, .int a4)]) hx hb dX12_lowest_37 hl (by decide) rfl (fun ls hl => ?_)
        refine lv_goto (tgt := 17) hx hb dX12_lowest_39 (by decide) ?_
        exact ih17 x7 v4 _ _ _ h hW hS (lv_sub hl [3, 4, 5, 1, 0] rfl)
  have B12 : ∀ (y0 : Int64) (H : Heap) (locs : List Loc) (ls : Array Slot), f_X12_lowest_12 N a0 a2 a4 y0 = some r → zWd G st H → va_S (zA G) s.heap H locs → lv_has ls 11 [(0, .long (a0)), (2, .long (a2)), (4, .int a4)] → W p l e (zRm 0 0 0) s m args below meth c H locs 0 0 (MQ below (zQ G (some (.long r)) st) args s 0 0 (zA G)) (F0 m 12 ls [.long (y0)]) := by
    intro y0 H locs ls h hW hS hl
    unfold f_X12_lowest_12 at h
    refine lv_lstore (lv' := [(5, .long (y0)), (0, .long (a0)), (2, .long (a2)), (4, .int a4)]) hx hb dX12_lowest_12 hl (by decide) rfl (fun ls hl => ?_)
    refine lv_lload_n hx hb dX12_lowest_14 rfl (lv_at hl 2 rfl) ?_
    refine lv_lstore (lv' := [(7, .long (a2)), (5, .long (y0)), (0, .long (a0)), (2, .long (a2)), (4, .int a4)]) hx hb dX12_lowest_15 hl (by decide) rfl (fun ls hl => ?_)
    exact B17 N y0 a2 _ _ _ h hW hS (lv_sub hl [2, 3, 4, 1, 0] rfl)
  refine lv_lload_n hx hb dX12_lowest_0 rfl (lv_at hl 0 rfl) ?_
  refine lv_lconst (v := (lN 0)) hx hb dX12_lowest_1 (by decide) ?_
  refine W.lcmp hx hb dX12_lowest_2 ?_
  refine z_br (lv_if_ge (tgt := 11) hx hb dX12_lowest_3 (by decide)) h (fun h => ?_) (fun h => ?_)
  · refine lv_lload_n hx hb dX12_lowest_11 rfl (lv_at hl 0 rfl) ?_
    exact B12 a0 _ _ _ h hW hS (lv_sub hl [0, 1, 2] rfl)
  · refine lv_lload_n hx hb dX12_lowest_6 rfl (lv_at hl 0 rfl) ?_
    refine lv_lneg hx hb dX12_lowest_7 ?_
    refine lv_goto (tgt := 12) hx hb dX12_lowest_8 (by decide) ?_
    exact B12 (-a0) _ _ _ h hW hS (lv_sub hl [0, 1, 2] rfl)
def f_X12_isShort (N : Nat) (st : zS) (o : Nat) : Option Int32 := (if zTg st o ∈ [22] then (Option.bind (f_X12_doesCount st o) (fun r3 => (if r3 = 0 then (some (nI 0)) else (Option.bind (zR st o 1) (fun b4 => (if zTg st b4 ∈ [1] then (if zin (nI 8) (zLn st b4) then (Option.bind (f_X12_missing N st o) (fun r8 => (Option.bind (f_X12_wantNow st o) (fun r10 => (if r10 ≤ ((zM st b4 ((nI 8)).toNatClampNeg) - r8) then (some (nI 0)) else (some (nI 1))))))) else none) else none)))))) else none)
set_option maxHeartbeats 1000000 in
set_option maxRecDepth 100000 in
theorem c_X12_isShort (l : Launch) (G : zG) (N : Nat) (st : zS) (o : Nat) {r : Int32} (h : f_X12_isShort N st o = some r) : zMet l G yX12_isShort cX12_isShort 1 (some .boolean) 2 0 0 [.ref (G.2.2.2 + o)] st (some (.int r)) st := by
  refine zMet_of (by decide +kernel) ?_
  intro p e s m args below meth c X
  obtain ⟨hx, hb, hr, hml, hown, hq, hlk, hK, -, hin, hW, hS⟩ := X
  have hown : s.vm.findClass RX12 = some m.cls := hown
  refine z_ent (by exact Nat.le_of_ble_eq_true rfl) (fun ls hl => ?_)
  have hl : lv_has ls 1 [(0, .ref (G.2.2.2 + o))] := hl
  unfold f_X12_isShort at h
  refine lv_aload_n hx hb dX12_isShort_0 rfl (lv_at hl 0 rfl) ?_
  obtain ⟨t1, h⟩ := zc_at h
  obtain ⟨r3, c2, h⟩ := zd_at h
  refine z_cV hx hb hq hml hown hK hW hS 12 [] [] rfl (List.mem_singleton.mp t1) (c_X12_doesCount l G st o c2) (zi zm749) (zi zm750) (zi zm751) (zi zm5) (zi zm752) cal_X12_doesCount rfl rfl hl.1 rfl (Nat.le_of_ble_eq_true rfl) (zR_ok (by omega) (by decide)) ⟨(Nat.le_of_ble_eq_true rfl), (Nat.le_of_ble_eq_true rfl)⟩ dX12_isShort_1 (fun H locs hW hS => ?_)
  refine W.eq (g2 := F0 m 4 ls [.int r3]) rfl ?_
  refine z_br (lv_if_eq (tgt := 30) hx hb dX12_isShort_4 (by decide)) h (fun h => ?_) (fun h => ?_)
  · refine lv_iconst (v := (nI 0)) hx hb dX12_isShort_30 (by decide) ?_
    obtain rfl := Option.some.inj h
    exact z_rz hx hb hr hlk rfl hW hS (Nat.le_of_ble_eq_true rfl) (Nat.le_of_ble_eq_true rfl) dX12_isShort_31
  · refine lv_aload_n hx hb dX12_isShort_7 rfl (lv_at hl 0 rfl) ?_
    obtain ⟨b4, hb4, h⟩ := zd_at h
    refine z_gR hx hb hq hown hK hW fs_RX12_9 t1 hb4 dX12_isShort_8 ?_
    refine lv_bipush (v := (nI 8)) hx hb dX12_isShort_11 (by decide) ?_
    obtain ⟨t5, h⟩ := zc_at h
    obtain ⟨t6, h⟩ := zc_at h
    refine z_alI hx hb hK hW (List.mem_singleton.mp t5) t6 dX12_isShort_13 ?_
    refine lv_aload_n hx hb dX12_isShort_14 rfl (lv_at hl 0 rfl) ?_
    obtain ⟨r8, c7, h⟩ := zd_at h
    refine z_cV hx hb hq hml hown hK hW hS 12 [] [.int ((zM st b4 ((nI 8)).toNatClampNeg))] rfl (List.mem_singleton.mp t1) (c_X12_missing l G N st o c7) (zi zm679) (zi zm680) (zi zm681) (zi zm5) (zi zm682) cal_X12_missing rfl rfl hl.1 rfl (Nat.le_of_ble_eq_true rfl) (zR_ok (by omega) (by decide)) ⟨(Nat.le_of_ble_eq_true rfl), (Nat.le_of_ble_eq_true rfl)⟩ dX12_isShort_15 (fun H locs hW hS => ?_)
    refine W.eq (g2 := F0 m 18 ls [.int r8, .int ((zM st b4 ((nI 8)).toNatClampNeg))]) rfl ?_
    refine lv_isub hx hb dX12_isShort_18 ?_
    refine lv_aload_n hx hb dX12_isShort_19 rfl (lv_at hl 0 rfl) ?_
    obtain ⟨r10, c9, h⟩ := zd_at h
    refine z_cV hx hb hq hml hown hK hW hS 12 [] [.int (((zM st b4 ((nI 8)).toNatClampNeg) - r8))] rfl (List.mem_singleton.mp t1) (c_X12_wantNow l G st o c9) (zi zm664) (zi zm665) (zi zm666) (zi zm5) (zi zm667) cal_X12_wantNow rfl rfl hl.1 rfl (Nat.le_of_ble_eq_true rfl) (zR_ok (by omega) (by decide)) ⟨(Nat.le_of_ble_eq_true rfl), (Nat.le_of_ble_eq_true rfl)⟩ dX12_isShort_20 (fun H locs hW hS => ?_)
    refine W.eq (g2 := F0 m 23 ls [.int r10, .int (((zM st b4 ((nI 8)).toNatClampNeg) - r8))]) rfl ?_
    refine z_br (lv_icmp_ge (tgt := 30) hx hb dX12_isShort_23 (by decide)) h (fun h => ?_) (fun h => ?_)
    · refine lv_iconst (v := (nI 0)) hx hb dX12_isShort_30 (by decide) ?_
      obtain rfl := Option.some.inj h
      exact z_rz hx hb hr hlk rfl hW hS (Nat.le_of_ble_eq_true rfl) (Nat.le_of_ble_eq_true rfl) dX12_isShort_31
    · refine lv_iconst (v := (nI 1)) hx hb dX12_isShort_26 (by decide) ?_
      refine lv_goto (tgt := 31) hx hb dX12_isShort_27 (by decide) ?_
      obtain rfl := Option.some.inj h
      exact z_rz hx hb hr hlk rfl hW hS (Nat.le_of_ble_eq_true rfl) (Nat.le_of_ble_eq_true rfl) dX12_isShort_31
def f_X12_allWays_4 (N : Nat) (st : zS) (o : Nat)  : Nat → Int64 → Int32 → Option Int64
  | 0, _, _ => none
  | n4 + 1, x1, x3 => (if zTg st o ∈ [22] then (if (zM st o 12) ≤ x3 then (some x1) else (zl (x1 * (lN 100)) (fun v2 => ((f_X12_allWays_4 N st o n4) v2 (x3 + (nI 1)))))) else none)
def f_X12_allWays (N : Nat) (st : zS) (o : Nat) : Option Int64 := (f_X12_allWays_4 N st o N (lN 1) (nI 0))
set_option maxHeartbeats 1000000 in
set_option maxRecDepth 100000 in
theorem c_X12_allWays (l : Launch) (G : zG) (N : Nat) (st : zS) (o : Nat) {r : Int64} (h : f_X12_allWays N st o = some r) : zMet l G yX12_allWays cX12_allWays 4 (some .long) 0 0 0 [.ref (G.2.2.2 + o)] st (some (.long r)) st := by
  refine zMet_of (by decide +kernel) ?_
  intro p e s m args below meth c X
  obtain ⟨hx, hb, hr, hml, hown, hq, hlk, hK, -, hin, hW, hS⟩ := X
  have hown : s.vm.findClass RX12 = some m.cls := hown
  refine z_ent (by exact Nat.le_of_ble_eq_true rfl) (fun ls hl => ?_)
  have hl : lv_has ls 4 [(0, .ref (G.2.2.2 + o))] := hl
  unfold f_X12_allWays at h
  have B4 : ∀ (n4 : Nat) (x1 : Int64) (x3 : Int32) (H : Heap) (locs : List Loc) (ls : Array Slot), f_X12_allWays_4 N st o n4 x1 x3 = some r → zWd G st H → va_S (zA G) s.heap H locs → lv_has ls 4 [(0, .ref (G.2.2.2 + o)), (1, .long (x1)), (3, .int x3)] → W p l e (zRm 0 0 0) s m args below meth c H locs 0 0 (MQ below (zQ G (some (.long r)) st) args s 0 0 (zA G)) (F0 m 4 ls []) := by
    intro n4
    induction n4 with
    | zero =>
      intro x1 x3 H locs ls h
      unfold f_X12_allWays_4 at h
      cases h
    | succ n4 ih4 =>
      intro x1 x3 H locs ls h hW hS hl
      unfold f_X12_allWays_4 at h
      refine lv_iload_n hx hb dX12_allWays_4 rfl (lv_at hl 2 rfl) ?_
      refine lv_aload_n hx hb dX12_allWays_5 rfl (lv_at hl 0 rfl) ?_
      obtain ⟨t1, h⟩ := zc_at h
      refine z_gI hx hb hq hown hK hW fs_RX12_151 t1 dX12_allWays_6 ?_
      refine z_br (lv_icmp_ge (tgt := 24) hx hb dX12_allWays_9 (by decide)) h (fun h => ?_) (fun h => ?_)
      · refine lv_lload_n hx hb dX12_allWays_24 rfl (lv_at hl 1 rfl) ?_
        obtain rfl := Option.some.inj h
        exact z_rl hx hb hr hlk hW hS (Nat.le_of_ble_eq_true rfl) (Nat.le_of_ble_eq_true rfl) dX12_allWays_25
      · refine lv_lload_n hx hb dX12_allWays_12 rfl (lv_at hl 1 rfl) ?_
        refine lv_ldc2 (v := (lN 100)) hx hb hown (hq _ (zi zm757)) dX12_allWays_13 ?_
        refine lv_lmul hx hb dX12_allWays_16 ?_
        refine lv_topl (fun v2 ev2 => ?_)
        have h := zl_at ev2 h
        refine lv_lstore_n (lv' := [(1, .long (v2)), (0, .ref (G.2.2.2 + o)), (3, .int x3)]) hx hb dX12_allWays_17 rfl hl (by decide) rfl (fun ls hl => ?_)
        refine lv_iinc (v := (x3 + (nI 1))) (lv' := [(3, .int ((x3 + (nI 1)))), (1, .long (v2)), (0, .ref (G.2.2.2 + o))]) hx hb dX12_allWays_18 hl (k := 2) rfl rfl (by decide) rfl (fun ls hl => ?_)
        refine lv_goto (tgt := 4) hx hb dX12_allWays_21 (by decide) ?_
        exact ih4 v2 (x3 + (nI 1)) _ _ _ h hW hS (lv_sub hl [2, 1, 0] rfl)
  refine lv_lconst (v := (lN 1)) hx hb dX12_allWays_0 (by decide) ?_
  refine lv_lstore_n (lv' := [(1, .long ((lN 1))), (0, .ref (G.2.2.2 + o))]) hx hb dX12_allWays_1 rfl hl (by decide) rfl (fun ls hl => ?_)
  refine lv_iconst (v := (nI 0)) hx hb dX12_allWays_2 (by decide) ?_
  refine lv_istore_n (lv' := [(3, .int ((nI 0))), (1, .long ((lN 1))), (0, .ref (G.2.2.2 + o))]) hx hb dX12_allWays_3 rfl hl (by decide) rfl (fun ls hl => ?_)
  exact B4 N (lN 1) (nI 0) _ _ _ h hW hS (lv_sub hl [2, 1, 0] rfl)
def f_X12_safeWays_19 (N : Nat) (o : Nat)  : Nat → zS → Int64 → Int32 → Option (zS × Int64)
  | 0, _, _, _ => none
  | n19 + 1, st, x1, x3 => (if zTg st o ∈ [22] then (if (zM st o 12) ≤ x3 then (some (st, x1)) else (Option.bind (zR st o 11) (fun b8 => (if zTg st b8 ∈ [1] then (if zin x3 (zLn st b8) then (zb (f_X12_signAt N st o (zM st b8 (x3).toNatClampNeg)) (fun st12 r13 => (zl (x1 * (((nI 100) - r13)).toInt64) (fun v14 => ((f_X12_safeWays_19 N o n19) st12 v14 (x3 + (nI 1))))))) else none) else none)))) else none)
def f_X12_safeWays_16 (N : Nat) (o : Nat)  (st : zS) (y0 : Int64) : Option (zS × Int64) := (f_X12_safeWays_19 N o N st y0 (nI 0))
def f_X12_safeWays (N : Nat) (st : zS) (o : Nat) : Option (zS × Int64) := (if zTg st o ∈ [22] then (Option.bind (f_X12_looksForPlaces N st o) (fun st3 => (if zTg st3 o ∈ [22] then (Option.bind (f_X12_isShort N st3 o) (fun r6 => (if r6 = 0 then (f_X12_safeWays_16 N o st3 (lN 1)) else (f_X12_safeWays_16 N o st3 (lN 0))))) else none))) else none)
set_option maxHeartbeats 1000000 in
set_option maxRecDepth 100000 in
theorem c_X12_safeWays (l : Launch) (G : zG) (N : Nat) (st : zS) (o : Nat) {st' : zS} {r : Int64} (h : f_X12_safeWays N st o = some (st', r)) : zMet l G yX12_safeWays cX12_safeWays 4 (some .long) 3 0 0 [.ref (G.2.2.2 + o)] st (some (.long r)) st' := by
  refine zMet_of (by decide +kernel) ?_
  intro p e s m args below meth c X
  obtain ⟨hx, hb, hr, hml, hown, hq, hlk, hK, -, hin, hW, hS⟩ := X
  have hown : s.vm.findClass RX12 = some m.cls := hown
  refine z_ent (by exact Nat.le_of_ble_eq_true rfl) (fun ls hl => ?_)
  have hl : lv_has ls 4 [(0, .ref (G.2.2.2 + o))] := hl
  unfold f_X12_safeWays at h
  have B19 : ∀ (n19 : Nat) (st : zS) (x1 : Int64) (x3 : Int32) (H : Heap) (locs : List Loc) (ls : Array Slot), f_X12_safeWays_19 N o n19 st x1 x3 = some (st', r) → zWd G st H → va_S (zA G) s.heap H locs → lv_has ls 4 [(0, .ref (G.2.2.2 + o)), (1, .long (x1)), (3, .int x3)] → W p l e (zRm 3 0 0) s m args below meth c H locs 0 0 (MQ below (zQ G (some (.long r)) st') args s 0 0 (zA G)) (F0 m 19 ls []) := by
    intro n19
    induction n19 with
    | zero =>
      intro st x1 x3 H locs ls h
      unfold f_X12_safeWays_19 at h
      cases h
    | succ n19 ih19 =>
      intro st x1 x3 H locs ls h hW hS hl
      unfold f_X12_safeWays_19 at h
      refine lv_iload_n hx hb dX12_safeWays_19 rfl (lv_at hl 2 rfl) ?_
      refine lv_aload_n hx hb dX12_safeWays_20 rfl (lv_at hl 0 rfl) ?_
      obtain ⟨t7, h⟩ := zc_at h
      refine z_gI hx hb hq hown hK hW fs_RX12_151 t7 dX12_safeWays_21 ?_
      refine z_br (lv_icmp_ge (tgt := 50) hx hb dX12_safeWays_24 (by decide)) h (fun h => ?_) (fun h => ?_)
      · refine lv_lload_n hx hb dX12_safeWays_50 rfl (lv_at hl 1 rfl) ?_
        obtain ⟨rfl, rfl⟩ := Prod.mk.inj (Option.some.inj h)
        exact z_rl hx hb hr hlk hW hS (Nat.le_of_ble_eq_true rfl) (Nat.le_of_ble_eq_true rfl) dX12_safeWays_51
      · refine lv_lload_n hx hb dX12_safeWays_27 rfl (lv_at hl 1 rfl) ?_
        refine lv_bipush (v := (nI 100)) hx hb dX12_safeWays_28 (by decide) ?_
        refine lv_aload_n hx hb dX12_safeWays_30 rfl (lv_at hl 0 rfl) ?_
        refine lv_aload_n hx hb dX12_safeWays_31 rfl (lv_at hl 0 rfl) ?_
        obtain ⟨b8, hb8, h⟩ := zd_at h
        refine z_gR hx hb hq hown hK hW fs_RX12_25 t7 hb8 dX12_safeWays_32 ?_
        refine lv_iload_n hx hb dX12_safeWays_35 rfl (lv_at hl 2 rfl) ?_
        obtain ⟨t9, h⟩ := zc_at h
        obtain ⟨t10, h⟩ := zc_at h
        refine z_alI hx hb hK hW (List.mem_singleton.mp t9) t10 dX12_safeWays_36 ?_
        obtain ⟨st12, r13, c11, h⟩ := zb_at h
        refine z_cV hx hb hq hml hown hK hW hS 12 [.int ((zM st b8 (x3).toNatClampNeg))] [.int ((nI 100)), .long (x1)] rfl (List.mem_singleton.mp t7) (c_X12_signAt l G N st o (zM st b8 (x3).toNatClampNeg) c11) (zi zm624) (zi zm625) (zi zm626) (zi zm5) (zi zm627) cal_X12_signAt rfl rfl hl.1 rfl (Nat.le_of_ble_eq_true rfl) (zR_ok (by omega) (by decide)) ⟨(Nat.le_of_ble_eq_true rfl), (Nat.le_of_ble_eq_true rfl)⟩ dX12_safeWays_37 (fun H locs hW hS => ?_)
        refine W.eq (g2 := F0 m 40 ls [.int r13, .int ((nI 100)), .long (x1)]) rfl ?_
        refine lv_isub hx hb dX12_safeWays_40 ?_
        refine lv_i2l (v := (((nI 100) - r13)).toInt64) hx hb dX12_safeWays_41 rfl ?_
        refine lv_lmul hx hb dX12_safeWays_42 ?_
        refine lv_topl (fun v14 ev14 => ?_)
        have h := zl_at ev14 h
        refine lv_lstore_n (lv' := [(1, .long (v14)), (0, .ref (G.2.2.2 + o)), (3, .int x3)]) hx hb dX12_safeWays_43 rfl hl (by decide) rfl (fun ls hl => ?_)
        refine lv_iinc (v := (x3 + (nI 1))) (lv' := [(3, .int ((x3 + (nI 1)))), (1, .long (v14)), (0, .ref (G.2.2.2 + o))]) hx hb dX12_safeWays_44 hl (k := 2) rfl rfl (by decide) rfl (fun ls hl => ?_)
        refine lv_goto (tgt := 19) hx hb dX12_safeWays_47 (by decide) ?_
        exact ih19 st12 v14 (x3 + (nI 1)) _ _ _ h hW hS (lv_sub hl [2, 1, 0] rfl)
  have B16 : ∀ (st : zS) (y0 : Int64) (H : Heap) (locs : List Loc) (ls : Array Slot), f_X12_safeWays_16 N o st y0 = some (st', r) → zWd G st H → va_S (zA G) s.heap H locs → lv_has ls 4 [(0, .ref (G.2.2.2 + o))] → W p l e (zRm 3 0 0) s m args below meth c H locs 0 0 (MQ below (zQ G (some (.long r)) st') args s 0 0 (zA G)) (F0 m 16 ls [.long (y0)]) := by
    intro st y0 H locs ls h hW hS hl
    unfold f_X12_safeWays_16 at h
    refine lv_lstore_n (lv' := [(1, .long (y0)), (0, .ref (G.2.2.2 + o))]) hx hb dX12_safeWays_16 rfl hl (by decide) rfl (fun ls hl => ?_)
    refine lv_iconst (v := (nI 0)) hx hb dX12_safeWays_17 (by decide) ?_
    refine lv_istore_n (lv' := [(3, .int ((nI 0))), (1, .long (y0)), (0, .ref (G.2.2.2 + o))]) hx hb dX12_safeWays_18 rfl hl (by decide) rfl (fun ls hl => ?_)
    exact B19 N st y0 (nI 0) _ _ _ h hW hS (lv_sub hl [2, 1, 0] rfl)
  refine lv_aload_n hx hb dX12_safeWays_0 rfl (lv_at hl 0 rfl) ?_
  obtain ⟨t1, h⟩ := zc_at h
  obtain ⟨st3, c2, h⟩ := zd_at h
  refine z_cV hx hb hq hml hown hK hW hS 12 [] [] rfl (List.mem_singleton.mp t1) (c_X12_looksForPlaces l G N st o c2) (zi zm660) (zi zm661) (zi zm662) (zi zm5) (zi zm663) cal_X12_looksForPlaces rfl rfl hl.1 rfl (Nat.le_of_ble_eq_true rfl) (zR_ok (by omega) (by decide)) ⟨(Nat.le_of_ble_eq_true rfl), (Nat.le_of_ble_eq_true rfl)⟩ dX12_safeWays_1 (fun H locs hW hS => ?_)
  refine W.eq (g2 := F0 m 4 ls []) rfl ?_
  refine lv_aload_n hx hb dX12_safeWays_4 rfl (lv_at hl 0 rfl) ?_
  obtain ⟨t4, h⟩ := zc_at h
  obtain ⟨r6, c5, h⟩ := zd_at h
  refine z_cV hx hb hq hml hown hK hW hS 12 [] [] rfl (List.mem_singleton.mp t4) (c_X12_isShort l G N st3 o c5) (zi zm745) (zi zm746) (zi zm747) (zi zm5) (zi zm748) cal_X12_isShort rfl rfl hl.1 rfl (Nat.le_of_ble_eq_true rfl) (zR_ok (by omega) (by decide)) ⟨(Nat.le_of_ble_eq_true rfl), (Nat.le_of_ble_eq_true rfl)⟩ dX12_safeWays_5 (fun H locs hW hS => ?_)
  refine W.eq (g2 := F0 m 8 ls [.int r6]) rfl ?_
  refine z_br (lv_if_eq (tgt := 15) hx hb dX12_safeWays_8 (by decide)) h (fun h => ?_) (fun h => ?_)
  · refine lv_lconst (v := (lN 1)) hx hb dX12_safeWays_15 (by decide) ?_
    exact B16 st3 (lN 1) _ _ _ h hW hS (lv_sub hl [0] rfl)
  · refine lv_lconst (v := (lN 0)) hx hb dX12_safeWays_11 (by decide) ?_
    refine lv_goto (tgt := 16) hx hb dX12_safeWays_12 (by decide) ?_
    exact B16 st3 (lN 0) _ _ _ h hW hS (lv_sub hl [0] rfl)
def f_X12_safe (N : Nat) (st : zS) (o : Nat) (a1 : Int32) : Option (zS × Int64) := (Option.bind (f_X12_in a1 (nI 0) (nI 1)) (fun r2 => (if r2 = 0 then (some (st, (-9223372036854775808 : Int64))) else (if zTg st o ∈ [22] then (zb (f_X12_safeWays N st o) (fun st5 r6 => (if zTg st5 o ∈ [22] then (Option.bind (f_X12_allWays N st5 o) (fun r9 => (Option.bind (f_X12_lowest N r6 r9 a1) (fun r11 => (some (st5, r11)))))) else none))) else none))))
set_option maxHeartbeats 1000000 in
set_option maxRecDepth 100000 in
theorem c_X12_safe (l : Launch) (G : zG) (N : Nat) (st : zS) (o : Nat) (a1 : Int32) {st' : zS} {r : Int64} (h : f_X12_safe N st o a1 = some (st', r)) : zMet l G yX12_safe cX12_safe 2 (some .long) 4 0 0 [.ref (G.2.2.2 + o), .int a1] st (some (.long r)) st' := by
  refine zMet_of (by decide +kernel) ?_
  intro p e s m args below meth c X
  obtain ⟨hx, hb, hr, hml, hown, hq, hlk, hK, -, hin, hW, hS⟩ := X
  have hown : s.vm.findClass RX12 = some m.cls := hown
  refine z_ent (by exact Nat.le_of_ble_eq_true rfl) (fun ls hl => ?_)
  have hl : lv_has ls 2 [(0, .ref (G.2.2.2 + o)), (1, .int a1)] := hl
  unfold f_X12_safe at h
  refine lv_iload_n hx hb dX12_safe_0 rfl (lv_at hl 1 rfl) ?_
  refine lv_iconst (v := (nI 0)) hx hb dX12_safe_1 (by decide) ?_
  refine lv_iconst (v := (nI 1)) hx hb dX12_safe_2 (by decide) ?_
  obtain ⟨r2, c1, h⟩ := zd_at h
  refine z_cS hx hb hq hml hown hK hW hS [.int a1, .int ((nI 0)), .int ((nI 1))] [] (c_X12_in l G st a1 (nI 0) (nI 1) c1) (zi zm90) (zi zm91) (zi zm5) (zi zm92) cal_X12_in rfl hl.1 rfl (Nat.le_of_ble_eq_true rfl) (zR_ok (by omega) (by decide)) ⟨(Nat.le_of_ble_eq_true rfl), (Nat.le_of_ble_eq_true rfl)⟩ dX12_safe_3 (fun H locs hW hS => ?_)
  refine W.eq (g2 := F0 m 6 ls [.int r2]) rfl ?_
  refine z_br (lv_if_eq (tgt := 24) hx hb dX12_safe_6 (by decide)) h (fun h => ?_) (fun h => ?_)
  · refine lv_ldc2 (v := (-9223372036854775808)) hx hb hown (hq _ (zi zm740)) dX12_safe_24 ?_
    obtain ⟨rfl, rfl⟩ := Prod.mk.inj (Option.some.inj h)
    exact z_rl hx hb hr hlk hW hS (Nat.le_of_ble_eq_true rfl) (Nat.le_of_ble_eq_true rfl) dX12_safe_27
  · refine lv_aload_n hx hb dX12_safe_9 rfl (lv_at hl 0 rfl) ?_
    obtain ⟨t3, h⟩ := zc_at h
    obtain ⟨st5, r6, c4, h⟩ := zb_at h
    refine z_cV hx hb hq hml hown hK hW hS 12 [] [] rfl (List.mem_singleton.mp t3) (c_X12_safeWays l G N st o c4) (zi zm741) (zi zm742) (zi zm743) (zi zm5) (zi zm744) cal_X12_safeWays rfl rfl hl.1 rfl (Nat.le_of_ble_eq_true rfl) (zR_ok (by omega) (by decide)) ⟨(Nat.le_of_ble_eq_true rfl), (Nat.le_of_ble_eq_true rfl)⟩ dX12_safe_10 (fun H locs hW hS => ?_)
    refine W.eq (g2 := F0 m 13 ls [.long (r6)]) rfl ?_
    refine lv_aload_n hx hb dX12_safe_13 rfl (lv_at hl 0 rfl) ?_
    obtain ⟨t7, h⟩ := zc_at h
    obtain ⟨r9, c8, h⟩ := zd_at h
    refine z_cV hx hb hq hml hown hK hW hS 12 [] [.long (r6)] rfl (List.mem_singleton.mp t7) (c_X12_allWays l G N st5 o c8) (zi zm753) (zi zm754) (zi zm755) (zi zm5) (zi zm756) cal_X12_allWays rfl rfl hl.1 rfl (Nat.le_of_ble_eq_true rfl) (zR_ok (by omega) (by decide)) ⟨(Nat.le_of_ble_eq_true rfl), (Nat.le_of_ble_eq_true rfl)⟩ dX12_safe_14 (fun H locs hW hS => ?_)
    refine W.eq (g2 := F0 m 17 ls [.long (r9), .long (r6)]) rfl ?_
    refine lv_iload_n hx hb dX12_safe_17 rfl (lv_at hl 1 rfl) ?_
    obtain ⟨r11, c10, h⟩ := zd_at h
    refine z_cS hx hb hq hml hown hK hW hS [.long (r6), .long (r9), .int a1] [] (c_X12_lowest l G N st5 r6 r9 a1 c10) (zi zm758) (zi zm759) (zi zm5) (zi zm760) cal_X12_lowest rfl hl.1 rfl (Nat.le_of_ble_eq_true rfl) (zR_ok (by omega) (by decide)) ⟨(Nat.le_of_ble_eq_true rfl), (Nat.le_of_ble_eq_true rfl)⟩ dX12_safe_18 (fun H locs hW hS => ?_)
    refine W.eq (g2 := F0 m 21 ls [.long (r11)]) rfl ?_
    refine lv_goto (tgt := 27) hx hb dX12_safe_21 (by decide) ?_
    obtain ⟨rfl, rfl⟩ := Prod.mk.inj (Option.some.inj h)
    exact z_rl hx hb hr hlk hW hS (Nat.le_of_ble_eq_true rfl) (Nat.le_of_ble_eq_true rfl) dX12_safe_27
def f_X12_again (N : Nat) (st : zS) (o : Nat) (a1 : Int32) : Option (zS × Int64) := (Option.bind (f_X12_in a1 (nI 0) (nI 1)) (fun r2 => (if r2 = 0 then (some (st, (-9223372036854775808 : Int64))) else (if zTg st o ∈ [22] then (zb (f_X12_safeWays N st o) (fun st5 r6 => (if zTg st5 o ∈ [22] then (Option.bind (f_X12_wantNow st5 o) (fun r9 => (Option.bind (f_X12_allWays N st5 o) (fun r11 => (Option.bind (f_X12_allWays N st5 o) (fun r13 => (Option.bind (f_X12_lowest N ((r9).toInt64 * (((lN 2) * r11) - r6)) r13 a1) (fun r15 => (some (st5, r15)))))))))) else none))) else none))))
set_option maxHeartbeats 1000000 in
set_option maxRecDepth 100000 in
theorem c_X12_again (l : Launch) (G : zG) (N : Nat) (st : zS) (o : Nat) (a1 : Int32) {st' : zS} {r : Int64} (h : f_X12_again N st o a1 = some (st', r)) : zMet l G yX12_again cX12_again 4 (some .long) 4 0 0 [.ref (G.2.2.2 + o), .int a1] st (some (.long r)) st' := by
  refine zMet_of (by decide +kernel) ?_
  intro p e s m args below meth c X
  obtain ⟨hx, hb, hr, hml, hown, hq, hlk, hK, -, hin, hW, hS⟩ := X
  have hown : s.vm.findClass RX12 = some m.cls := hown
  refine z_ent (by exact Nat.le_of_ble_eq_true rfl) (fun ls hl => ?_)
  have hl : lv_has ls 4 [(0, .ref (G.2.2.2 + o)), (1, .int a1)] := hl
  unfold f_X12_again at h
  refine lv_iload_n hx hb dX12_again_0 rfl (lv_at hl 1 rfl) ?_
  refine lv_iconst (v := (nI 0)) hx hb dX12_again_1 (by decide) ?_
  refine lv_iconst (v := (nI 1)) hx hb dX12_again_2 (by decide) ?_
  obtain ⟨r2, c1, h⟩ := zd_at h
  refine z_cS hx hb hq hml hown hK hW hS [.int a1, .int ((nI 0)), .int ((nI 1))] [] (c_X12_in l G st a1 (nI 0) (nI 1) c1) (zi zm90) (zi zm91) (zi zm5) (zi zm92) cal_X12_in rfl hl.1 rfl (Nat.le_of_ble_eq_true rfl) (zR_ok (by omega) (by decide)) ⟨(Nat.le_of_ble_eq_true rfl), (Nat.le_of_ble_eq_true rfl)⟩ dX12_again_3 (fun H locs hW hS => ?_)
  refine W.eq (g2 := F0 m 6 ls [.int r2]) rfl ?_
  refine z_brn (lv_if_ne (tgt := 13) hx hb dX12_again_6 (by decide)) h (fun h => ?_) (fun h => ?_)
  · refine lv_aload_n hx hb dX12_again_13 rfl (lv_at hl 0 rfl) ?_
    obtain ⟨t3, h⟩ := zc_at h
    obtain ⟨st5, r6, c4, h⟩ := zb_at h
    refine z_cV hx hb hq hml hown hK hW hS 12 [] [] rfl (List.mem_singleton.mp t3) (c_X12_safeWays l G N st o c4) (zi zm741) (zi zm742) (zi zm743) (zi zm5) (zi zm744) cal_X12_safeWays rfl rfl hl.1 rfl (Nat.le_of_ble_eq_true rfl) (zR_ok (by omega) (by decide)) ⟨(Nat.le_of_ble_eq_true rfl), (Nat.le_of_ble_eq_true rfl)⟩ dX12_again_14 (fun H locs hW hS => ?_)
    refine W.eq (g2 := F0 m 17 ls [.long (r6)]) rfl ?_
    refine lv_lstore_n (lv' := [(2, .long (r6)), (0, .ref (G.2.2.2 + o)), (1, .int a1)]) hx hb dX12_again_17 rfl hl (by decide) rfl (fun ls hl => ?_)
    refine lv_aload_n hx hb dX12_again_18 rfl (lv_at hl 1 rfl) ?_
    obtain ⟨t7, h⟩ := zc_at h
    obtain ⟨r9, c8, h⟩ := zd_at h
    refine z_cV hx hb hq hml hown hK hW hS 12 [] [] rfl (List.mem_singleton.mp t7) (c_X12_wantNow l G st5 o c8) (zi zm664) (zi zm665) (zi zm666) (zi zm5) (zi zm667) cal_X12_wantNow rfl rfl hl.1 rfl (Nat.le_of_ble_eq_true rfl) (zR_ok (by omega) (by decide)) ⟨(Nat.le_of_ble_eq_true rfl), (Nat.le_of_ble_eq_true rfl)⟩ dX12_again_19 (fun H locs hW hS => ?_)
    refine W.eq (g2 := F0 m 22 ls [.int r9]) rfl ?_
    refine lv_i2l (v := (r9).toInt64) hx hb dX12_again_22 rfl ?_
    refine lv_ldc2 (v := (lN 2)) hx hb hown (hq _ (zi zm770)) dX12_again_23 ?_
    refine lv_aload_n hx hb dX12_again_26 rfl (lv_at hl 1 rfl) ?_
    obtain ⟨r11, c10, h⟩ := zd_at h
    refine z_cV hx hb hq hml hown hK hW hS 12 [] [.long ((lN 2)), .long ((r9).toInt64)] rfl (List.mem_singleton.mp t7) (c_X12_allWays l G N st5 o c10) (zi zm753) (zi zm754) (zi zm755) (zi zm5) (zi zm756) cal_X12_allWays rfl rfl hl.1 rfl (Nat.le_of_ble_eq_true rfl) (zR_ok (by omega) (by decide)) ⟨(Nat.le_of_ble_eq_true rfl), (Nat.le_of_ble_eq_true rfl)⟩ dX12_again_27 (fun H locs hW hS => ?_)
    refine W.eq (g2 := F0 m 30 ls [.long (r11), .long ((lN 2)), .long ((r9).toInt64)]) rfl ?_
    refine lv_lmul hx hb dX12_again_30 ?_
    refine lv_lload_n hx hb dX12_again_31 rfl (lv_at hl 0 rfl) ?_
    refine lv_lsub hx hb dX12_again_32 ?_
    refine lv_lmul hx hb dX12_again_33 ?_
    refine lv_aload_n hx hb dX12_again_34 rfl (lv_at hl 1 rfl) ?_
    obtain ⟨r13, c12, h⟩ := zd_at h
    refine z_cV hx hb hq hml hown hK hW hS 12 [] [.long (((r9).toInt64 * (((lN 2) * r11) - r6)))] rfl (List.mem_singleton.mp t7) (c_X12_allWays l G N st5 o c12) (zi zm753) (zi zm754) (zi zm755) (zi zm5) (zi zm756) cal_X12_allWays rfl rfl hl.1 rfl (Nat.le_of_ble_eq_true rfl) (zR_ok (by omega) (by decide)) ⟨(Nat.le_of_ble_eq_true rfl), (Nat.le_of_ble_eq_true rfl)⟩ dX12_again_35 (fun H locs hW hS => ?_)
    refine W.eq (g2 := F0 m 38 ls [.long (r13), .long (((r9).toInt64 * (((lN 2) * r11) - r6)))]) rfl ?_
    refine lv_iload_n hx hb dX12_again_38 rfl (lv_at hl 2 rfl) ?_
    obtain ⟨r15, c14, h⟩ := zd_at h
    refine z_cS hx hb hq hml hown hK hW hS [.long (((r9).toInt64 * (((lN 2) * r11) - r6))), .long (r13), .int a1] [] (c_X12_lowest l G N st5 ((r9).toInt64 * (((lN 2) * r11) - r6)) r13 a1 c14) (zi zm758) (zi zm759) (zi zm5) (zi zm760) cal_X12_lowest rfl hl.1 rfl (Nat.le_of_ble_eq_true rfl) (zR_ok (by omega) (by decide)) ⟨(Nat.le_of_ble_eq_true rfl), (Nat.le_of_ble_eq_true rfl)⟩ dX12_again_39 (fun H locs hW hS => ?_)
    refine W.eq (g2 := F0 m 42 ls [.long (r15)]) rfl ?_
    obtain ⟨rfl, rfl⟩ := Prod.mk.inj (Option.some.inj h)
    exact z_rl hx hb hr hlk hW hS (Nat.le_of_ble_eq_true rfl) (Nat.le_of_ble_eq_true rfl) dX12_again_42
  · refine lv_ldc2 (v := (-9223372036854775808)) hx hb hown (hq _ (zi zm740)) dX12_again_9 ?_
    obtain ⟨rfl, rfl⟩ := Prod.mk.inj (Option.some.inj h)
    exact z_rl hx hb hr hlk hW hS (Nat.le_of_ble_eq_true rfl) (Nat.le_of_ble_eq_true rfl) dX12_again_12
def f_X12_twice_53 (N : Nat) (o : Nat) (a1 : Int32) (a2 : Int32)  : Nat → zS → Int64 → Int64 → Int32 → Option (zS × Int64)
  | 0, _, _, _, _ => none
  | n53 + 1, st, x3, x5, x7 => (if zTg st o ∈ [22] then (Option.bind (f_X12_wantNow st o) (fun r16 => (if r16 ≤ x7 then (Option.bind (f_X12_lowest N x3 x5 a2) (fun r18 => (some (st, r18)))) else (zb (f_X12_signAt N st o x7) (fun st20 r21 => (zl (x3 * (((nI 100) - r21)).toInt64) (fun v22 => (zl (x5 * (lN 100)) (fun v23 => ((f_X12_twice_53 N o a1 a2 n53) st20 v22 v23 (x7 + (nI 1)))))))))))) else none)
def f_X12_twice_51 (N : Nat) (o : Nat) (a1 : Int32) (a2 : Int32)  (st : zS) (x3 : Int64) (x5 : Int64) (y0 : Int32) : Option (zS × Int64) := (f_X12_twice_53 N o a1 a2 N st x3 x5 y0)
def f_X12_twice (N : Nat) (st : zS) (o : Nat) (a1 : Int32) (a2 : Int32) : Option (zS × Int64) := (Option.bind (f_X12_in a1 (nI 1) (nI 4)) (fun r2 => (if r2 = 0 then (some (st, (-9223372036854775808 : Int64))) else (Option.bind (f_X12_in a2 (nI 0) (nI 1)) (fun r4 => (if r4 = 0 then (some (st, (-9223372036854775808 : Int64))) else (if zTg st o ∈ [22] then (zb (f_X12_safeWays N st o) (fun st7 r8 => (if zTg st7 o ∈ [22] then (Option.bind (f_X12_allWays N st7 o) (fun r11 => (Option.bind (f_X12_wantNow st7 o) (fun r13 => (if r13 ≤ a1 then (f_X12_twice_51 N o a1 a2 st7 r8 r11 (nI 0)) else (Option.bind (f_X12_wantNow st7 o) (fun r25 => (f_X12_twice_51 N o a1 a2 st7 r8 r11 (r25 - a1))))))))) else none))) else none)))))))
set_option maxHeartbeats 1000000 in
set_option maxRecDepth 100000 in
theorem c_X12_twice (l : Launch) (G : zG) (N : Nat) (st : zS) (o : Nat) (a1 : Int32) (a2 : Int32) {st' : zS} {r : Int64} (h : f_X12_twice N st o a1 a2 = some (st', r)) : zMet l G yX12_twice cX12_twice 8 (some .long) 4 0 0 [.ref (G.2.2.2 + o), .int a1, .int a2] st (some (.long r)) st' := by
  refine zMet_of (by decide +kernel) ?_
  intro p e s m args below meth c X
  obtain ⟨hx, hb, hr, hml, hown, hq, hlk, hK, -, hin, hW, hS⟩ := X
  have hown : s.vm.findClass RX12 = some m.cls := hown
  refine z_ent (by exact Nat.le_of_ble_eq_true rfl) (fun ls hl => ?_)
  have hl : lv_has ls 8 [(0, .ref (G.2.2.2 + o)), (1, .int a1), (2, .int a2)] := hl
  unfold f_X12_twice at h
  have B53 : ∀ (n53 : Nat) (st : zS) (x3 : Int64) (x5 : Int64) (x7 : Int32) (H : Heap) (locs : List Loc) (ls : Array Slot), f_X12_twice_53 N o a1 a2 n53 st x3 x5 x7 = some (st', r) → zWd G st H → va_S (zA G) s.heap H locs → lv_has ls 8 [(0, .ref (G.2.2.2 + o)), (2, .int a2), (3, .long (x3)), (5, .long (x5)), (7, .int x7)] → W p l e (zRm 4 0 0) s m args below meth c H locs 0 0 (MQ below (zQ G (some (.long r)) st') args s 0 0 (zA G)) (F0 m 53 ls []) := by
    intro n53
    induction n53 with
    | zero =>
      intro st x3 x5 x7 H locs ls h
      unfold f_X12_twice_53 at h
      cases h
    | succ n53 ih53 =>
      intro st x3 x5 x7 H locs ls h hW hS hl
      unfold f_X12_twice_53 at h
      refine lv_iload hx hb dX12_twice_53 (lv_at hl 4 rfl) ?_
      refine lv_aload_n hx hb dX12_twice_55 rfl (lv_at hl 0 rfl) ?_
      obtain ⟨t14, h⟩ := zc_at h
      obtain ⟨r16, c15, h⟩ := zd_at h
      refine z_cV hx hb hq hml hown hK hW hS 12 [] [.int x7] rfl (List.mem_singleton.mp t14) (c_X12_wantNow l G st o c15) (zi zm664) (zi zm665) (zi zm666) (zi zm5) (zi zm667) cal_X12_wantNow rfl rfl hl.1 rfl (Nat.le_of_ble_eq_true rfl) (zR_ok (by omega) (by decide)) ⟨(Nat.le_of_ble_eq_true rfl), (Nat.le_of_ble_eq_true rfl)⟩ dX12_twice_56 (fun H locs hW hS => ?_)
      refine W.eq (g2 := F0 m 59 ls [.int r16, .int x7]) rfl ?_
      refine z_br (lv_icmp_ge (tgt := 89) hx hb dX12_twice_59 (by decide)) h (fun h => ?_) (fun h => ?_)
      · refine lv_lload_n hx hb dX12_twice_89 rfl (lv_at hl 2 rfl) ?_
        refine lv_lload hx hb dX12_twice_90 (lv_at hl 3 rfl) ?_
        refine lv_iload_n hx hb dX12_twice_92 rfl (lv_at hl 1 rfl) ?_
        obtain ⟨r18, c17, h⟩ := zd_at h
        refine z_cS hx hb hq hml hown hK hW hS [.long (x3), .long (x5), .int a2] [] (c_X12_lowest l G N st x3 x5 a2 c17) (zi zm758) (zi zm759) (zi zm5) (zi zm760) cal_X12_lowest rfl hl.1 rfl (Nat.le_of_ble_eq_true rfl) (zR_ok (by omega) (by decide)) ⟨(Nat.le_of_ble_eq_true rfl), (Nat.le_of_ble_eq_true rfl)⟩ dX12_twice_93 (fun H locs hW hS => ?_)
        refine W.eq (g2 := F0 m 96 ls [.long (r18)]) rfl ?_
        obtain ⟨rfl, rfl⟩ := Prod.mk.inj (Option.some.inj h)
        exact z_rl hx hb hr hlk hW hS (Nat.le_of_ble_eq_true rfl) (Nat.le_of_ble_eq_true rfl) dX12_twice_96
      · refine lv_lload_n hx hb dX12_twice_62 rfl (lv_at hl 2 rfl) ?_
        refine lv_bipush (v := (nI 100)) hx hb dX12_twice_63 (by decide) ?_
        refine lv_aload_n hx hb dX12_twice_65 rfl (lv_at hl 0 rfl) ?_
        refine lv_iload hx hb dX12_twice_66 (lv_at hl 4 rfl) ?_
        obtain ⟨st20, r21, c19, h⟩ := zb_at h
        refine z_cV hx hb hq hml hown hK hW hS 12 [.int x7] [.int ((nI 100)), .long (x3)] rfl (List.mem_singleton.mp t14) (c_X12_signAt l G N st o x7 c19) (zi zm624) (zi zm625) (zi zm626) (zi zm5) (zi zm627) cal_X12_signAt rfl rfl hl.1 rfl (Nat.le_of_ble_eq_true rfl) (zR_ok (by omega) (by decide)) ⟨(Nat.le_of_ble_eq_true rfl), (Nat.le_of_ble_eq_true rfl)⟩ dX12_twice_68 (fun H locs hW hS => ?_)
        refine W.eq (g2 := F0 m 71 ls [.int r21, .int ((nI 100)), .long (x3)]) rfl ?_
        refine lv_isub hx hb dX12_twice_71 ?_
        refine lv_i2l (v := (((nI 100) - r21)).toInt64) hx hb dX12_twice_72 rfl ?_
        refine lv_lmul hx hb dX12_twice_73 ?_
        refine lv_topl (fun v22 ev22 => ?_)
        have h := zl_at ev22 h
        refine lv_lstore_n (lv' := [(3, .long (v22)), (0, .ref (G.2.2.2 + o)), (2, .int a2), (5, .long (x5)), (7, .int x7)]) hx hb dX12_twice_74 rfl hl (by decide) rfl (fun ls hl => ?_)
        refine lv_lload hx hb dX12_twice_75 (lv_at hl 3 rfl) ?_
        refine lv_ldc2 (v := (lN 100)) hx hb hown (hq _ (zi zm757)) dX12_twice_77 ?_
        refine lv_lmul hx hb dX12_twice_80 ?_
        refine lv_topl (fun v23 ev23 => ?_)
        have h := zl_at ev23 h
        refine lv_lstore (lv' := [(5, .long (v23)), (3, .long (v22)), (0, .ref (G.2.2.2 + o)), (2, .int a2), (7, .int x7)]) hx hb dX12_twice_81 hl (by decide) rfl (fun ls hl => ?_)
        refine lv_iinc (v := (x7 + (nI 1))) (lv' := [(7, .int ((x7 + (nI 1)))), (5, .long (v23)), (3, .long (v22)), (0, .ref (G.2.2.2 + o)), (2, .int a2)]) hx hb dX12_twice_83 hl (k := 4) rfl rfl (by decide) rfl (fun ls hl => ?_)
        refine lv_goto (tgt := 53) hx hb dX12_twice_86 (by decide) ?_
        exact ih53 st20 v22 v23 (x7 + (nI 1)) _ _ _ h hW hS (lv_sub hl [3, 4, 2, 1, 0] rfl)
  have B51 : ∀ (st : zS) (x3 : Int64) (x5 : Int64) (y0 : Int32) (H : Heap) (locs : List Loc) (ls : Array Slot), f_X12_twice_51 N o a1 a2 st x3 x5 y0 = some (st', r) → zWd G st H → va_S (zA G) s.heap H locs → lv_has ls 8 [(0, .ref (G.2.2.2 + o)), (2, .int a2), (3, .long (x3)), (5, .long (x5))] → W p l e (zRm 4 0 0) s m args below meth c H locs 0 0 (MQ below (zQ G (some (.long r)) st') args s 0 0 (zA G)) (F0 m 51 ls [.int y0]) := by
    intro st x3 x5 y0 H locs ls h hW hS hl
    unfold f_X12_twice_51 at h
    refine lv_istore (lv' := [(7, .int y0), (0, .ref (G.2.2.2 + o)), (2, .int a2), (3, .long (x3)), (5, .long (x5))]) hx hb dX12_twice_51 hl (by decide) rfl (fun ls hl => ?_)
    exact B53 N st x3 x5 y0 _ _ _ h hW hS (lv_sub hl [1, 2, 3, 4, 0] rfl)
  refine lv_iload_n hx hb dX12_twice_0 rfl (lv_at hl 1 rfl) ?_
  refine lv_iconst (v := (nI 1)) hx hb dX12_twice_1 (by decide) ?_
  refine lv_iconst (v := (nI 4)) hx hb dX12_twice_2 (by decide) ?_
  obtain ⟨r2, c1, h⟩ := zd_at h
  refine z_cS hx hb hq hml hown hK hW hS [.int a1, .int ((nI 1)), .int ((nI 4))] [] (c_X12_in l G st a1 (nI 1) (nI 4) c1) (zi zm90) (zi zm91) (zi zm5) (zi zm92) cal_X12_in rfl hl.1 rfl (Nat.le_of_ble_eq_true rfl) (zR_ok (by omega) (by decide)) ⟨(Nat.le_of_ble_eq_true rfl), (Nat.le_of_ble_eq_true rfl)⟩ dX12_twice_3 (fun H locs hW hS => ?_)
  refine W.eq (g2 := F0 m 6 ls [.int r2]) rfl ?_
  refine z_br (lv_if_eq (tgt := 18) hx hb dX12_twice_6 (by decide)) h (fun h => ?_) (fun h => ?_)
  · refine lv_ldc2 (v := (-9223372036854775808)) hx hb hown (hq _ (zi zm740)) dX12_twice_18 ?_
    obtain ⟨rfl, rfl⟩ := Prod.mk.inj (Option.some.inj h)
    exact z_rl hx hb hr hlk hW hS (Nat.le_of_ble_eq_true rfl) (Nat.le_of_ble_eq_true rfl) dX12_twice_21
  · refine lv_iload_n hx hb dX12_twice_9 rfl (lv_at hl 2 rfl) ?_
    refine lv_iconst (v := (nI 0)) hx hb dX12_twice_10 (by decide) ?_
    refine lv_iconst (v := (nI 1)) hx hb dX12_twice_11 (by decide) ?_
    obtain ⟨r4, c3, h⟩ := zd_at h
    refine z_cS hx hb hq hml hown hK hW hS [.int a2, .int ((nI 0)), .int ((nI 1))] [] (c_X12_in l G st a2 (nI 0) (nI 1) c3) (zi zm90) (zi zm91) (zi zm5) (zi zm92) cal_X12_in rfl hl.1 rfl (Nat.le_of_ble_eq_true rfl) (zR_ok (by omega) (by decide)) ⟨(Nat.le_of_ble_eq_true rfl), (Nat.le_of_ble_eq_true rfl)⟩ dX12_twice_12 (fun H locs hW hS => ?_)
    refine W.eq (g2 := F0 m 15 ls [.int r4]) rfl ?_
    refine z_brn (lv_if_ne (tgt := 22) hx hb dX12_twice_15 (by decide)) h (fun h => ?_) (fun h => ?_)
    · refine lv_aload_n hx hb dX12_twice_22 rfl (lv_at hl 0 rfl) ?_
      obtain ⟨t5, h⟩ := zc_at h
      obtain ⟨st7, r8, c6, h⟩ := zb_at h
      refine z_cV hx hb hq hml hown hK hW hS 12 [] [] rfl (List.mem_singleton.mp t5) (c_X12_safeWays l G N st o c6) (zi zm741) (zi zm742) (zi zm743) (zi zm5) (zi zm744) cal_X12_safeWays rfl rfl hl.1 rfl (Nat.le_of_ble_eq_true rfl) (zR_ok (by omega) (by decide)) ⟨(Nat.le_of_ble_eq_true rfl), (Nat.le_of_ble_eq_true rfl)⟩ dX12_twice_23 (fun H locs hW hS => ?_)
      refine W.eq (g2 := F0 m 26 ls [.long (r8)]) rfl ?_
      refine lv_lstore_n (lv' := [(3, .long (r8)), (0, .ref (G.2.2.2 + o)), (1, .int a1), (2, .int a2)]) hx hb dX12_twice_26 rfl hl (by decide) rfl (fun ls hl => ?_)
      refine lv_aload_n hx hb dX12_twice_27 rfl (lv_at hl 1 rfl) ?_
      obtain ⟨t9, h⟩ := zc_at h
      obtain ⟨r11, c10, h⟩ := zd_at h
      refine z_cV hx hb hq hml hown hK hW hS 12 [] [] rfl (List.mem_singleton.mp t9) (c_X12_allWays l G N st7 o c10) (zi zm753) (zi zm754) (zi zm755) (zi zm5) (zi zm756) cal_X12_allWays rfl rfl hl.1 rfl (Nat.le_of_ble_eq_true rfl) (zR_ok (by omega) (by decide)) ⟨(Nat.le_of_ble_eq_true rfl), (Nat.le_of_ble_eq_true rfl)⟩ dX12_twice_28 (fun H locs hW hS => ?_)
      refine W.eq (g2 := F0 m 31 ls [.long (r11)]) rfl ?_
      refine lv_lstore (lv' := [(5, .long (r11)), (3, .long (r8)), (0, .ref (G.2.2.2 + o)), (1, .int a1), (2, .int a2)]) hx hb dX12_twice_31 hl (by decide) rfl (fun ls hl => ?_)
      refine lv_iload_n hx hb dX12_twice_33 rfl (lv_at hl 3 rfl) ?_
      refine lv_aload_n hx hb dX12_twice_34 rfl (lv_at hl 2 rfl) ?_
      obtain ⟨r13, c12, h⟩ := zd_at h
      refine z_cV hx hb hq hml hown hK hW hS 12 [] [.int a1] rfl (List.mem_singleton.mp t9) (c_X12_wantNow l G st7 o c12) (zi zm664) (zi zm665) (zi zm666) (zi zm5) (zi zm667) cal_X12_wantNow rfl rfl hl.1 rfl (Nat.le_of_ble_eq_true rfl) (zR_ok (by omega) (by decide)) ⟨(Nat.le_of_ble_eq_true rfl), (Nat.le_of_ble_eq_true rfl)⟩ dX12_twice_35 (fun H locs hW hS => ?_)
      refine W.eq (g2 := F0 m 38 ls [.int r13, .int a1]) rfl ?_
      refine z_br (lv_icmp_ge (tgt := 50) hx hb dX12_twice_38 (by decide)) h (fun h => ?_) (fun h => ?_)
      · refine lv_iconst (v := (nI 0)) hx hb dX12_twice_50 (by decide) ?_
        exact B51 st7 r8 r11 (nI 0) _ _ _ h hW hS (lv_sub hl [2, 4, 1, 0] rfl)
      · refine lv_aload_n hx hb dX12_twice_41 rfl (lv_at hl 2 rfl) ?_
        obtain ⟨r25, c24, h⟩ := zd_at h
        refine z_cV hx hb hq hml hown hK hW hS 12 [] [] rfl (List.mem_singleton.mp t9) (c_X12_wantNow l G st7 o c24) (zi zm664) (zi zm665) (zi zm666) (zi zm5) (zi zm667) cal_X12_wantNow rfl rfl hl.1 rfl (Nat.le_of_ble_eq_true rfl) (zR_ok (by omega) (by decide)) ⟨(Nat.le_of_ble_eq_true rfl), (Nat.le_of_ble_eq_true rfl)⟩ dX12_twice_42 (fun H locs hW hS => ?_)
        refine W.eq (g2 := F0 m 45 ls [.int r25]) rfl ?_
        refine lv_iload_n hx hb dX12_twice_45 rfl (lv_at hl 3 rfl) ?_
        refine lv_isub hx hb dX12_twice_46 ?_
        refine lv_goto (tgt := 51) hx hb dX12_twice_47 (by decide) ?_
        exact B51 st7 r8 r11 (r25 - a1) _ _ _ h hW hS (lv_sub hl [2, 4, 1, 0] rfl)
    · refine lv_ldc2 (v := (-9223372036854775808)) hx hb hown (hq _ (zi zm740)) dX12_twice_18 ?_
      obtain ⟨rfl, rfl⟩ := Prod.mk.inj (Option.some.inj h)
      exact z_rl hx hb hr hlk hW hS (Nat.le_of_ble_eq_true rfl) (Nat.le_of_ble_eq_true rfl) dX12_twice_21
def f_X12_quick_99 (N : Nat) (st : zS) (o : Nat) (a1 : Int32) (a2 : Int32) (a3 : Int32) (k46 : Int32 → Int32 → Int32 → Option Int32) (x4 : Int32) (x5 : Int32) (x6 : Int32) : Option Int32 := (k46 x4 x5 (x6 + (nI 1)))
def f_X12_quick_91 (N : Nat) (st : zS) (o : Nat) (a1 : Int32) (a2 : Int32) (a3 : Int32) (k46 : Int32 → Int32 → Int32 → Option Int32) (x6 : Int32) (x7 : Int32) : Option Int32 := (f_X12_quick_99 N st o a1 a2 a3 k46 x6 x7 x6)
def f_X12_quick_46 (N : Nat) (st : zS) (o : Nat) (a1 : Int32) (a2 : Int32) (a3 : Int32)  : Nat → Int32 → Int32 → Int32 → Option Int32
  | 0, _, _, _ => none
  | n46 + 1, x4, x5, x6 => (if zTg st o ∈ [22] then (Option.bind (zR st o 1) (fun b8 => (if zTg st b8 ∈ [1] then (if zin (nI 0) (zLn st b8) then (if (zM st b8 ((nI 0)).toNatClampNeg) ≤ x6 then (if a3 = 0 then (some x4) else (some x5)) else (Option.bind (f_X12_secondsOf N st o x6 a1) (fun r12 => (Option.bind (f_X12_penceOf st o x6 a1) (fun r14 => (if a2 < r14 then (f_X12_quick_99 N st o a1 a2 a3 (f_X12_quick_46 N st o a1 a2 a3 n46) x4 x5 x6) else (if x4 = (-5 : Int32) then (f_X12_quick_91 N st o a1 a2 a3 (f_X12_quick_46 N st o a1 a2 a3 n46) x6 r12) else (if x5 ≤ r12 then (f_X12_quick_99 N st o a1 a2 a3 (f_X12_quick_46 N st o a1 a2 a3 n46) x4 x5 x6) else (f_X12_quick_91 N st o a1 a2 a3 (f_X12_quick_46 N st o a1 a2 a3 n46) x6 r12))))))))) else none) else none))) else none)
def f_X12_quick (N : Nat) (st : zS) (o : Nat) (a1 : Int32) (a2 : Int32) (a3 : Int32) : Option Int32 := (Option.bind (f_X12_in a3 (nI 0) (nI 1)) (fun r2 => (if r2 = 0 then (some (-1 : Int32)) else (Option.bind (f_X12_in a1 (nI 1) (nI 40)) (fun r4 => (if r4 = 0 then (some (-2 : Int32)) else (Option.bind (f_X12_in a2 (nI 0) (nI 999)) (fun r6 => (if r6 = 0 then (some (-2 : Int32)) else (f_X12_quick_46 N st o a1 a2 a3 N (-5 : Int32) (-5 : Int32) (nI 0)))))))))))
set_option maxHeartbeats 1000000 in
set_option maxRecDepth 100000 in
theorem c_X12_quick (l : Launch) (G : zG) (N : Nat) (st : zS) (o : Nat) (a1 : Int32) (a2 : Int32) (a3 : Int32) {r : Int32} (h : f_X12_quick N st o a1 a2 a3 = some r) : zMet l G yX12_quick cX12_quick 8 (some .int) 2 0 0 [.ref (G.2.2.2 + o), .int a1, .int a2, .int a3] st (some (.int r)) st := by
  refine zMet_of (by decide +kernel) ?_
  intro p e s m args below meth c X
  obtain ⟨hx, hb, hr, hml, hown, hq, hlk, hK, -, hin, hW, hS⟩ := X
  have hown : s.vm.findClass RX12 = some m.cls := hown
  refine z_ent (by exact Nat.le_of_ble_eq_true rfl) (fun ls hl => ?_)
  have hl : lv_has ls 8 [(0, .ref (G.2.2.2 + o)), (1, .int a1), (2, .int a2), (3, .int a3)] := hl
  unfold f_X12_quick at h
  have B46 : ∀ (n46 : Nat) (x4 : Int32) (x5 : Int32) (x6 : Int32) (H : Heap) (locs : List Loc) (ls : Array Slot), f_X12_quick_46 N st o a1 a2 a3 n46 x4 x5 x6 = some r → zWd G st H → va_S (zA G) s.heap H locs → lv_has ls 8 [(0, .ref (G.2.2.2 + o)), (1, .int a1), (2, .int a2), (3, .int a3), (4, .int x4), (5, .int x5), (6, .int x6)] → W p l e (zRm 2 0 0) s m args below meth c H locs 0 0 (MQ below (zQ G (some (.int r)) st) args s 0 0 (zA G)) (F0 m 46 ls []) := by
    intro n46
    induction n46 with
    | zero =>
      intro x4 x5 x6 H locs ls h
      unfold f_X12_quick_46 at h
      cases h
    | succ n46 ih46 =>
      have B99 : ∀ (x4 : Int32) (x5 : Int32) (x6 : Int32) (H : Heap) (locs : List Loc) (ls : Array Slot), f_X12_quick_99 N st o a1 a2 a3 (f_X12_quick_46 N st o a1 a2 a3 n46) x4 x5 x6 = some r → zWd G st H → va_S (zA G) s.heap H locs → lv_has ls 8 [(0, .ref (G.2.2.2 + o)), (1, .int a1), (2, .int a2), (3, .int a3), (4, .int x4), (5, .int x5), (6, .int x6)] → W p l e (zRm 2 0 0) s m args below meth c H locs 0 0 (MQ below (zQ G (some (.int r)) st) args s 0 0 (zA G)) (F0 m 99 ls []) := by
        intro x4 x5 x6 H locs ls h hW hS hl
        unfold f_X12_quick_99 at h
        refine lv_iinc (v := (x6 + (nI 1))) (lv' := [(6, .int ((x6 + (nI 1)))), (0, .ref (G.2.2.2 + o)), (1, .int a1), (2, .int a2), (3, .int a3), (4, .int x4), (5, .int x5)]) hx hb dX12_quick_99 hl (k := 6) rfl rfl (by decide) rfl (fun ls hl => ?_)
        refine lv_goto (tgt := 46) hx hb dX12_quick_102 (by decide) ?_
        exact ih46 x4 x5 (x6 + (nI 1)) _ _ _ h hW hS (lv_sub hl [1, 2, 3, 4, 5, 6, 0] rfl)
      have B91 : ∀ (x6 : Int32) (x7 : Int32) (H : Heap) (locs : List Loc) (ls : Array Slot), f_X12_quick_91 N st o a1 a2 a3 (f_X12_quick_46 N st o a1 a2 a3 n46) x6 x7 = some r → zWd G st H → va_S (zA G) s.heap H locs → lv_has ls 8 [(0, .ref (G.2.2.2 + o)), (1, .int a1), (2, .int a2), (3, .int a3), (6, .int x6), (7, .int x7)] → W p l e (zRm 2 0 0) s m args below meth c H locs 0 0 (MQ below (zQ G (some (.int r)) st) args s 0 0 (zA G)) (F0 m 91 ls []) := by
        intro x6 x7 H locs ls h hW hS hl
        unfold f_X12_quick_91 at h
        refine lv_iload hx hb dX12_quick_91 (lv_at hl 4 rfl) ?_
        refine lv_istore (lv' := [(4, .int x6), (0, .ref (G.2.2.2 + o)), (1, .int a1), (2, .int a2), (3, .int a3), (6, .int x6), (7, .int x7)]) hx hb dX12_quick_93 hl (by decide) rfl (fun ls hl => ?_)
        refine lv_iload hx hb dX12_quick_95 (lv_at hl 6 rfl) ?_
        refine lv_istore (lv' := [(5, .int x7), (4, .int x6), (0, .ref (G.2.2.2 + o)), (1, .int a1), (2, .int a2), (3, .int a3), (6, .int x6), (7, .int x7)]) hx hb dX12_quick_97 hl (by decide) rfl (fun ls hl => ?_)
        exact B99 x6 x7 x6 _ _ _ h hW hS (lv_sub hl [2, 3, 4, 5, 1, 0, 6] rfl)
      intro x4 x5 x6 H locs ls h hW hS hl
      unfold f_X12_quick_46 at h
      refine lv_iload hx hb dX12_quick_46 (lv_at hl 6 rfl) ?_
      refine lv_aload_n hx hb dX12_quick_48 rfl (lv_at hl 0 rfl) ?_
      obtain ⟨t7, h⟩ := zc_at h
      obtain ⟨b8, hb8, h⟩ := zd_at h
      refine z_gR hx hb hq hown hK hW fs_RX12_9 t7 hb8 dX12_quick_49 ?_
      refine lv_iconst (v := (nI 0)) hx hb dX12_quick_52 (by decide) ?_
      obtain ⟨t9, h⟩ := zc_at h
      obtain ⟨t10, h⟩ := zc_at h
      refine z_alI hx hb hK hW (List.mem_singleton.mp t9) t10 dX12_quick_53 ?_
      refine z_br (lv_icmp_ge (tgt := 105) hx hb dX12_quick_54 (by decide)) h (fun h => ?_) (fun h => ?_)
      · refine lv_iload_n hx hb dX12_quick_105 rfl (lv_at hl 3 rfl) ?_
        refine z_brn (lv_if_ne (tgt := 114) hx hb dX12_quick_106 (by decide)) h (fun h => ?_) (fun h => ?_)
        · refine lv_iload hx hb dX12_quick_114 (lv_at hl 5 rfl) ?_
          obtain rfl := Option.some.inj h
          exact z_ri hx hb hr hlk hW hS (Nat.le_of_ble_eq_true rfl) (Nat.le_of_ble_eq_true rfl) dX12_quick_116
        · refine lv_iload hx hb dX12_quick_109 (lv_at hl 4 rfl) ?_
          refine lv_goto (tgt := 116) hx hb dX12_quick_111 (by decide) ?_
          obtain rfl := Option.some.inj h
          exact z_ri hx hb hr hlk hW hS (Nat.le_of_ble_eq_true rfl) (Nat.le_of_ble_eq_true rfl) dX12_quick_116
      · refine lv_aload_n hx hb dX12_quick_57 rfl (lv_at hl 0 rfl) ?_
        refine lv_iload hx hb dX12_quick_58 (lv_at hl 6 rfl) ?_
        refine lv_iload_n hx hb dX12_quick_60 rfl (lv_at hl 1 rfl) ?_
        obtain ⟨r12, c11, h⟩ := zd_at h
        refine z_cV hx hb hq hml hown hK hW hS 12 [.int x6, .int a1] [] rfl (List.mem_singleton.mp t7) (c_X12_secondsOf l G N st o x6 a1 c11) (zi zm552) (zi zm553) (zi zm554) (zi zm5) (zi zm555) cal_X12_secondsOf rfl rfl hl.1 rfl (Nat.le_of_ble_eq_true rfl) (zR_ok (by omega) (by decide)) ⟨(Nat.le_of_ble_eq_true rfl), (Nat.le_of_ble_eq_true rfl)⟩ dX12_quick_61 (fun H locs hW hS => ?_)
        refine W.eq (g2 := F0 m 64 ls [.int r12]) rfl ?_
        refine lv_istore (lv' := [(7, .int r12), (0, .ref (G.2.2.2 + o)), (1, .int a1), (2, .int a2), (3, .int a3), (4, .int x4), (5, .int x5), (6, .int x6)]) hx hb dX12_quick_64 hl (by decide) rfl (fun ls hl => ?_)
        refine lv_aload_n hx hb dX12_quick_66 rfl (lv_at hl 1 rfl) ?_
        refine lv_iload hx hb dX12_quick_67 (lv_at hl 7 rfl) ?_
        refine lv_iload_n hx hb dX12_quick_69 rfl (lv_at hl 2 rfl) ?_
        obtain ⟨r14, c13, h⟩ := zd_at h
        refine z_cV hx hb hq hml hown hK hW hS 12 [.int x6, .int a1] [] rfl (List.mem_singleton.mp t7) (c_X12_penceOf l G st o x6 a1 c13) (zi zm568) (zi zm569) (zi zm570) (zi zm5) (zi zm571) cal_X12_penceOf rfl rfl hl.1 rfl (Nat.le_of_ble_eq_true rfl) (zR_ok (by omega) (by decide)) ⟨(Nat.le_of_ble_eq_true rfl), (Nat.le_of_ble_eq_true rfl)⟩ dX12_quick_70 (fun H locs hW hS => ?_)
        refine W.eq (g2 := F0 m 73 ls [.int r14]) rfl ?_
        refine lv_iload_n hx hb dX12_quick_73 rfl (lv_at hl 3 rfl) ?_
        refine z_br (lv_icmp_gt (tgt := 99) hx hb dX12_quick_74 (by decide)) h (fun h => ?_) (fun h => ?_)
        · exact B99 x4 x5 x6 _ _ _ h hW hS (lv_sub hl [1, 2, 3, 4, 5, 6, 7] rfl)
        · refine lv_iload hx hb dX12_quick_77 (lv_at hl 5 rfl) ?_
          refine lv_bipush (v := (-5)) hx hb dX12_quick_79 (by decide) ?_
          refine z_br (lv_icmp_eq (tgt := 91) hx hb dX12_quick_81 (by decide)) h (fun h => ?_) (fun h => ?_)
          · exact B91 x6 r12 _ _ _ h hW hS (lv_sub hl [1, 2, 3, 4, 7, 0] rfl)
          · refine lv_iload hx hb dX12_quick_84 (lv_at hl 0 rfl) ?_
            refine lv_iload hx hb dX12_quick_86 (lv_at hl 6 rfl) ?_
            refine z_br (lv_icmp_ge (tgt := 99) hx hb dX12_quick_88 (by decide)) h (fun h => ?_) (fun h => ?_)
            · exact B99 x4 x5 x6 _ _ _ h hW hS (lv_sub hl [1, 2, 3, 4, 5, 6, 7] rfl)
            · exact B91 x6 r12 _ _ _ h hW hS (lv_sub hl [1, 2, 3, 4, 7, 0] rfl)
  refine lv_iload_n hx hb dX12_quick_0 rfl (lv_at hl 3 rfl) ?_
  refine lv_iconst (v := (nI 0)) hx hb dX12_quick_1 (by decide) ?_
  refine lv_iconst (v := (nI 1)) hx hb dX12_quick_2 (by decide) ?_
  obtain ⟨r2, c1, h⟩ := zd_at h
  refine z_cS hx hb hq hml hown hK hW hS [.int a3, .int ((nI 0)), .int ((nI 1))] [] (c_X12_in l G st a3 (nI 0) (nI 1) c1) (zi zm90) (zi zm91) (zi zm5) (zi zm92) cal_X12_in rfl hl.1 rfl (Nat.le_of_ble_eq_true rfl) (zR_ok (by omega) (by decide)) ⟨(Nat.le_of_ble_eq_true rfl), (Nat.le_of_ble_eq_true rfl)⟩ dX12_quick_3 (fun H locs hW hS => ?_)
  refine W.eq (g2 := F0 m 6 ls [.int r2]) rfl ?_
  refine z_brn (lv_if_ne (tgt := 11) hx hb dX12_quick_6 (by decide)) h (fun h => ?_) (fun h => ?_)
  · refine lv_iload_n hx hb dX12_quick_11 rfl (lv_at hl 1 rfl) ?_
    refine lv_iconst (v := (nI 1)) hx hb dX12_quick_12 (by decide) ?_
    refine lv_bipush (v := (nI 40)) hx hb dX12_quick_13 (by decide) ?_
    obtain ⟨r4, c3, h⟩ := zd_at h
    refine z_cS hx hb hq hml hown hK hW hS [.int a1, .int ((nI 1)), .int ((nI 40))] [] (c_X12_in l G st a1 (nI 1) (nI 40) c3) (zi zm90) (zi zm91) (zi zm5) (zi zm92) cal_X12_in rfl hl.1 rfl (Nat.le_of_ble_eq_true rfl) (zR_ok (by omega) (by decide)) ⟨(Nat.le_of_ble_eq_true rfl), (Nat.le_of_ble_eq_true rfl)⟩ dX12_quick_15 (fun H locs hW hS => ?_)
    refine W.eq (g2 := F0 m 18 ls [.int r4]) rfl ?_
    refine z_br (lv_if_eq (tgt := 32) hx hb dX12_quick_18 (by decide)) h (fun h => ?_) (fun h => ?_)
    · refine lv_bipush (v := (-2)) hx hb dX12_quick_32 (by decide) ?_
      obtain rfl := Option.some.inj h
      exact z_ri hx hb hr hlk hW hS (Nat.le_of_ble_eq_true rfl) (Nat.le_of_ble_eq_true rfl) dX12_quick_34
    · refine lv_iload_n hx hb dX12_quick_21 rfl (lv_at hl 2 rfl) ?_
      refine lv_iconst (v := (nI 0)) hx hb dX12_quick_22 (by decide) ?_
      refine lv_sipush (v := (nI 999)) hx hb dX12_quick_23 (by decide) ?_
      obtain ⟨r6, c5, h⟩ := zd_at h
      refine z_cS hx hb hq hml hown hK hW hS [.int a2, .int ((nI 0)), .int ((nI 999))] [] (c_X12_in l G st a2 (nI 0) (nI 999) c5) (zi zm90) (zi zm91) (zi zm5) (zi zm92) cal_X12_in rfl hl.1 rfl (Nat.le_of_ble_eq_true rfl) (zR_ok (by omega) (by decide)) ⟨(Nat.le_of_ble_eq_true rfl), (Nat.le_of_ble_eq_true rfl)⟩ dX12_quick_26 (fun H locs hW hS => ?_)
      refine W.eq (g2 := F0 m 29 ls [.int r6]) rfl ?_
      refine z_brn (lv_if_ne (tgt := 35) hx hb dX12_quick_29 (by decide)) h (fun h => ?_) (fun h => ?_)
      · refine lv_bipush (v := (-5)) hx hb dX12_quick_35 (by decide) ?_
        refine lv_istore (lv' := [(4, .int ((-5))), (0, .ref (G.2.2.2 + o)), (1, .int a1), (2, .int a2), (3, .int a3)]) hx hb dX12_quick_37 hl (by decide) rfl (fun ls hl => ?_)
        refine lv_bipush (v := (-5)) hx hb dX12_quick_39 (by decide) ?_
        refine lv_istore (lv' := [(5, .int ((-5))), (4, .int ((-5))), (0, .ref (G.2.2.2 + o)), (1, .int a1), (2, .int a2), (3, .int a3)]) hx hb dX12_quick_41 hl (by decide) rfl (fun ls hl => ?_)
        refine lv_iconst (v := (nI 0)) hx hb dX12_quick_43 (by decide) ?_
        refine lv_istore (lv' := [(6, .int ((nI 0))), (5, .int ((-5))), (4, .int ((-5))), (0, .ref (G.2.2.2 + o)), (1, .int a1), (2, .int a2), (3, .int a3)]) hx hb dX12_quick_44 hl (by decide) rfl (fun ls hl => ?_)
        exact B46 N (-5 : Int32) (-5 : Int32) (nI 0) _ _ _ h hW hS (lv_sub hl [3, 4, 5, 6, 2, 1, 0] rfl)
      · refine lv_bipush (v := (-2)) hx hb dX12_quick_32 (by decide) ?_
        obtain rfl := Option.some.inj h
        exact z_ri hx hb hr hlk hW hS (Nat.le_of_ble_eq_true rfl) (Nat.le_of_ble_eq_true rfl) dX12_quick_34
  · refine lv_iconst (v := (-1)) hx hb dX12_quick_9 (by decide) ?_
    obtain rfl := Option.some.inj h
    exact z_ri hx hb hr hlk hW hS (Nat.le_of_ble_eq_true rfl) (Nat.le_of_ble_eq_true rfl) dX12_quick_10
def f_X12_triesChange_58 (N : Nat) (o : Nat) (a1 : Int32) (a2 : Int32) (a3 : Int32) (a4 : Int32) (a5 : Int32)  (st : zS) (x6 : Int32) : Option zS := (if zTg st o ∈ [22] then (some (zPM (zPM (zPM (zPM st o 13 x6) o 14 a4) o 15 a3) o 16 a5)) else none)
def f_X12_triesChange (N : Nat) (st : zS) (o : Nat) (a1 : Int32) (a2 : Int32) (a3 : Int32) (a4 : Int32) (a5 : Int32) : Option zS := (if zTg st o ∈ [22] then (Option.bind (f_X12_secondsOf N st o a4 a3) (fun r3 => (Option.bind (f_X12_secondsOf N st o a5 (a1 - a3)) (fun r5 => (zl (r3 + r5) (fun v6 => (Option.bind (f_X12_penceOf st o a4 a3) (fun r8 => (Option.bind (f_X12_penceOf st o a5 (a1 - a3)) (fun r10 => (if a2 < (r8 + r10) then (some st) else (if (zM st o 13) = (-5 : Int32) then (f_X12_triesChange_58 N o a1 a2 a3 a4 a5 st v6) else (if (zM st o 13) ≤ v6 then (some st) else (f_X12_triesChange_58 N o a1 a2 a3 a4 a5 st v6)))))))))))))) else none)
set_option maxHeartbeats 1000000 in
set_option maxRecDepth 100000 in
theorem c_X12_triesChange (l : Launch) (G : zG) (N : Nat) (st : zS) (o : Nat) (a1 : Int32) (a2 : Int32) (a3 : Int32) (a4 : Int32) (a5 : Int32) {st' : zS} (h : f_X12_triesChange N st o a1 a2 a3 a4 a5 = some st') : zMet l G yX12_triesChange cX12_triesChange 7 none 2 0 0 [.ref (G.2.2.2 + o), .int a1, .int a2, .int a3, .int a4, .int a5] st none st' := by
  refine zMet_of (by decide +kernel) ?_
  intro p e s m args below meth c X
  obtain ⟨hx, hb, hr, hml, hown, hq, hlk, hK, -, hin, hW, hS⟩ := X
  have hown : s.vm.findClass RX12 = some m.cls := hown
  refine z_ent (by exact Nat.le_of_ble_eq_true rfl) (fun ls hl => ?_)
  have hl : lv_has ls 7 [(0, .ref (G.2.2.2 + o)), (1, .int a1), (2, .int a2), (3, .int a3), (4, .int a4), (5, .int a5)] := hl
  unfold f_X12_triesChange at h
  have B58 : ∀ (st : zS) (x6 : Int32) (H : Heap) (locs : List Loc) (ls : Array Slot), f_X12_triesChange_58 N o a1 a2 a3 a4 a5 st x6 = some st' → zWd G st H → va_S (zA G) s.heap H locs → lv_has ls 7 [(0, .ref (G.2.2.2 + o)), (3, .int a3), (4, .int a4), (5, .int a5), (6, .int x6)] → W p l e (zRm 2 0 0) s m args below meth c H locs 0 0 (MQ below (zQ G none st') args s 0 0 (zA G)) (F0 m 58 ls []) := by
    intro st x6 H locs ls h hW hS hl
    unfold f_X12_triesChange_58 at h
    refine lv_aload_n hx hb dX12_triesChange_58 rfl (lv_at hl 0 rfl) ?_
    refine lv_iload hx hb dX12_triesChange_59 (lv_at hl 4 rfl) ?_
    obtain ⟨t11, h⟩ := zc_at h
    refine z_pI hx hb hq hown hK hW hS fp_RX12_193 t11 (fun h => by cases h) rfl rfl dX12_triesChange_61 (fun H locs hW hS => ?_)
    refine lv_aload_n hx hb dX12_triesChange_64 rfl (lv_at hl 0 rfl) ?_
    refine lv_iload hx hb dX12_triesChange_65 (lv_at hl 2 rfl) ?_
    refine z_pI hx hb hq hown hK hW hS fp_RX12_196 t11 (fun h => by cases h) rfl rfl dX12_triesChange_67 (fun H locs hW hS => ?_)
    refine lv_aload_n hx hb dX12_triesChange_70 rfl (lv_at hl 0 rfl) ?_
    refine lv_iload_n hx hb dX12_triesChange_71 rfl (lv_at hl 1 rfl) ?_
    refine z_pI hx hb hq hown hK hW hS fp_RX12_199 t11 (fun h => by cases h) rfl rfl dX12_triesChange_72 (fun H locs hW hS => ?_)
    refine lv_aload_n hx hb dX12_triesChange_75 rfl (lv_at hl 0 rfl) ?_
    refine lv_iload hx hb dX12_triesChange_76 (lv_at hl 3 rfl) ?_
    refine z_pI hx hb hq hown hK hW hS fp_RX12_202 t11 (fun h => by cases h) rfl rfl dX12_triesChange_78 (fun H locs hW hS => ?_)
    obtain rfl := Option.some.inj h
    exact z_rv hx hb hr hlk hW hS (Nat.le_of_ble_eq_true rfl) (Nat.le_of_ble_eq_true rfl) dX12_triesChange_81
  refine lv_aload_n hx hb dX12_triesChange_0 rfl (lv_at hl 0 rfl) ?_
  refine lv_iload hx hb dX12_triesChange_1 (lv_at hl 4 rfl) ?_
  refine lv_iload_n hx hb dX12_triesChange_3 rfl (lv_at hl 3 rfl) ?_
  obtain ⟨t1, h⟩ := zc_at h
  obtain ⟨r3, c2, h⟩ := zd_at h
  refine z_cV hx hb hq hml hown hK hW hS 12 [.int a4, .int a3] [] rfl (List.mem_singleton.mp t1) (c_X12_secondsOf l G N st o a4 a3 c2) (zi zm552) (zi zm553) (zi zm554) (zi zm5) (zi zm555) cal_X12_secondsOf rfl rfl hl.1 rfl (Nat.le_of_ble_eq_true rfl) (zR_ok (by omega) (by decide)) ⟨(Nat.le_of_ble_eq_true rfl), (Nat.le_of_ble_eq_true rfl)⟩ dX12_triesChange_4 (fun H locs hW hS => ?_)
  refine W.eq (g2 := F0 m 7 ls [.int r3]) rfl ?_
  refine lv_aload_n hx hb dX12_triesChange_7 rfl (lv_at hl 0 rfl) ?_
  refine lv_iload hx hb dX12_triesChange_8 (lv_at hl 5 rfl) ?_
  refine lv_iload_n hx hb dX12_triesChange_10 rfl (lv_at hl 1 rfl) ?_
  refine lv_iload_n hx hb dX12_triesChange_11 rfl (lv_at hl 3 rfl) ?_
  refine lv_isub hx hb dX12_triesChange_12 ?_
  obtain ⟨r5, c4, h⟩ := zd_at h
  refine z_cV hx hb hq hml hown hK hW hS 12 [.int a5, .int ((a1 - a3))] [.int r3] rfl (List.mem_singleton.mp t1) (c_X12_secondsOf l G N st o a5 (a1 - a3) c4) (zi zm552) (zi zm553) (zi zm554) (zi zm5) (zi zm555) cal_X12_secondsOf rfl rfl hl.1 rfl (Nat.le_of_ble_eq_true rfl) (zR_ok (by omega) (by decide)) ⟨(Nat.le_of_ble_eq_true rfl), (Nat.le_of_ble_eq_true rfl)⟩ dX12_triesChange_13 (fun H locs hW hS => ?_)
  refine W.eq (g2 := F0 m 16 ls [.int r5, .int r3]) rfl ?_
  refine lv_iadd hx hb dX12_triesChange_16 ?_
  refine lv_topi (fun v6 ev6 => ?_)
  have h := zl_at ev6 h
  refine lv_istore (lv' := [(6, .int v6), (0, .ref (G.2.2.2 + o)), (1, .int a1), (2, .int a2), (3, .int a3), (4, .int a4), (5, .int a5)]) hx hb dX12_triesChange_17 hl (by decide) rfl (fun ls hl => ?_)
  refine lv_aload_n hx hb dX12_triesChange_19 rfl (lv_at hl 1 rfl) ?_
  refine lv_iload hx hb dX12_triesChange_20 (lv_at hl 5 rfl) ?_
  refine lv_iload_n hx hb dX12_triesChange_22 rfl (lv_at hl 4 rfl) ?_
  obtain ⟨r8, c7, h⟩ := zd_at h
  refine z_cV hx hb hq hml hown hK hW hS 12 [.int a4, .int a3] [] rfl (List.mem_singleton.mp t1) (c_X12_penceOf l G st o a4 a3 c7) (zi zm568) (zi zm569) (zi zm570) (zi zm5) (zi zm571) cal_X12_penceOf rfl rfl hl.1 rfl (Nat.le_of_ble_eq_true rfl) (zR_ok (by omega) (by decide)) ⟨(Nat.le_of_ble_eq_true rfl), (Nat.le_of_ble_eq_true rfl)⟩ dX12_triesChange_23 (fun H locs hW hS => ?_)
  refine W.eq (g2 := F0 m 26 ls [.int r8]) rfl ?_
  refine lv_aload_n hx hb dX12_triesChange_26 rfl (lv_at hl 1 rfl) ?_
  refine lv_iload hx hb dX12_triesChange_27 (lv_at hl 6 rfl) ?_
  refine lv_iload_n hx hb dX12_triesChange_29 rfl (lv_at hl 2 rfl) ?_
  refine lv_iload_n hx hb dX12_triesChange_30 rfl (lv_at hl 4 rfl) ?_
  refine lv_isub hx hb dX12_triesChange_31 ?_
  obtain ⟨r10, c9, h⟩ := zd_at h
  refine z_cV hx hb hq hml hown hK hW hS 12 [.int a5, .int ((a1 - a3))] [.int r8] rfl (List.mem_singleton.mp t1) (c_X12_penceOf l G st o a5 (a1 - a3) c9) (zi zm568) (zi zm569) (zi zm570) (zi zm5) (zi zm571) cal_X12_penceOf rfl rfl hl.1 rfl (Nat.le_of_ble_eq_true rfl) (zR_ok (by omega) (by decide)) ⟨(Nat.le_of_ble_eq_true rfl), (Nat.le_of_ble_eq_true rfl)⟩ dX12_triesChange_32 (fun H locs hW hS => ?_)
  refine W.eq (g2 := F0 m 35 ls [.int r10, .int r8]) rfl ?_
  refine lv_iadd hx hb dX12_triesChange_35 ?_
  refine lv_iload_n hx hb dX12_triesChange_36 rfl (lv_at hl 3 rfl) ?_
  refine z_br (lv_icmp_gt (tgt := 81) hx hb dX12_triesChange_37 (by decide)) h (fun h => ?_) (fun h => ?_)
  · obtain rfl := Option.some.inj h
    exact z_rv hx hb hr hlk hW hS (Nat.le_of_ble_eq_true rfl) (Nat.le_of_ble_eq_true rfl) dX12_triesChange_81
  · refine lv_aload_n hx hb dX12_triesChange_40 rfl (lv_at hl 1 rfl) ?_
    refine z_gI hx hb hq hown hK hW fs_RX12_193 t1 dX12_triesChange_41 ?_
    refine lv_bipush (v := (-5)) hx hb dX12_triesChange_44 (by decide) ?_
    refine z_br (lv_icmp_eq (tgt := 58) hx hb dX12_triesChange_46 (by decide)) h (fun h => ?_) (fun h => ?_)
    · exact B58 st v6 _ _ _ h hW hS (lv_sub hl [1, 4, 5, 6, 0] rfl)
    · refine lv_iload hx hb dX12_triesChange_49 (lv_at hl 0 rfl) ?_
      refine lv_aload_n hx hb dX12_triesChange_51 rfl (lv_at hl 1 rfl) ?_
      refine z_gI hx hb hq hown hK hW fs_RX12_193 t1 dX12_triesChange_52 ?_
      refine z_br (lv_icmp_ge (tgt := 81) hx hb dX12_triesChange_55 (by decide)) h (fun h => ?_) (fun h => ?_)
      · obtain rfl := Option.some.inj h
        exact z_rv hx hb hr hlk hW hS (Nat.le_of_ble_eq_true rfl) (Nat.le_of_ble_eq_true rfl) dX12_triesChange_81
      · exact B58 st v6 _ _ _ h hW hS (lv_sub hl [1, 4, 5, 6, 0] rfl)
def f_X12_change_121 (N : Nat) (o : Nat) (a1 : Int32) (a2 : Int32) (a3 : Int32) (k62 : zS → Int32 → Option (zS × Int32)) (k71 : zS → Int32 → Int32 → Option (zS × Int32)) (k103 : zS → Int32 → Int32 → Int32 → Option (zS × Int32)) (st : zS) (x4 : Int32) (x5 : Int32) (x6 : Int32) (y0 : Int32) (y1 : Int32) : Option (zS × Int32) := (if y0 ≤ y1 then (k71 st x4 (x5 + (nI 1))) else (if zTg st o ∈ [22] then (Option.bind (f_X12_triesChange N st o a1 a2 x4 x5 x6) (fun st22 => (k103 st22 x4 x5 (x6 + (nI 1))))) else none))
def f_X12_change_103 (N : Nat) (o : Nat) (a1 : Int32) (a2 : Int32) (a3 : Int32) (k62 : zS → Int32 → Option (zS × Int32)) (k71 : zS → Int32 → Int32 → Option (zS × Int32)) : Nat → zS → Int32 → Int32 → Int32 → Option (zS × Int32)
  | 0, _, _, _, _ => none
  | n103 + 1, st, x4, x5, x6 => (if x4 = a1 then (f_X12_change_121 N o a1 a2 a3 k62 k71 (f_X12_change_103 N o a1 a2 a3 k62 k71 n103) st x4 x5 x6 (nI 1) x6) else (if zTg st o ∈ [22] then (Option.bind (zR st o 1) (fun b17 => (if zTg st b17 ∈ [1] then (if zin (nI 0) (zLn st b17) then (f_X12_change_121 N o a1 a2 a3 k62 k71 (f_X12_change_103 N o a1 a2 a3 k62 k71 n103) st x4 x5 x6 (zM st b17 ((nI 0)).toNatClampNeg) x6) else none) else none))) else none))
def f_X12_change_97 (N : Nat) (o : Nat) (a1 : Int32) (a2 : Int32) (a3 : Int32) (k62 : zS → Int32 → Option (zS × Int32)) (k71 : zS → Int32 → Int32 → Option (zS × Int32)) (st : zS) (x4 : Int32) (x5 : Int32) (y0 : Int32) (y1 : Int32) : Option (zS × Int32) := (if y0 ≤ y1 then (k62 st (x4 + (nI 1))) else (f_X12_change_103 N o a1 a2 a3 k62 k71 N st x4 x5 (nI 0)))
def f_X12_change_91 (N : Nat) (o : Nat) (a1 : Int32) (a2 : Int32) (a3 : Int32) (k62 : zS → Int32 → Option (zS × Int32)) (k71 : zS → Int32 → Int32 → Option (zS × Int32)) (st : zS) (x4 : Int32) (x5 : Int32) (y0 : Int32) : Option (zS × Int32) := (if zTg st o ∈ [22] then (Option.bind (zR st o 1) (fun b13 => (if zTg st b13 ∈ [1] then (if zin (nI 0) (zLn st b13) then (f_X12_change_97 N o a1 a2 a3 k62 k71 st x4 x5 (zM st b13 ((nI 0)).toNatClampNeg) y0) else none) else none))) else none)
def f_X12_change_71 (N : Nat) (o : Nat) (a1 : Int32) (a2 : Int32) (a3 : Int32) (k62 : zS → Int32 → Option (zS × Int32)) : Nat → zS → Int32 → Int32 → Option (zS × Int32)
  | 0, _, _, _ => none
  | n71 + 1, st, x4, x5 => (if x4 = 0 then (if zTg st o ∈ [22] then (Option.bind (zR st o 1) (fun b24 => (if zTg st b24 ∈ [1] then (if zin (nI 0) (zLn st b24) then (if (zM st b24 ((nI 0)).toNatClampNeg) ≤ 0 then (f_X12_change_91 N o a1 a2 a3 k62 (f_X12_change_71 N o a1 a2 a3 k62 n71) st x4 x5 x5) else (f_X12_change_97 N o a1 a2 a3 k62 (f_X12_change_71 N o a1 a2 a3 k62 n71) st x4 x5 (nI 1) x5)) else none) else none))) else none) else (f_X12_change_91 N o a1 a2 a3 k62 (f_X12_change_71 N o a1 a2 a3 k62 n71) st x4 x5 x5))
def f_X12_change_62 (N : Nat) (o : Nat) (a1 : Int32) (a2 : Int32) (a3 : Int32)  : Nat → zS → Int32 → Option (zS × Int32)
  | 0, _, _ => none
  | n62 + 1, st, x4 => (if a1 < x4 then (if a3 = 0 then (if zTg st o ∈ [22] then (some (st, (zM st o 13))) else none) else (if a3 = (nI 1) then (if zTg st o ∈ [22] then (some (st, (zM st o 14))) else none) else (if a3 = (nI 2) then (if zTg st o ∈ [22] then (some (st, (zM st o 15))) else none) else (if zTg st o ∈ [22] then (some (st, (zM st o 16))) else none)))) else (f_X12_change_71 N o a1 a2 a3 (f_X12_change_62 N o a1 a2 a3 n62) N st x4 (nI 0)))
def f_X12_change (N : Nat) (st : zS) (o : Nat) (a1 : Int32) (a2 : Int32) (a3 : Int32) : Option (zS × Int32) := (Option.bind (f_X12_in a3 (nI 0) (nI 3)) (fun r2 => (if r2 = 0 then (some (st, (-1 : Int32))) else (Option.bind (f_X12_in a1 (nI 1) (nI 40)) (fun r4 => (if r4 = 0 then (some (st, (-2 : Int32))) else (Option.bind (f_X12_in a2 (nI 0) (nI 999)) (fun r6 => (if r6 = 0 then (some (st, (-2 : Int32))) else (if zTg st o ∈ [22] then (f_X12_change_62 N o a1 a2 a3 N (zPM (zPM (zPM (zPM st o 13 (-5 : Int32)) o 14 (-5 : Int32)) o 15 (-5 : Int32)) o 16 (-5 : Int32)) (nI 0)) else none))))))))))
set_option maxHeartbeats 1000000 in
set_option maxRecDepth 100000 in
theorem c_X12_change (l : Launch) (G : zG) (N : Nat) (st : zS) (o : Nat) (a1 : Int32) (a2 : Int32) (a3 : Int32) {st' : zS} {r : Int32} (h : f_X12_change N st o a1 a2 a3 = some (st', r)) : zMet l G yX12_change cX12_change 7 (some .int) 3 0 0 [.ref (G.2.2.2 + o), .int a1, .int a2, .int a3] st (some (.int r)) st' := by
  refine zMet_of (by decide +kernel) ?_
  intro p e s m args below meth c X
  obtain ⟨hx, hb, hr, hml, hown, hq, hlk, hK, -, hin, hW, hS⟩ := X
  have hown : s.vm.findClass RX12 = some m.cls := hown
  refine z_ent (by exact Nat.le_of_ble_eq_true rfl) (fun ls hl => ?_)
  have hl : lv_has ls 7 [(0, .ref (G.2.2.2 + o)), (1, .int a1), (2, .int a2), (3, .int a3)] := hl
  unfold f_X12_change at h
  have B62 : ∀ (n62 : Nat) (st : zS) (x4 : Int32) (H : Heap) (locs : List Loc) (ls : Array Slot), f_X12_change_62 N o a1 a2 a3 n62 st x4 = some (st', r) → zWd G st H → va_S (zA G) s.heap H locs → lv_has ls 7 [(0, .ref (G.2.2.2 + o)), (1, .int a1), (2, .int a2), (3, .int a3), (4, .int x4)] → W p l e (zRm 3 0 0) s m args below meth c H locs 0 0 (MQ below (zQ G (some (.int r)) st') args s 0 0 (zA G)) (F0 m 62 ls []) := by
    intro n62
    induction n62 with
    | zero =>
      intro st x4 H locs ls h
      unfold f_X12_change_62 at h
      cases h
    | succ n62 ih62 =>
      have B71 : ∀ (n71 : Nat) (st : zS) (x4 : Int32) (x5 : Int32) (H : Heap) (locs : List Loc) (ls : Array Slot), f_X12_change_71 N o a1 a2 a3 (f_X12_change_62 N o a1 a2 a3 n62) n71 st x4 x5 = some (st', r) → zWd G st H → va_S (zA G) s.heap H locs → lv_has ls 7 [(0, .ref (G.2.2.2 + o)), (1, .int a1), (2, .int a2), (3, .int a3), (4, .int x4), (5, .int x5)] → W p l e (zRm 3 0 0) s m args below meth c H locs 0 0 (MQ below (zQ G (some (.int r)) st') args s 0 0 (zA G)) (F0 m 71 ls []) := by
        intro n71
        induction n71 with
        | zero =>
          intro st x4 x5 H locs ls h
          unfold f_X12_change_71 at h
          cases h
        | succ n71 ih71 =>
          have B103 : ∀ (n103 : Nat) (st : zS) (x4 : Int32) (x5 : Int32) (x6 : Int32) (H : Heap) (locs : List Loc) (ls : Array Slot), f_X12_change_103 N o a1 a2 a3 (f_X12_change_62 N o a1 a2 a3 n62) (f_X12_change_71 N o a1 a2 a3 (f_X12_change_62 N o a1 a2 a3 n62) n71) n103 st x4 x5 x6 = some (st', r) → zWd G st H → va_S (zA G) s.heap H locs → lv_has ls 7 [(0, .ref (G.2.2.2 + o)), (1, .int a1), (2, .int a2), (3, .int a3), (4, .int x4), (5, .int x5), (6, .int x6)] → W p l e (zRm 3 0 0) s m args below meth c H locs 0 0 (MQ below (zQ G (some (.int r)) st') args s 0 0 (zA G)) (F0 m 103 ls []) := by
            intro n103
            induction n103 with
            | zero =>
              intro st x4 x5 x6 H locs ls h
              unfold f_X12_change_103 at h
              cases h
            | succ n103 ih103 =>
              have B121 : ∀ (st : zS) (x4 : Int32) (x5 : Int32) (x6 : Int32) (y0 : Int32) (y1 : Int32) (H : Heap) (locs : List Loc) (ls : Array Slot), f_X12_change_121 N o a1 a2 a3 (f_X12_change_62 N o a1 a2 a3 n62) (f_X12_change_71 N o a1 a2 a3 (f_X12_change_62 N o a1 a2 a3 n62) n71) (f_X12_change_103 N o a1 a2 a3 (f_X12_change_62 N o a1 a2 a3 n62) (f_X12_change_71 N o a1 a2 a3 (f_X12_change_62 N o a1 a2 a3 n62) n71) n103) st x4 x5 x6 y0 y1 = some (st', r) → zWd G st H → va_S (zA G) s.heap H locs → lv_has ls 7 [(0, .ref (G.2.2.2 + o)), (1, .int a1), (2, .int a2), (3, .int a3), (4, .int x4), (5, .int x5), (6, .int x6)] → W p l e (zRm 3 0 0) s m args below meth c H locs 0 0 (MQ below (zQ G (some (.int r)) st') args s 0 0 (zA G)) (F0 m 121 ls [.int y0, .int y1]) := by
                intro st x4 x5 x6 y0 y1 H locs ls h hW hS hl
                unfold f_X12_change_121 at h
                refine z_br (lv_icmp_ge (tgt := 142) hx hb dX12_change_121 (by decide)) h (fun h => ?_) (fun h => ?_)
                · refine lv_iinc (v := (x5 + (nI 1))) (lv' := [(5, .int ((x5 + (nI 1)))), (0, .ref (G.2.2.2 + o)), (1, .int a1), (2, .int a2), (3, .int a3), (4, .int x4), (6, .int x6)]) hx hb dX12_change_142 hl (k := 5) rfl rfl (by decide) rfl (fun ls hl => ?_)
                  refine lv_goto (tgt := 71) hx hb dX12_change_145 (by decide) ?_
                  exact ih71 st x4 (x5 + (nI 1)) _ _ _ h hW hS (lv_sub hl [1, 2, 3, 4, 5, 0] rfl)
                · refine lv_aload_n hx hb dX12_change_124 rfl (lv_at hl 0 rfl) ?_
                  refine lv_iload_n hx hb dX12_change_125 rfl (lv_at hl 1 rfl) ?_
                  refine lv_iload_n hx hb dX12_change_126 rfl (lv_at hl 2 rfl) ?_
                  refine lv_iload hx hb dX12_change_127 (lv_at hl 4 rfl) ?_
                  refine lv_iload hx hb dX12_change_129 (lv_at hl 5 rfl) ?_
                  refine lv_iload hx hb dX12_change_131 (lv_at hl 6 rfl) ?_
                  obtain ⟨t20, h⟩ := zc_at h
                  obtain ⟨st22, c21, h⟩ := zd_at h
                  refine z_cV hx hb hq hml hown hK hW hS 12 [.int a1, .int a2, .int x4, .int x5, .int x6] [] rfl (List.mem_singleton.mp t20) (c_X12_triesChange l G N st o a1 a2 x4 x5 x6 c21) (zi zm808) (zi zm809) (zi zm810) (zi zm5) (zi zm811) cal_X12_triesChange rfl rfl hl.1 rfl (Nat.le_of_ble_eq_true rfl) (zR_ok (by omega) (by decide)) ⟨(Nat.le_of_ble_eq_true rfl), (Nat.le_of_ble_eq_true rfl)⟩ dX12_change_133 (fun H locs hW hS => ?_)
                  refine W.eq (g2 := F0 m 136 ls []) rfl ?_
                  refine lv_iinc (v := (x6 + (nI 1))) (lv' := [(6, .int ((x6 + (nI 1)))), (0, .ref (G.2.2.2 + o)), (1, .int a1), (2, .int a2), (3, .int a3), (4, .int x4), (5, .int x5)]) hx hb dX12_change_136 hl (k := 6) rfl rfl (by decide) rfl (fun ls hl => ?_)
                  refine lv_goto (tgt := 103) hx hb dX12_change_139 (by decide) ?_
                  exact ih103 st22 x4 x5 (x6 + (nI 1)) _ _ _ h hW hS (lv_sub hl [1, 2, 3, 4, 5, 6, 0] rfl)
              intro st x4 x5 x6 H locs ls h hW hS hl
              unfold f_X12_change_103 at h
              refine lv_iload hx hb dX12_change_103 (lv_at hl 6 rfl) ?_
              refine lv_iload hx hb dX12_change_105 (lv_at hl 4 rfl) ?_
              refine lv_iload_n hx hb dX12_change_107 rfl (lv_at hl 1 rfl) ?_
              refine z_brn (lv_icmp_ne (tgt := 115) hx hb dX12_change_108 (by decide)) h (fun h => ?_) (fun h => ?_)
              · refine lv_aload_n hx hb dX12_change_115 rfl (lv_at hl 0 rfl) ?_
                obtain ⟨t16, h⟩ := zc_at h
                obtain ⟨b17, hb17, h⟩ := zd_at h
                refine z_gR hx hb hq hown hK hW fs_RX12_9 t16 hb17 dX12_change_116 ?_
                refine lv_iconst (v := (nI 0)) hx hb dX12_change_119 (by decide) ?_
                obtain ⟨t18, h⟩ := zc_at h
                obtain ⟨t19, h⟩ := zc_at h
                refine z_alI hx hb hK hW (List.mem_singleton.mp t18) t19 dX12_change_120 ?_
                exact B121 st x4 x5 x6 (zM st b17 ((nI 0)).toNatClampNeg) x6 _ _ _ h hW hS (lv_sub hl [0, 1, 2, 3, 4, 5, 6] rfl)
              · refine lv_iconst (v := (nI 1)) hx hb dX12_change_111 (by decide) ?_
                refine lv_goto (tgt := 121) hx hb dX12_change_112 (by decide) ?_
                exact B121 st x4 x5 x6 (nI 1) x6 _ _ _ h hW hS (lv_sub hl [0, 1, 2, 3, 4, 5, 6] rfl)
          have B97 : ∀ (st : zS) (x4 : Int32) (x5 : Int32) (y0 : Int32) (y1 : Int32) (H : Heap) (locs : List Loc) (ls : Array Slot), f_X12_change_97 N o a1 a2 a3 (f_X12_change_62 N o a1 a2 a3 n62) (f_X12_change_71 N o a1 a2 a3 (f_X12_change_62 N o a1 a2 a3 n62) n71) st x4 x5 y0 y1 = some (st', r) → zWd G st H → va_S (zA G) s.heap H locs → lv_has ls 7 [(0, .ref (G.2.2.2 + o)), (1, .int a1), (2, .int a2), (3, .int a3), (4, .int x4), (5, .int x5)] → W p l e (zRm 3 0 0) s m args below meth c H locs 0 0 (MQ below (zQ G (some (.int r)) st') args s 0 0 (zA G)) (F0 m 97 ls [.int y0, .int y1]) := by
            intro st x4 x5 y0 y1 H locs ls h hW hS hl
            unfold f_X12_change_97 at h
            refine z_br (lv_icmp_ge (tgt := 148) hx hb dX12_change_97 (by decide)) h (fun h => ?_) (fun h => ?_)
            · refine lv_iinc (v := (x4 + (nI 1))) (lv' := [(4, .int ((x4 + (nI 1)))), (0, .ref (G.2.2.2 + o)), (1, .int a1), (2, .int a2), (3, .int a3), (5, .int x5)]) hx hb dX12_change_148 hl (k := 4) rfl rfl (by decide) rfl (fun ls hl => ?_)
              refine lv_goto (tgt := 62) hx hb dX12_change_151 (by decide) ?_
              exact ih62 st (x4 + (nI 1)) _ _ _ h hW hS (lv_sub hl [1, 2, 3, 4, 0] rfl)
            · refine lv_iconst (v := (nI 0)) hx hb dX12_change_100 (by decide) ?_
              refine lv_istore (lv' := [(6, .int ((nI 0))), (0, .ref (G.2.2.2 + o)), (1, .int a1), (2, .int a2), (3, .int a3), (4, .int x4), (5, .int x5)]) hx hb dX12_change_101 hl (by decide) rfl (fun ls hl => ?_)
              exact B103 N st x4 x5 (nI 0) _ _ _ h hW hS (lv_sub hl [1, 2, 3, 4, 5, 6, 0] rfl)
          have B91 : ∀ (st : zS) (x4 : Int32) (x5 : Int32) (y0 : Int32) (H : Heap) (locs : List Loc) (ls : Array Slot), f_X12_change_91 N o a1 a2 a3 (f_X12_change_62 N o a1 a2 a3 n62) (f_X12_change_71 N o a1 a2 a3 (f_X12_change_62 N o a1 a2 a3 n62) n71) st x4 x5 y0 = some (st', r) → zWd G st H → va_S (zA G) s.heap H locs → lv_has ls 7 [(0, .ref (G.2.2.2 + o)), (1, .int a1), (2, .int a2), (3, .int a3), (4, .int x4), (5, .int x5)] → W p l e (zRm 3 0 0) s m args below meth c H locs 0 0 (MQ below (zQ G (some (.int r)) st') args s 0 0 (zA G)) (F0 m 91 ls [.int y0]) := by
            intro st x4 x5 y0 H locs ls h hW hS hl
            unfold f_X12_change_91 at h
            refine lv_aload_n hx hb dX12_change_91 rfl (lv_at hl 0 rfl) ?_
            obtain ⟨t12, h⟩ := zc_at h
            obtain ⟨b13, hb13, h⟩ := zd_at h
            refine z_gR hx hb hq hown hK hW fs_RX12_9 t12 hb13 dX12_change_92 ?_
            refine lv_iconst (v := (nI 0)) hx hb dX12_change_95 (by decide) ?_
            obtain ⟨t14, h⟩ := zc_at h
            obtain ⟨t15, h⟩ := zc_at h
            refine z_alI hx hb hK hW (List.mem_singleton.mp t14) t15 dX12_change_96 ?_
            exact B97 st x4 x5 (zM st b13 ((nI 0)).toNatClampNeg) y0 _ _ _ h hW hS (lv_sub hl [0, 1, 2, 3, 4, 5] rfl)
          intro st x4 x5 H locs ls h hW hS hl
          unfold f_X12_change_71 at h
          refine lv_iload hx hb dX12_change_71 (lv_at hl 5 rfl) ?_
          refine lv_iload hx hb dX12_change_73 (lv_at hl 4 rfl) ?_
          refine z_brn (lv_if_ne (tgt := 91) hx hb dX12_change_75 (by decide)) h (fun h => ?_) (fun h => ?_)
          · exact B91 st x4 x5 x5 _ _ _ h hW hS (lv_sub hl [0, 1, 2, 3, 4, 5] rfl)
          · refine lv_aload_n hx hb dX12_change_78 rfl (lv_at hl 0 rfl) ?_
            obtain ⟨t23, h⟩ := zc_at h
            obtain ⟨b24, hb24, h⟩ := zd_at h
            refine z_gR hx hb hq hown hK hW fs_RX12_9 t23 hb24 dX12_change_79 ?_
            refine lv_iconst (v := (nI 0)) hx hb dX12_change_82 (by decide) ?_
            obtain ⟨t25, h⟩ := zc_at h
            obtain ⟨t26, h⟩ := zc_at h
            refine z_alI hx hb hK hW (List.mem_singleton.mp t25) t26 dX12_change_83 ?_
            refine z_br (lv_if_le (tgt := 91) hx hb dX12_change_84 (by decide)) h (fun h => ?_) (fun h => ?_)
            · exact B91 st x4 x5 x5 _ _ _ h hW hS (lv_sub hl [0, 1, 2, 3, 4, 5] rfl)
            · refine lv_iconst (v := (nI 1)) hx hb dX12_change_87 (by decide) ?_
              refine lv_goto (tgt := 97) hx hb dX12_change_88 (by decide) ?_
              exact B97 st x4 x5 (nI 1) x5 _ _ _ h hW hS (lv_sub hl [0, 1, 2, 3, 4, 5] rfl)
      intro st x4 H locs ls h hW hS hl
      unfold f_X12_change_62 at h
      refine lv_iload hx hb dX12_change_62 (lv_at hl 4 rfl) ?_
      refine lv_iload_n hx hb dX12_change_64 rfl (lv_at hl 1 rfl) ?_
      refine z_br (lv_icmp_gt (tgt := 154) hx hb dX12_change_65 (by decide)) h (fun h => ?_) (fun h => ?_)
      · refine lv_iload_n hx hb dX12_change_154 rfl (lv_at hl 3 rfl) ?_
        refine z_brn (lv_if_ne (tgt := 165) hx hb dX12_change_155 (by decide)) h (fun h => ?_) (fun h => ?_)
        · refine lv_iload_n hx hb dX12_change_165 rfl (lv_at hl 3 rfl) ?_
          refine lv_iconst (v := (nI 1)) hx hb dX12_change_166 (by decide) ?_
          refine z_brn (lv_icmp_ne (tgt := 177) hx hb dX12_change_167 (by decide)) h (fun h => ?_) (fun h => ?_)
          · refine lv_iload_n hx hb dX12_change_177 rfl (lv_at hl 3 rfl) ?_
            refine lv_iconst (v := (nI 2)) hx hb dX12_change_178 (by decide) ?_
            refine z_brn (lv_icmp_ne (tgt := 189) hx hb dX12_change_179 (by decide)) h (fun h => ?_) (fun h => ?_)
            · refine lv_aload_n hx hb dX12_change_189 rfl (lv_at hl 0 rfl) ?_
              obtain ⟨t8, h⟩ := zc_at h
              refine z_gI hx hb hq hown hK hW fs_RX12_202 t8 dX12_change_190 ?_
              obtain ⟨rfl, rfl⟩ := Prod.mk.inj (Option.some.inj h)
              exact z_ri hx hb hr hlk hW hS (Nat.le_of_ble_eq_true rfl) (Nat.le_of_ble_eq_true rfl) dX12_change_193
            · refine lv_aload_n hx hb dX12_change_182 rfl (lv_at hl 0 rfl) ?_
              obtain ⟨t9, h⟩ := zc_at h
              refine z_gI hx hb hq hown hK hW fs_RX12_199 t9 dX12_change_183 ?_
              refine lv_goto (tgt := 193) hx hb dX12_change_186 (by decide) ?_
              obtain ⟨rfl, rfl⟩ := Prod.mk.inj (Option.some.inj h)
              exact z_ri hx hb hr hlk hW hS (Nat.le_of_ble_eq_true rfl) (Nat.le_of_ble_eq_true rfl) dX12_change_193
          · refine lv_aload_n hx hb dX12_change_170 rfl (lv_at hl 0 rfl) ?_
            obtain ⟨t10, h⟩ := zc_at h
            refine z_gI hx hb hq hown hK hW fs_RX12_196 t10 dX12_change_171 ?_
            refine lv_goto (tgt := 193) hx hb dX12_change_174 (by decide) ?_
            obtain ⟨rfl, rfl⟩ := Prod.mk.inj (Option.some.inj h)
            exact z_ri hx hb hr hlk hW hS (Nat.le_of_ble_eq_true rfl) (Nat.le_of_ble_eq_true rfl) dX12_change_193
        · refine lv_aload_n hx hb dX12_change_158 rfl (lv_at hl 0 rfl) ?_
          obtain ⟨t11, h⟩ := zc_at h
          refine z_gI hx hb hq hown hK hW fs_RX12_193 t11 dX12_change_159 ?_
          refine lv_goto (tgt := 193) hx hb dX12_change_162 (by decide) ?_
          obtain ⟨rfl, rfl⟩ := Prod.mk.inj (Option.some.inj h)
          exact z_ri hx hb hr hlk hW hS (Nat.le_of_ble_eq_true rfl) (Nat.le_of_ble_eq_true rfl) dX12_change_193
      · refine lv_iconst (v := (nI 0)) hx hb dX12_change_68 (by decide) ?_
        refine lv_istore (lv' := [(5, .int ((nI 0))), (0, .ref (G.2.2.2 + o)), (1, .int a1), (2, .int a2), (3, .int a3), (4, .int x4)]) hx hb dX12_change_69 hl (by decide) rfl (fun ls hl => ?_)
        exact B71 N st x4 (nI 0) _ _ _ h hW hS (lv_sub hl [1, 2, 3, 4, 5, 0] rfl)
  refine lv_iload_n hx hb dX12_change_0 rfl (lv_at hl 3 rfl) ?_
  refine lv_iconst (v := (nI 0)) hx hb dX12_change_1 (by decide) ?_
  refine lv_iconst (v := (nI 3)) hx hb dX12_change_2 (by decide) ?_
  obtain ⟨r2, c1, h⟩ := zd_at h
  refine z_cS hx hb hq hml hown hK hW hS [.int a3, .int ((nI 0)), .int ((nI 3))] [] (c_X12_in l G st a3 (nI 0) (nI 3) c1) (zi zm90) (zi zm91) (zi zm5) (zi zm92) cal_X12_in rfl hl.1 rfl (Nat.le_of_ble_eq_true rfl) (zR_ok (by omega) (by decide)) ⟨(Nat.le_of_ble_eq_true rfl), (Nat.le_of_ble_eq_true rfl)⟩ dX12_change_3 (fun H locs hW hS => ?_)
  refine W.eq (g2 := F0 m 6 ls [.int r2]) rfl ?_
  refine z_brn (lv_if_ne (tgt := 11) hx hb dX12_change_6 (by decide)) h (fun h => ?_) (fun h => ?_)
  · refine lv_iload_n hx hb dX12_change_11 rfl (lv_at hl 1 rfl) ?_
    refine lv_iconst (v := (nI 1)) hx hb dX12_change_12 (by decide) ?_
    refine lv_bipush (v := (nI 40)) hx hb dX12_change_13 (by decide) ?_
    obtain ⟨r4, c3, h⟩ := zd_at h
    refine z_cS hx hb hq hml hown hK hW hS [.int a1, .int ((nI 1)), .int ((nI 40))] [] (c_X12_in l G st a1 (nI 1) (nI 40) c3) (zi zm90) (zi zm91) (zi zm5) (zi zm92) cal_X12_in rfl hl.1 rfl (Nat.le_of_ble_eq_true rfl) (zR_ok (by omega) (by decide)) ⟨(Nat.le_of_ble_eq_true rfl), (Nat.le_of_ble_eq_true rfl)⟩ dX12_change_15 (fun H locs hW hS => ?_)
    refine W.eq (g2 := F0 m 18 ls [.int r4]) rfl ?_
    refine z_br (lv_if_eq (tgt := 32) hx hb dX12_change_18 (by decide)) h (fun h => ?_) (fun h => ?_)
    · refine lv_bipush (v := (-2)) hx hb dX12_change_32 (by decide) ?_
      obtain ⟨rfl, rfl⟩ := Prod.mk.inj (Option.some.inj h)
      exact z_ri hx hb hr hlk hW hS (Nat.le_of_ble_eq_true rfl) (Nat.le_of_ble_eq_true rfl) dX12_change_34
    · refine lv_iload_n hx hb dX12_change_21 rfl (lv_at hl 2 rfl) ?_
      refine lv_iconst (v := (nI 0)) hx hb dX12_change_22 (by decide) ?_
      refine lv_sipush (v := (nI 999)) hx hb dX12_change_23 (by decide) ?_
      obtain ⟨r6, c5, h⟩ := zd_at h
      refine z_cS hx hb hq hml hown hK hW hS [.int a2, .int ((nI 0)), .int ((nI 999))] [] (c_X12_in l G st a2 (nI 0) (nI 999) c5) (zi zm90) (zi zm91) (zi zm5) (zi zm92) cal_X12_in rfl hl.1 rfl (Nat.le_of_ble_eq_true rfl) (zR_ok (by omega) (by decide)) ⟨(Nat.le_of_ble_eq_true rfl), (Nat.le_of_ble_eq_true rfl)⟩ dX12_change_26 (fun H locs hW hS => ?_)
      refine W.eq (g2 := F0 m 29 ls [.int r6]) rfl ?_
      refine z_brn (lv_if_ne (tgt := 35) hx hb dX12_change_29 (by decide)) h (fun h => ?_) (fun h => ?_)
      · refine lv_aload_n hx hb dX12_change_35 rfl (lv_at hl 0 rfl) ?_
        refine lv_bipush (v := (-5)) hx hb dX12_change_36 (by decide) ?_
        obtain ⟨t7, h⟩ := zc_at h
        refine z_pI hx hb hq hown hK hW hS fp_RX12_193 t7 (fun h => by cases h) rfl rfl dX12_change_38 (fun H locs hW hS => ?_)
        refine lv_aload_n hx hb dX12_change_41 rfl (lv_at hl 0 rfl) ?_
        refine lv_bipush (v := (-5)) hx hb dX12_change_42 (by decide) ?_
        refine z_pI hx hb hq hown hK hW hS fp_RX12_196 t7 (fun h => by cases h) rfl rfl dX12_change_44 (fun H locs hW hS => ?_)
        refine lv_aload_n hx hb dX12_change_47 rfl (lv_at hl 0 rfl) ?_
        refine lv_bipush (v := (-5)) hx hb dX12_change_48 (by decide) ?_
        refine z_pI hx hb hq hown hK hW hS fp_RX12_199 t7 (fun h => by cases h) rfl rfl dX12_change_50 (fun H locs hW hS => ?_)
        refine lv_aload_n hx hb dX12_change_53 rfl (lv_at hl 0 rfl) ?_
        refine lv_bipush (v := (-5)) hx hb dX12_change_54 (by decide) ?_
        refine z_pI hx hb hq hown hK hW hS fp_RX12_202 t7 (fun h => by cases h) rfl rfl dX12_change_56 (fun H locs hW hS => ?_)
        refine lv_iconst (v := (nI 0)) hx hb dX12_change_59 (by decide) ?_
        refine lv_istore (lv' := [(4, .int ((nI 0))), (0, .ref (G.2.2.2 + o)), (1, .int a1), (2, .int a2), (3, .int a3)]) hx hb dX12_change_60 hl (by decide) rfl (fun ls hl => ?_)
        exact B62 N (zPM (zPM (zPM (zPM st o 13 (-5 : Int32)) o 14 (-5 : Int32)) o 15 (-5 : Int32)) o 16 (-5 : Int32)) (nI 0) _ _ _ h hW hS (lv_sub hl [1, 2, 3, 4, 0] rfl)
      · refine lv_bipush (v := (-2)) hx hb dX12_change_32 (by decide) ?_
        obtain ⟨rfl, rfl⟩ := Prod.mk.inj (Option.some.inj h)
        exact z_ri hx hb hr hlk hW hS (Nat.le_of_ble_eq_true rfl) (Nat.le_of_ble_eq_true rfl) dX12_change_34
  · refine lv_iconst (v := (-1)) hx hb dX12_change_9 (by decide) ?_
    obtain ⟨rfl, rfl⟩ := Prod.mk.inj (Option.some.inj h)
    exact z_ri hx hb hr hlk hW hS (Nat.le_of_ble_eq_true rfl) (Nat.le_of_ble_eq_true rfl) dX12_change_10
def f_X12_rests_134 (N : Nat) (st : zS) (o : Nat) (a1 : Int32) (a2 : Int32) (a3 : Int32) (a4 : Int32) (k53 : Int32 → Int32 → Int32 → Option Int32) (x5 : Int32) (x7 : Int32) (y0 : Int32) : Option Int32 := (k53 x5 y0 (x7 + (nI 1)))
def f_X12_rests_118 (N : Nat) (st : zS) (o : Nat) (a1 : Int32) (a2 : Int32) (a3 : Int32) (a4 : Int32) (k53 : Int32 → Int32 → Int32 → Option Int32) (x6 : Int32) (x7 : Int32) (x9 : Int32) (y0 : Int32) : Option Int32 := (if x6 ≤ x9 then (f_X12_rests_134 N st o a1 a2 a3 a4 k53 y0 x7 x6) else (f_X12_rests_134 N st o a1 a2 a3 a4 k53 y0 x7 x9))
def f_X12_rests_53 (N : Nat) (st : zS) (o : Nat) (a1 : Int32) (a2 : Int32) (a3 : Int32) (a4 : Int32)  : Nat → Int32 → Int32 → Int32 → Option Int32
  | 0, _, _, _ => none
  | n53 + 1, x5, x6, x7 => (if a2 < x7 then (if a4 = 0 then (some x5) else (some x6)) else (if ¬ x7 = 0 then (zl (a2 - a2 / x7 * x7) (fun v11 => (if ¬ x7 = 0 then (if zTg st o ∈ [22] then (Option.bind (f_X12_secondsOf N st o a1 ((a2 / x7) + (nI 1))) (fun r15 => (if ¬ x7 = 0 then (Option.bind (f_X12_secondsOf N st o a1 (a2 / x7)) (fun r18 => (zl (((v11 * r15) + ((x7 - v11) * r18)) + ((x7 - (nI 1)) * a3)) (fun v19 => (if x6 ≤ v19 then (f_X12_rests_118 N st o a1 a2 a3 a4 (f_X12_rests_53 N st o a1 a2 a3 a4 n53) x6 x7 v19 x5) else (f_X12_rests_118 N st o a1 a2 a3 a4 (f_X12_rests_53 N st o a1 a2 a3 a4 n53) x6 x7 v19 x7)))))) else none))) else none) else none))) else none))
def f_X12_rests (N : Nat) (st : zS) (o : Nat) (a1 : Int32) (a2 : Int32) (a3 : Int32) (a4 : Int32) : Option Int32 := (if zTg st o ∈ [22] then (Option.bind (f_X12_isWay st o a1) (fun r3 => (if r3 = 0 then (some (-1 : Int32)) else (Option.bind (f_X12_in a4 (nI 0) (nI 1)) (fun r5 => (if r5 = 0 then (some (-1 : Int32)) else (Option.bind (f_X12_in a2 (nI 1) (nI 40)) (fun r7 => (if r7 = 0 then (some (-2 : Int32)) else (Option.bind (f_X12_in a3 (nI 0) (nI 99)) (fun r9 => (if r9 = 0 then (some (-2 : Int32)) else (f_X12_rests_53 N st o a1 a2 a3 a4 N (nI 0) (nI 1000000) (nI 1)))))))))))))) else none)
set_option maxHeartbeats 1000000 in
set_option maxRecDepth 100000 in
theorem c_X12_rests (l : Launch) (G : zG) (N : Nat) (st : zS) (o : Nat) (a1 : Int32) (a2 : Int32) (a3 : Int32) (a4 : Int32) {r : Int32} (h : f_X12_rests N st o a1 a2 a3 a4 = some r) : zMet l G yX12_rests cX12_rests 10 (some .int) 2 0 0 [.ref (G.2.2.2 + o), .int a1, .int a2, .int a3, .int a4] st (some (.int r)) st := by
  refine zMet_of (by decide +kernel) ?_
  intro p e s m args below meth c X
  obtain ⟨hx, hb, hr, hml, hown, hq, hlk, hK, -, hin, hW, hS⟩ := X
  have hown : s.vm.findClass RX12 = some m.cls := hown
  refine z_ent (by exact Nat.le_of_ble_eq_true rfl) (fun ls hl => ?_)
  have hl : lv_has ls 10 [(0, .ref (G.2.2.2 + o)), (1, .int a1), (2, .int a2), (3, .int a3), (4, .int a4)] := hl
  unfold f_X12_rests at h
  have B53 : ∀ (n53 : Nat) (x5 : Int32) (x6 : Int32) (x7 : Int32) (H : Heap) (locs : List Loc) (ls : Array Slot), f_X12_rests_53 N st o a1 a2 a3 a4 n53 x5 x6 x7 = some r → zWd G st H → va_S (zA G) s.heap H locs → lv_has ls 10 [(0, .ref (G.2.2.2 + o)), (1, .int a1), (2, .int a2), (3, .int a3), (4, .int a4), (5, .int x5), (6, .int x6), (7, .int x7)] → W p l e (zRm 2 0 0) s m args below meth c H locs 0 0 (MQ below (zQ G (some (.int r)) st) args s 0 0 (zA G)) (F0 m 53 ls []) := by
    intro n53
    induction n53 with
    | zero =>
      intro x5 x6 x7 H locs ls h
      unfold f_X12_rests_53 at h
      cases h
    | succ n53 ih53 =>
      have B134 : ∀ (x5 : Int32) (x7 : Int32) (y0 : Int32) (H : Heap) (locs : List Loc) (ls : Array Slot), f_X12_rests_134 N st o a1 a2 a3 a4 (f_X12_rests_53 N st o a1 a2 a3 a4 n53) x5 x7 y0 = some r → zWd G st H → va_S (zA G) s.heap H locs → lv_has ls 10 [(0, .ref (G.2.2.2 + o)), (1, .int a1), (2, .int a2), (3, .int a3), (4, .int a4), (5, .int x5), (7, .int x7)] → W p l e (zRm 2 0 0) s m args below meth c H locs 0 0 (MQ below (zQ G (some (.int r)) st) args s 0 0 (zA G)) (F0 m 134 ls [.int y0]) := by
        intro x5 x7 y0 H locs ls h hW hS hl
        unfold f_X12_rests_134 at h
        refine lv_istore (lv' := [(6, .int y0), (0, .ref (G.2.2.2 + o)), (1, .int a1), (2, .int a2), (3, .int a3), (4, .int a4), (5, .int x5), (7, .int x7)]) hx hb dX12_rests_134 hl (by decide) rfl (fun ls hl => ?_)
        refine lv_iinc (v := (x7 + (nI 1))) (lv' := [(7, .int ((x7 + (nI 1)))), (6, .int y0), (0, .ref (G.2.2.2 + o)), (1, .int a1), (2, .int a2), (3, .int a3), (4, .int a4), (5, .int x5)]) hx hb dX12_rests_136 hl (k := 7) rfl rfl (by decide) rfl (fun ls hl => ?_)
        refine lv_goto (tgt := 53) hx hb dX12_rests_139 (by decide) ?_
        exact ih53 x5 y0 (x7 + (nI 1)) _ _ _ h hW hS (lv_sub hl [2, 3, 4, 5, 6, 7, 1, 0] rfl)
      have B118 : ∀ (x6 : Int32) (x7 : Int32) (x9 : Int32) (y0 : Int32) (H : Heap) (locs : List Loc) (ls : Array Slot), f_X12_rests_118 N st o a1 a2 a3 a4 (f_X12_rests_53 N st o a1 a2 a3 a4 n53) x6 x7 x9 y0 = some r → zWd G st H → va_S (zA G) s.heap H locs → lv_has ls 10 [(0, .ref (G.2.2.2 + o)), (1, .int a1), (2, .int a2), (3, .int a3), (4, .int a4), (6, .int x6), (7, .int x7), (9, .int x9)] → W p l e (zRm 2 0 0) s m args below meth c H locs 0 0 (MQ below (zQ G (some (.int r)) st) args s 0 0 (zA G)) (F0 m 118 ls [.int y0]) := by
        intro x6 x7 x9 y0 H locs ls h hW hS hl
        unfold f_X12_rests_118 at h
        refine lv_istore (lv' := [(5, .int y0), (0, .ref (G.2.2.2 + o)), (1, .int a1), (2, .int a2), (3, .int a3), (4, .int a4), (6, .int x6), (7, .int x7), (9, .int x9)]) hx hb dX12_rests_118 hl (by decide) rfl (fun ls hl => ?_)
        refine lv_iload hx hb dX12_rests_120 (lv_at hl 8 rfl) ?_
        refine lv_iload hx hb dX12_rests_122 (lv_at hl 6 rfl) ?_
        refine z_br (lv_icmp_ge (tgt := 132) hx hb dX12_rests_124 (by decide)) h (fun h => ?_) (fun h => ?_)
        · refine lv_iload hx hb dX12_rests_132 (lv_at hl 6 rfl) ?_
          exact B134 y0 x7 x6 _ _ _ h hW hS (lv_sub hl [1, 2, 3, 4, 5, 0, 7] rfl)
        · refine lv_iload hx hb dX12_rests_127 (lv_at hl 8 rfl) ?_
          refine lv_goto (tgt := 134) hx hb dX12_rests_129 (by decide) ?_
          exact B134 y0 x7 x9 _ _ _ h hW hS (lv_sub hl [1, 2, 3, 4, 5, 0, 7] rfl)
      intro x5 x6 x7 H locs ls h hW hS hl
      unfold f_X12_rests_53 at h
      refine lv_iload hx hb dX12_rests_53 (lv_at hl 7 rfl) ?_
      refine lv_iload_n hx hb dX12_rests_55 rfl (lv_at hl 2 rfl) ?_
      refine z_br (lv_icmp_gt (tgt := 142) hx hb dX12_rests_56 (by decide)) h (fun h => ?_) (fun h => ?_)
      · refine lv_iload hx hb dX12_rests_142 (lv_at hl 4 rfl) ?_
        refine z_brn (lv_if_ne (tgt := 152) hx hb dX12_rests_144 (by decide)) h (fun h => ?_) (fun h => ?_)
        · refine lv_iload hx hb dX12_rests_152 (lv_at hl 6 rfl) ?_
          obtain rfl := Option.some.inj h
          exact z_ri hx hb hr hlk hW hS (Nat.le_of_ble_eq_true rfl) (Nat.le_of_ble_eq_true rfl) dX12_rests_154
        · refine lv_iload hx hb dX12_rests_147 (lv_at hl 5 rfl) ?_
          refine lv_goto (tgt := 154) hx hb dX12_rests_149 (by decide) ?_
          obtain rfl := Option.some.inj h
          exact z_ri hx hb hr hlk hW hS (Nat.le_of_ble_eq_true rfl) (Nat.le_of_ble_eq_true rfl) dX12_rests_154
      · refine lv_iload_n hx hb dX12_rests_59 rfl (lv_at hl 2 rfl) ?_
        refine lv_iload hx hb dX12_rests_60 (lv_at hl 7 rfl) ?_
        obtain ⟨t10, h⟩ := zc_at h
        refine lv_irem hx hb dX12_rests_62 t10 ?_
        refine lv_topi (fun v11 ev11 => ?_)
        have h := zl_at ev11 h
        refine lv_istore (lv' := [(8, .int v11), (0, .ref (G.2.2.2 + o)), (1, .int a1), (2, .int a2), (3, .int a3), (4, .int a4), (5, .int x5), (6, .int x6), (7, .int x7)]) hx hb dX12_rests_63 hl (by decide) rfl (fun ls hl => ?_)
        refine lv_iload hx hb dX12_rests_65 (lv_at hl 0 rfl) ?_
        refine lv_aload_n hx hb dX12_rests_67 rfl (lv_at hl 1 rfl) ?_
        refine lv_iload_n hx hb dX12_rests_68 rfl (lv_at hl 2 rfl) ?_
        refine lv_iload_n hx hb dX12_rests_69 rfl (lv_at hl 3 rfl) ?_
        refine lv_iload hx hb dX12_rests_70 (lv_at hl 8 rfl) ?_
        obtain ⟨t12, h⟩ := zc_at h
        refine lv_idiv hx hb dX12_rests_72 t12 ?_
        refine lv_iconst (v := (nI 1)) hx hb dX12_rests_73 (by decide) ?_
        refine lv_iadd hx hb dX12_rests_74 ?_
        obtain ⟨t13, h⟩ := zc_at h
        obtain ⟨r15, c14, h⟩ := zd_at h
        refine z_cV hx hb hq hml hown hK hW hS 12 [.int a1, .int (((a2 / x7) + (nI 1)))] [.int v11] rfl (List.mem_singleton.mp t13) (c_X12_secondsOf l G N st o a1 ((a2 / x7) + (nI 1)) c14) (zi zm552) (zi zm553) (zi zm554) (zi zm5) (zi zm555) cal_X12_secondsOf rfl rfl hl.1 rfl (Nat.le_of_ble_eq_true rfl) (zR_ok (by omega) (by decide)) ⟨(Nat.le_of_ble_eq_true rfl), (Nat.le_of_ble_eq_true rfl)⟩ dX12_rests_75 (fun H locs hW hS => ?_)
        refine W.eq (g2 := F0 m 78 ls [.int r15, .int v11]) rfl ?_
        refine lv_imul hx hb dX12_rests_78 ?_
        refine lv_iload hx hb dX12_rests_79 (lv_at hl 8 rfl) ?_
        refine lv_iload hx hb dX12_rests_81 (lv_at hl 0 rfl) ?_
        refine lv_isub hx hb dX12_rests_83 ?_
        refine lv_aload_n hx hb dX12_rests_84 rfl (lv_at hl 1 rfl) ?_
        refine lv_iload_n hx hb dX12_rests_85 rfl (lv_at hl 2 rfl) ?_
        refine lv_iload_n hx hb dX12_rests_86 rfl (lv_at hl 3 rfl) ?_
        refine lv_iload hx hb dX12_rests_87 (lv_at hl 8 rfl) ?_
        obtain ⟨t16, h⟩ := zc_at h
        refine lv_idiv hx hb dX12_rests_89 t16 ?_
        obtain ⟨r18, c17, h⟩ := zd_at h
        refine z_cV hx hb hq hml hown hK hW hS 12 [.int a1, .int ((a2 / x7))] [.int ((x7 - v11)), .int ((v11 * r15))] rfl (List.mem_singleton.mp t13) (c_X12_secondsOf l G N st o a1 (a2 / x7) c17) (zi zm552) (zi zm553) (zi zm554) (zi zm5) (zi zm555) cal_X12_secondsOf rfl rfl hl.1 rfl (Nat.le_of_ble_eq_true rfl) (zR_ok (by omega) (by decide)) ⟨(Nat.le_of_ble_eq_true rfl), (Nat.le_of_ble_eq_true rfl)⟩ dX12_rests_90 (fun H locs hW hS => ?_)
        refine W.eq (g2 := F0 m 93 ls [.int r18, .int ((x7 - v11)), .int ((v11 * r15))]) rfl ?_
        refine lv_imul hx hb dX12_rests_93 ?_
        refine lv_iadd hx hb dX12_rests_94 ?_
        refine lv_iload hx hb dX12_rests_95 (lv_at hl 8 rfl) ?_
        refine lv_iconst (v := (nI 1)) hx hb dX12_rests_97 (by decide) ?_
        refine lv_isub hx hb dX12_rests_98 ?_
        refine lv_iload_n hx hb dX12_rests_99 rfl (lv_at hl 4 rfl) ?_
        refine lv_imul hx hb dX12_rests_100 ?_
        refine lv_iadd hx hb dX12_rests_101 ?_
        refine lv_topi (fun v19 ev19 => ?_)
        have h := zl_at ev19 h
        refine lv_istore (lv' := [(9, .int v19), (8, .int v11), (0, .ref (G.2.2.2 + o)), (1, .int a1), (2, .int a2), (3, .int a3), (4, .int a4), (5, .int x5), (6, .int x6), (7, .int x7)]) hx hb dX12_rests_102 hl (by decide) rfl (fun ls hl => ?_)
        refine lv_iload hx hb dX12_rests_104 (lv_at hl 0 rfl) ?_
        refine lv_iload hx hb dX12_rests_106 (lv_at hl 8 rfl) ?_
        refine z_br (lv_icmp_ge (tgt := 116) hx hb dX12_rests_108 (by decide)) h (fun h => ?_) (fun h => ?_)
        · refine lv_iload hx hb dX12_rests_116 (lv_at hl 7 rfl) ?_
          exact B118 x6 x7 v19 x5 _ _ _ h hW hS (lv_sub hl [2, 3, 4, 5, 6, 8, 9, 0] rfl)
        · refine lv_iload hx hb dX12_rests_111 (lv_at hl 9 rfl) ?_
          refine lv_goto (tgt := 118) hx hb dX12_rests_113 (by decide) ?_
          exact B118 x6 x7 v19 x7 _ _ _ h hW hS (lv_sub hl [2, 3, 4, 5, 6, 8, 9, 0] rfl)
  refine lv_aload_n hx hb dX12_rests_0 rfl (lv_at hl 0 rfl) ?_
  refine lv_iload_n hx hb dX12_rests_1 rfl (lv_at hl 1 rfl) ?_
  obtain ⟨t1, h⟩ := zc_at h
  obtain ⟨r3, c2, h⟩ := zd_at h
  refine z_cV hx hb hq hml hown hK hW hS 12 [.int a1] [] rfl (List.mem_singleton.mp t1) (c_X12_isWay l G st o a1 c2) (zi zm430) (zi zm431) (zi zm432) (zi zm5) (zi zm433) cal_X12_isWay rfl rfl hl.1 rfl (Nat.le_of_ble_eq_true rfl) (zR_ok (by omega) (by decide)) ⟨(Nat.le_of_ble_eq_true rfl), (Nat.le_of_ble_eq_true rfl)⟩ dX12_rests_2 (fun H locs hW hS => ?_)
  refine W.eq (g2 := F0 m 5 ls [.int r3]) rfl ?_
  refine z_br (lv_if_eq (tgt := 18) hx hb dX12_rests_5 (by decide)) h (fun h => ?_) (fun h => ?_)
  · refine lv_iconst (v := (-1)) hx hb dX12_rests_18 (by decide) ?_
    obtain rfl := Option.some.inj h
    exact z_ri hx hb hr hlk hW hS (Nat.le_of_ble_eq_true rfl) (Nat.le_of_ble_eq_true rfl) dX12_rests_19
  · refine lv_iload hx hb dX12_rests_8 (lv_at hl 4 rfl) ?_
    refine lv_iconst (v := (nI 0)) hx hb dX12_rests_10 (by decide) ?_
    refine lv_iconst (v := (nI 1)) hx hb dX12_rests_11 (by decide) ?_
    obtain ⟨r5, c4, h⟩ := zd_at h
    refine z_cS hx hb hq hml hown hK hW hS [.int a4, .int ((nI 0)), .int ((nI 1))] [] (c_X12_in l G st a4 (nI 0) (nI 1) c4) (zi zm90) (zi zm91) (zi zm5) (zi zm92) cal_X12_in rfl hl.1 rfl (Nat.le_of_ble_eq_true rfl) (zR_ok (by omega) (by decide)) ⟨(Nat.le_of_ble_eq_true rfl), (Nat.le_of_ble_eq_true rfl)⟩ dX12_rests_12 (fun H locs hW hS => ?_)
    refine W.eq (g2 := F0 m 15 ls [.int r5]) rfl ?_
    refine z_brn (lv_if_ne (tgt := 20) hx hb dX12_rests_15 (by decide)) h (fun h => ?_) (fun h => ?_)
    · refine lv_iload_n hx hb dX12_rests_20 rfl (lv_at hl 2 rfl) ?_
      refine lv_iconst (v := (nI 1)) hx hb dX12_rests_21 (by decide) ?_
      refine lv_bipush (v := (nI 40)) hx hb dX12_rests_22 (by decide) ?_
      obtain ⟨r7, c6, h⟩ := zd_at h
      refine z_cS hx hb hq hml hown hK hW hS [.int a2, .int ((nI 1)), .int ((nI 40))] [] (c_X12_in l G st a2 (nI 1) (nI 40) c6) (zi zm90) (zi zm91) (zi zm5) (zi zm92) cal_X12_in rfl hl.1 rfl (Nat.le_of_ble_eq_true rfl) (zR_ok (by omega) (by decide)) ⟨(Nat.le_of_ble_eq_true rfl), (Nat.le_of_ble_eq_true rfl)⟩ dX12_rests_24 (fun H locs hW hS => ?_)
      refine W.eq (g2 := F0 m 27 ls [.int r7]) rfl ?_
      refine z_br (lv_if_eq (tgt := 40) hx hb dX12_rests_27 (by decide)) h (fun h => ?_) (fun h => ?_)
      · refine lv_bipush (v := (-2)) hx hb dX12_rests_40 (by decide) ?_
        obtain rfl := Option.some.inj h
        exact z_ri hx hb hr hlk hW hS (Nat.le_of_ble_eq_true rfl) (Nat.le_of_ble_eq_true rfl) dX12_rests_42
      · refine lv_iload_n hx hb dX12_rests_30 rfl (lv_at hl 3 rfl) ?_
        refine lv_iconst (v := (nI 0)) hx hb dX12_rests_31 (by decide) ?_
        refine lv_bipush (v := (nI 99)) hx hb dX12_rests_32 (by decide) ?_
        obtain ⟨r9, c8, h⟩ := zd_at h
        refine z_cS hx hb hq hml hown hK hW hS [.int a3, .int ((nI 0)), .int ((nI 99))] [] (c_X12_in l G st a3 (nI 0) (nI 99) c8) (zi zm90) (zi zm91) (zi zm5) (zi zm92) cal_X12_in rfl hl.1 rfl (Nat.le_of_ble_eq_true rfl) (zR_ok (by omega) (by decide)) ⟨(Nat.le_of_ble_eq_true rfl), (Nat.le_of_ble_eq_true rfl)⟩ dX12_rests_34 (fun H locs hW hS => ?_)
        refine W.eq (g2 := F0 m 37 ls [.int r9]) rfl ?_
        refine z_brn (lv_if_ne (tgt := 43) hx hb dX12_rests_37 (by decide)) h (fun h => ?_) (fun h => ?_)
        · refine lv_iconst (v := (nI 0)) hx hb dX12_rests_43 (by decide) ?_
          refine lv_istore (lv' := [(5, .int ((nI 0))), (0, .ref (G.2.2.2 + o)), (1, .int a1), (2, .int a2), (3, .int a3), (4, .int a4)]) hx hb dX12_rests_44 hl (by decide) rfl (fun ls hl => ?_)
          refine lv_ldc (v := (nI 1000000)) hx hb hown (hq _ (zi zm824)) dX12_rests_46 ?_
          refine lv_istore (lv' := [(6, .int ((nI 1000000))), (5, .int ((nI 0))), (0, .ref (G.2.2.2 + o)), (1, .int a1), (2, .int a2), (3, .int a3), (4, .int a4)]) hx hb dX12_rests_48 hl (by decide) rfl (fun ls hl => ?_)
          refine lv_iconst (v := (nI 1)) hx hb dX12_rests_50 (by decide) ?_
          refine lv_istore (lv' := [(7, .int ((nI 1))), (6, .int ((nI 1000000))), (5, .int ((nI 0))), (0, .ref (G.2.2.2 + o)), (1, .int a1), (2, .int a2), (3, .int a3), (4, .int a4)]) hx hb dX12_rests_51 hl (by decide) rfl (fun ls hl => ?_)
          exact B53 N (nI 0) (nI 1000000) (nI 1) _ _ _ h hW hS (lv_sub hl [3, 4, 5, 6, 7, 2, 1, 0] rfl)
        · refine lv_bipush (v := (-2)) hx hb dX12_rests_40 (by decide) ?_
          obtain rfl := Option.some.inj h
          exact z_ri hx hb hr hlk hW hS (Nat.le_of_ble_eq_true rfl) (Nat.le_of_ble_eq_true rfl) dX12_rests_42
    · refine lv_iconst (v := (-1)) hx hb dX12_rests_18 (by decide) ?_
      obtain rfl := Option.some.inj h
      exact z_ri hx hb hr hlk hW hS (Nat.le_of_ble_eq_true rfl) (Nat.le_of_ble_eq_true rfl) dX12_rests_19
def f_X12_mend_123 (N : Nat) (o : Nat) (a1 : Int32) (k22 : zS → Int64 → Int32 → Int32 → Option (zS × Int32)) (st : zS) (x2 : Int64) (x4 : Int32) (x5 : Int32) : Option (zS × Int32) := (k22 st x2 x4 (x5 + (nI 1)))
def f_X12_mend_122 (N : Nat) (o : Nat) (a1 : Int32) (k22 : zS → Int64 → Int32 → Int32 → Option (zS × Int32)) (st : zS) (x4 : Int32) (x5 : Int32) (y0 : Int64) : Option (zS × Int32) := (f_X12_mend_123 N o a1 k22 st y0 x4 x5)
def f_X12_mend_107 (N : Nat) (o : Nat) (a1 : Int32) (k22 : zS → Int64 → Int32 → Int32 → Option (zS × Int32)) (st : zS) (x2 : Int64) (x5 : Int32) (x8 : Int64) (y0 : Int32) : Option (zS × Int32) := (if (lg_cmp x8 x2) ≤ 0 then (f_X12_mend_122 N o a1 k22 st y0 x5 x2) else (f_X12_mend_122 N o a1 k22 st y0 x5 x8))
def f_X12_mend_22 (N : Nat) (o : Nat) (a1 : Int32)  : Nat → zS → Int64 → Int32 → Int32 → Option (zS × Int32)
  | 0, _, _, _, _ => none
  | n22 + 1, st, x2, x4, x5 => (if zTg st o ∈ [22] then (if (zM st o 12) ≤ x5 then (some (st, x4)) else (Option.bind (zR st o 11) (fun b8 => (if zTg st b8 ∈ [1] then (if zin x5 (zLn st b8) then (zl (zM st b8 (x5).toNatClampNeg) (fun v11 => (Option.bind (zR st o 1) (fun b12 => (if zTg st b12 ∈ [1] then (if zin (nI 8) (zLn st b12) then (if (zM st b12 ((nI 8)).toNatClampNeg) ≤ v11 then (f_X12_mend_123 N o a1 (f_X12_mend_22 N o a1 n22) st x2 x4 x5) else (if zin ((nI 53) + v11) (zLn st b12) then (zl (zM st b12 (((nI 53) + v11)).toNatClampNeg) (fun v16 => (if zin ((nI 53) + v11) (zLn st b12) then (zb (f_X12_safeWays N (zPM st b12 (((nI 53) + v11)).toNatClampNeg a1) o) (fun st19 r20 => (if zTg st19 o ∈ [22] then (Option.bind (zR st19 o 1) (fun b22 => (if zTg st19 b22 ∈ [1] then (if zin ((nI 53) + v11) (zLn st19 b22) then (if (lg_cmp r20 x2) ≤ 0 then (f_X12_mend_107 N o a1 (f_X12_mend_22 N o a1 n22) (zPM st19 b22 (((nI 53) + v11)).toNatClampNeg v16) x2 x5 r20 x4) else (f_X12_mend_107 N o a1 (f_X12_mend_22 N o a1 n22) (zPM st19 b22 (((nI 53) + v11)).toNatClampNeg v16) x2 x5 r20 v11)) else none) else none))) else none))) else none))) else none)) else none) else none))))) else none) else none)))) else none)
def f_X12_mend (N : Nat) (st : zS) (o : Nat) (a1 : Int32) : Option (zS × Int32) := (if zTg st o ∈ [22] then (Option.bind (f_X12_isWay st o a1) (fun r3 => (if r3 = 0 then (some (st, (-1 : Int32))) else (zb (f_X12_safeWays N st o) (fun st5 r6 => (f_X12_mend_22 N o a1 N st5 r6 (-5 : Int32) (nI 0))))))) else none)
set_option maxHeartbeats 1000000 in
set_option maxRecDepth 100000 in
theorem c_X12_mend (l : Launch) (G : zG) (N : Nat) (st : zS) (o : Nat) (a1 : Int32) {st' : zS} {r : Int32} (h : f_X12_mend N st o a1 = some (st', r)) : zMet l G yX12_mend cX12_mend 10 (some .int) 4 0 0 [.ref (G.2.2.2 + o), .int a1] st (some (.int r)) st' := by
  refine zMet_of (by decide +kernel) ?_
  intro p e s m args below meth c X
  obtain ⟨hx, hb, hr, hml, hown, hq, hlk, hK, -, hin, hW, hS⟩ := X
  have hown : s.vm.findClass RX12 = some m.cls := hown
  refine z_ent (by exact Nat.le_of_ble_eq_true rfl) (fun ls hl => ?_)
  have hl : lv_has ls 10 [(0, .ref (G.2.2.2 + o)), (1, .int a1)] := hl
  unfold f_X12_mend at h
  have B22 : ∀ (n22 : Nat) (st : zS) (x2 : Int64) (x4 : Int32) (x5 : Int32) (H : Heap) (locs : List Loc) (ls : Array Slot), f_X12_mend_22 N o a1 n22 st x2 x4 x5 = some (st', r) → zWd G st H → va_S (zA G) s.heap H locs → lv_has ls 10 [(0, .ref (G.2.2.2 + o)), (1, .int a1), (2, .long (x2)), (4, .int x4), (5, .int x5)] → W p l e (zRm 4 0 0) s m args below meth c H locs 0 0 (MQ below (zQ G (some (.int r)) st') args s 0 0 (zA G)) (F0 m 22 ls []) := by
    intro n22
    induction n22 with
    | zero =>
      intro st x2 x4 x5 H locs ls h
      unfold f_X12_mend_22 at h
      cases h
    | succ n22 ih22 =>
      have B123 : ∀ (st : zS) (x2 : Int64) (x4 : Int32) (x5 : Int32) (H : Heap) (locs : List Loc) (ls : Array Slot), f_X12_mend_123 N o a1 (f_X12_mend_22 N o a1 n22) st x2 x4 x5 = some (st', r) → zWd G st H → va_S (zA G) s.heap H locs → lv_has ls 10 [(0, .ref (G.2.2.2 + o)), (1, .int a1), (2, .long (x2)), (4, .int x4), (5, .int x5)] → W p l e (zRm 4 0 0) s m args below meth c H locs 0 0 (MQ below (zQ G (some (.int r)) st') args s 0 0 (zA G)) (F0 m 123 ls []) := by
        intro st x2 x4 x5 H locs ls h hW hS hl
        unfold f_X12_mend_123 at h
        refine lv_iinc (v := (x5 + (nI 1))) (lv' := [(5, .int ((x5 + (nI 1)))), (0, .ref (G.2.2.2 + o)), (1, .int a1), (2, .long (x2)), (4, .int x4)]) hx hb dX12_mend_123 hl (k := 4) rfl rfl (by decide) rfl (fun ls hl => ?_)
        refine lv_goto (tgt := 22) hx hb dX12_mend_126 (by decide) ?_
        exact ih22 st x2 x4 (x5 + (nI 1)) _ _ _ h hW hS (lv_sub hl [1, 2, 3, 4, 0] rfl)
      have B122 : ∀ (st : zS) (x4 : Int32) (x5 : Int32) (y0 : Int64) (H : Heap) (locs : List Loc) (ls : Array Slot), f_X12_mend_122 N o a1 (f_X12_mend_22 N o a1 n22) st x4 x5 y0 = some (st', r) → zWd G st H → va_S (zA G) s.heap H locs → lv_has ls 10 [(0, .ref (G.2.2.2 + o)), (1, .int a1), (4, .int x4), (5, .int x5)] → W p l e (zRm 4 0 0) s m args below meth c H locs 0 0 (MQ below (zQ G (some (.int r)) st') args s 0 0 (zA G)) (F0 m 122 ls [.long (y0)]) := by
        intro st x4 x5 y0 H locs ls h hW hS hl
        unfold f_X12_mend_122 at h
        refine lv_lstore_n (lv' := [(2, .long (y0)), (0, .ref (G.2.2.2 + o)), (1, .int a1), (4, .int x4), (5, .int x5)]) hx hb dX12_mend_122 rfl hl (by decide) rfl (fun ls hl => ?_)
        exact B123 st y0 x4 x5 _ _ _ h hW hS (lv_sub hl [1, 2, 0, 3, 4] rfl)
      have B107 : ∀ (st : zS) (x2 : Int64) (x5 : Int32) (x8 : Int64) (y0 : Int32) (H : Heap) (locs : List Loc) (ls : Array Slot), f_X12_mend_107 N o a1 (f_X12_mend_22 N o a1 n22) st x2 x5 x8 y0 = some (st', r) → zWd G st H → va_S (zA G) s.heap H locs → lv_has ls 10 [(0, .ref (G.2.2.2 + o)), (1, .int a1), (2, .long (x2)), (5, .int x5), (8, .long (x8))] → W p l e (zRm 4 0 0) s m args below meth c H locs 0 0 (MQ below (zQ G (some (.int r)) st') args s 0 0 (zA G)) (F0 m 107 ls [.int y0]) := by
        intro st x2 x5 x8 y0 H locs ls h hW hS hl
        unfold f_X12_mend_107 at h
        refine lv_istore (lv' := [(4, .int y0), (0, .ref (G.2.2.2 + o)), (1, .int a1), (2, .long (x2)), (5, .int x5), (8, .long (x8))]) hx hb dX12_mend_107 hl (by decide) rfl (fun ls hl => ?_)
        refine lv_lload hx hb dX12_mend_109 (lv_at hl 5 rfl) ?_
        refine lv_lload_n hx hb dX12_mend_111 rfl (lv_at hl 3 rfl) ?_
        refine W.lcmp hx hb dX12_mend_112 ?_
        refine z_br (lv_if_le (tgt := 121) hx hb dX12_mend_113 (by decide)) h (fun h => ?_) (fun h => ?_)
        · refine lv_lload_n hx hb dX12_mend_121 rfl (lv_at hl 3 rfl) ?_
          exact B122 st y0 x5 x2 _ _ _ h hW hS (lv_sub hl [1, 2, 0, 4] rfl)
        · refine lv_lload hx hb dX12_mend_116 (lv_at hl 5 rfl) ?_
          refine lv_goto (tgt := 122) hx hb dX12_mend_118 (by decide) ?_
          exact B122 st y0 x5 x8 _ _ _ h hW hS (lv_sub hl [1, 2, 0, 4] rfl)
      intro st x2 x4 x5 H locs ls h hW hS hl
      unfold f_X12_mend_22 at h
      refine lv_iload hx hb dX12_mend_22 (lv_at hl 4 rfl) ?_
      refine lv_aload_n hx hb dX12_mend_24 rfl (lv_at hl 0 rfl) ?_
      obtain ⟨t7, h⟩ := zc_at h
      refine z_gI hx hb hq hown hK hW fs_RX12_151 t7 dX12_mend_25 ?_
      refine z_br (lv_icmp_ge (tgt := 129) hx hb dX12_mend_28 (by decide)) h (fun h => ?_) (fun h => ?_)
      · refine lv_iload hx hb dX12_mend_129 (lv_at hl 3 rfl) ?_
        obtain ⟨rfl, rfl⟩ := Prod.mk.inj (Option.some.inj h)
        exact z_ri hx hb hr hlk hW hS (Nat.le_of_ble_eq_true rfl) (Nat.le_of_ble_eq_true rfl) dX12_mend_131
      · refine lv_aload_n hx hb dX12_mend_31 rfl (lv_at hl 0 rfl) ?_
        obtain ⟨b8, hb8, h⟩ := zd_at h
        refine z_gR hx hb hq hown hK hW fs_RX12_25 t7 hb8 dX12_mend_32 ?_
        refine lv_iload hx hb dX12_mend_35 (lv_at hl 4 rfl) ?_
        obtain ⟨t9, h⟩ := zc_at h
        obtain ⟨t10, h⟩ := zc_at h
        refine z_alI hx hb hK hW (List.mem_singleton.mp t9) t10 dX12_mend_37 ?_
        refine lv_topi (fun v11 ev11 => ?_)
        have h := zl_at ev11 h
        refine lv_istore (lv' := [(6, .int v11), (0, .ref (G.2.2.2 + o)), (1, .int a1), (2, .long (x2)), (4, .int x4), (5, .int x5)]) hx hb dX12_mend_38 hl (by decide) rfl (fun ls hl => ?_)
        refine lv_iload hx hb dX12_mend_40 (lv_at hl 0 rfl) ?_
        refine lv_aload_n hx hb dX12_mend_42 rfl (lv_at hl 1 rfl) ?_
        obtain ⟨b12, hb12, h⟩ := zd_at h
        refine z_gR hx hb hq hown hK hW fs_RX12_9 t7 hb12 dX12_mend_43 ?_
        refine lv_bipush (v := (nI 8)) hx hb dX12_mend_46 (by decide) ?_
        obtain ⟨t13, h⟩ := zc_at h
        obtain ⟨t14, h⟩ := zc_at h
        refine z_alI hx hb hK hW (List.mem_singleton.mp t13) t14 dX12_mend_48 ?_
        refine z_br (lv_icmp_ge (tgt := 123) hx hb dX12_mend_49 (by decide)) h (fun h => ?_) (fun h => ?_)
        · exact B123 st x2 x4 x5 _ _ _ h hW hS (lv_sub hl [1, 2, 3, 4, 5] rfl)
        · refine lv_aload_n hx hb dX12_mend_52 rfl (lv_at hl 1 rfl) ?_
          refine z_gR hx hb hq hown hK hW fs_RX12_9 t7 hb12 dX12_mend_53 ?_
          refine lv_bipush (v := (nI 53)) hx hb dX12_mend_56 (by decide) ?_
          refine lv_iload hx hb dX12_mend_58 (lv_at hl 0 rfl) ?_
          refine lv_iadd hx hb dX12_mend_60 ?_
          obtain ⟨t15, h⟩ := zc_at h
          refine z_alI hx hb hK hW (List.mem_singleton.mp t13) t15 dX12_mend_61 ?_
          refine lv_topi (fun v16 ev16 => ?_)
          have h := zl_at ev16 h
          refine lv_istore (lv' := [(7, .int v16), (6, .int v11), (0, .ref (G.2.2.2 + o)), (1, .int a1), (2, .long (x2)), (4, .int x4), (5, .int x5)]) hx hb dX12_mend_62 hl (by decide) rfl (fun ls hl => ?_)
          refine lv_aload_n hx hb dX12_mend_64 rfl (lv_at hl 2 rfl) ?_
          refine z_gR hx hb hq hown hK hW fs_RX12_9 t7 hb12 dX12_mend_65 ?_
          refine lv_bipush (v := (nI 53)) hx hb dX12_mend_68 (by decide) ?_
          refine lv_iload hx hb dX12_mend_70 (lv_at hl 1 rfl) ?_
          refine lv_iadd hx hb dX12_mend_72 ?_
          refine lv_iload_n hx hb dX12_mend_73 rfl (lv_at hl 3 rfl) ?_
          obtain ⟨t17, h⟩ := zc_at h
          refine z_asI hx hb hK hW hS (List.mem_singleton.mp t13) t17 dX12_mend_74 (fun H locs hW hS => ?_)
          refine lv_aload_n hx hb dX12_mend_75 rfl (lv_at hl 2 rfl) ?_
          obtain ⟨st19, r20, c18, h⟩ := zb_at h
          refine z_cV hx hb hq hml hown hK hW hS 12 [] [] rfl (List.mem_singleton.mp t7) (c_X12_safeWays l G N (zPM st b12 (((nI 53) + v11)).toNatClampNeg a1) o c18) (zi zm741) (zi zm742) (zi zm743) (zi zm5) (zi zm744) cal_X12_safeWays rfl rfl hl.1 rfl (Nat.le_of_ble_eq_true rfl) (zR_ok (by omega) (by decide)) ⟨(Nat.le_of_ble_eq_true rfl), (Nat.le_of_ble_eq_true rfl)⟩ dX12_mend_76 (fun H locs hW hS => ?_)
          refine W.eq (g2 := F0 m 79 ls [.long (r20)]) rfl ?_
          refine lv_lstore (lv' := [(8, .long (r20)), (7, .int v16), (6, .int v11), (0, .ref (G.2.2.2 + o)), (1, .int a1), (2, .long (x2)), (4, .int x4), (5, .int x5)]) hx hb dX12_mend_79 hl (by decide) rfl (fun ls hl => ?_)
          refine lv_aload_n hx hb dX12_mend_81 rfl (lv_at hl 3 rfl) ?_
          obtain ⟨t21, h⟩ := zc_at h
          obtain ⟨b22, hb22, h⟩ := zd_at h
          refine z_gR hx hb hq hown hK hW fs_RX12_9 t21 hb22 dX12_mend_82 ?_
          refine lv_bipush (v := (nI 53)) hx hb dX12_mend_85 (by decide) ?_
          refine lv_iload hx hb dX12_mend_87 (lv_at hl 2 rfl) ?_
          refine lv_iadd hx hb dX12_mend_89 ?_
          refine lv_iload hx hb dX12_mend_90 (lv_at hl 1 rfl) ?_
          obtain ⟨t23, h⟩ := zc_at h
          obtain ⟨t24, h⟩ := zc_at h
          refine z_asI hx hb hK hW hS (List.mem_singleton.mp t23) t24 dX12_mend_92 (fun H locs hW hS => ?_)
          refine lv_lload hx hb dX12_mend_93 (lv_at hl 0 rfl) ?_
          refine lv_lload_n hx hb dX12_mend_95 rfl (lv_at hl 5 rfl) ?_
          refine W.lcmp hx hb dX12_mend_96 ?_
          refine z_br (lv_if_le (tgt := 105) hx hb dX12_mend_97 (by decide)) h (fun h => ?_) (fun h => ?_)
          · refine lv_iload hx hb dX12_mend_105 (lv_at hl 6 rfl) ?_
            exact B107 (zPM st19 b22 (((nI 53) + v11)).toNatClampNeg v16) x2 x5 r20 x4 _ _ _ h hW hS (lv_sub hl [3, 4, 5, 7, 0] rfl)
          · refine lv_iload hx hb dX12_mend_100 (lv_at hl 2 rfl) ?_
            refine lv_goto (tgt := 107) hx hb dX12_mend_102 (by decide) ?_
            exact B107 (zPM st19 b22 (((nI 53) + v11)).toNatClampNeg v16) x2 x5 r20 v11 _ _ _ h hW hS (lv_sub hl [3, 4, 5, 7, 0] rfl)
  refine lv_aload_n hx hb dX12_mend_0 rfl (lv_at hl 0 rfl) ?_
  refine lv_iload_n hx hb dX12_mend_1 rfl (lv_at hl 1 rfl) ?_
  obtain ⟨t1, h⟩ := zc_at h
  obtain ⟨r3, c2, h⟩ := zd_at h
  refine z_cV hx hb hq hml hown hK hW hS 12 [.int a1] [] rfl (List.mem_singleton.mp t1) (c_X12_isWay l G st o a1 c2) (zi zm430) (zi zm431) (zi zm432) (zi zm5) (zi zm433) cal_X12_isWay rfl rfl hl.1 rfl (Nat.le_of_ble_eq_true rfl) (zR_ok (by omega) (by decide)) ⟨(Nat.le_of_ble_eq_true rfl), (Nat.le_of_ble_eq_true rfl)⟩ dX12_mend_2 (fun H locs hW hS => ?_)
  refine W.eq (g2 := F0 m 5 ls [.int r3]) rfl ?_
  refine z_brn (lv_if_ne (tgt := 10) hx hb dX12_mend_5 (by decide)) h (fun h => ?_) (fun h => ?_)
  · refine lv_aload_n hx hb dX12_mend_10 rfl (lv_at hl 0 rfl) ?_
    obtain ⟨st5, r6, c4, h⟩ := zb_at h
    refine z_cV hx hb hq hml hown hK hW hS 12 [] [] rfl (List.mem_singleton.mp t1) (c_X12_safeWays l G N st o c4) (zi zm741) (zi zm742) (zi zm743) (zi zm5) (zi zm744) cal_X12_safeWays rfl rfl hl.1 rfl (Nat.le_of_ble_eq_true rfl) (zR_ok (by omega) (by decide)) ⟨(Nat.le_of_ble_eq_true rfl), (Nat.le_of_ble_eq_true rfl)⟩ dX12_mend_11 (fun H locs hW hS => ?_)
    refine W.eq (g2 := F0 m 14 ls [.long (r6)]) rfl ?_
    refine lv_lstore_n (lv' := [(2, .long (r6)), (0, .ref (G.2.2.2 + o)), (1, .int a1)]) hx hb dX12_mend_14 rfl hl (by decide) rfl (fun ls hl => ?_)
    refine lv_bipush (v := (-5)) hx hb dX12_mend_15 (by decide) ?_
    refine lv_istore (lv' := [(4, .int ((-5))), (2, .long (r6)), (0, .ref (G.2.2.2 + o)), (1, .int a1)]) hx hb dX12_mend_17 hl (by decide) rfl (fun ls hl => ?_)
    refine lv_iconst (v := (nI 0)) hx hb dX12_mend_19 (by decide) ?_
    refine lv_istore (lv' := [(5, .int ((nI 0))), (4, .int ((-5))), (2, .long (r6)), (0, .ref (G.2.2.2 + o)), (1, .int a1)]) hx hb dX12_mend_20 hl (by decide) rfl (fun ls hl => ?_)
    exact B22 N st5 r6 (-5 : Int32) (nI 0) _ _ _ h hW hS (lv_sub hl [3, 4, 2, 1, 0] rfl)
  · refine lv_iconst (v := (-1)) hx hb dX12_mend_8 (by decide) ?_
    obtain ⟨rfl, rfl⟩ := Prod.mk.inj (Option.some.inj h)
    exact z_ri hx hb hr hlk hW hS (Nat.le_of_ble_eq_true rfl) (Nat.le_of_ble_eq_true rfl) dX12_mend_9
def f_X12_where_114 (N : Nat) (o : Nat) (a1 : Int32) (k52 : zS → Int32 → Int32 → Option (zS × Int32)) (k63 : zS → Int32 → Int32 → Int32 → Int32 → Option (zS × Int32)) (st : zS) (x2 : Int32) (x3 : Int32) (x5 : Int32) (y0 : Int32) (y1 : Int32) : Option (zS × Int32) := (zl (y1 + y0) (fun v13 => (k63 st x2 x3 v13 (x5 + (nI 1)))))
def f_X12_where_109 (N : Nat) (o : Nat) (a1 : Int32) (k52 : zS → Int32 → Int32 → Option (zS × Int32)) (k63 : zS → Int32 → Int32 → Int32 → Int32 → Option (zS × Int32)) (st : zS) (x2 : Int32) (x3 : Int32) (x5 : Int32) (y0 : Int32) : Option (zS × Int32) := (f_X12_where_114 N o a1 k52 k63 st x2 x3 x5 (nI 1) y0)
def f_X12_where_113 (N : Nat) (o : Nat) (a1 : Int32) (k52 : zS → Int32 → Int32 → Option (zS × Int32)) (k63 : zS → Int32 → Int32 → Int32 → Int32 → Option (zS × Int32)) (st : zS) (x2 : Int32) (x3 : Int32) (x5 : Int32) (y0 : Int32) : Option (zS × Int32) := (f_X12_where_114 N o a1 k52 k63 st x2 x3 x5 (nI 0) y0)
def f_X12_where_63 (N : Nat) (o : Nat) (a1 : Int32) (k52 : zS → Int32 → Int32 → Option (zS × Int32)) : Nat → zS → Int32 → Int32 → Int32 → Int32 → Option (zS × Int32)
  | 0, _, _, _, _, _ => none
  | n63 + 1, st, x2, x3, x4, x5 => (if x2 ≤ x5 then (if x4 = a1 then (some (st, x3)) else (k52 st x2 (x3 + (nI 1)))) else (if zTg st o ∈ [22] then (Option.bind (zR st o 17) (fun b9 => (if zTg st b9 ∈ [1] then (if zin x5 (zLn st b9) then (if zin x3 (zLn st b9) then (if (zM st b9 (x3).toNatClampNeg) < (zM st b9 (x5).toNatClampNeg) then (f_X12_where_109 N o a1 k52 (f_X12_where_63 N o a1 k52 n63) st x2 x3 x5 x4) else (if zin x5 (zLn st b9) then (if zin x3 (zLn st b9) then (if (zM st b9 (x5).toNatClampNeg) = (zM st b9 (x3).toNatClampNeg) then (if x3 ≤ x5 then (f_X12_where_113 N o a1 k52 (f_X12_where_63 N o a1 k52 n63) st x2 x3 x5 x4) else (f_X12_where_109 N o a1 k52 (f_X12_where_63 N o a1 k52 n63) st x2 x3 x5 x4)) else (f_X12_where_113 N o a1 k52 (f_X12_where_63 N o a1 k52 n63) st x2 x3 x5 x4)) else none) else none)) else none) else none) else none))) else none))
def f_X12_where_52 (N : Nat) (o : Nat) (a1 : Int32)  : Nat → zS → Int32 → Int32 → Option (zS × Int32)
  | 0, _, _, _ => none
  | n52 + 1, st, x2, x3 => (if x2 ≤ x3 then (some (st, (-5 : Int32))) else (f_X12_where_63 N o a1 (f_X12_where_52 N o a1 n52) N st x2 x3 (nI 0) (nI 0)))
def f_X12_where_28 (N : Nat) (o : Nat) (a1 : Int32)  : Nat → zS → Int32 → Int32 → Option (zS × Int32)
  | 0, _, _, _ => none
  | n28 + 1, st, x2, x3 => (if x2 ≤ x3 then (f_X12_where_52 N o a1 N st x2 (nI 0)) else (if zTg st o ∈ [22] then (Option.bind (zR st o 17) (fun b17 => (zb (f_X12_signAt N st o x3) (fun st19 r20 => (if zTg st19 b17 ∈ [1] then (if zin x3 (zLn st19 b17) then ((f_X12_where_28 N o a1 n28) (zPM st19 b17 (x3).toNatClampNeg r20) x2 (x3 + (nI 1))) else none) else none))))) else none))
def f_X12_where (N : Nat) (st : zS) (o : Nat) (a1 : Int32) : Option (zS × Int32) := (if zTg st o ∈ [22] then (Option.bind (f_X12_wantNow st o) (fun r3 => (Option.bind (f_X12_lookNow st o) (fun r5 => (Option.bind (f_X12_in a1 (nI 0) (r5 - (nI 1))) (fun r7 => (if r7 = 0 then (some (st, (-1 : Int32))) else (if a1 < r3 then (f_X12_where_28 N o a1 N st r3 (nI 0)) else (some (st, (-1 : Int32))))))))))) else none)
set_option maxHeartbeats 1000000 in
set_option maxRecDepth 100000 in
theorem c_X12_where (l : Launch) (G : zG) (N : Nat) (st : zS) (o : Nat) (a1 : Int32) {st' : zS} {r : Int32} (h : f_X12_where N st o a1 = some (st', r)) : zMet l G yX12_where cX12_where 6 (some .int) 2 0 0 [.ref (G.2.2.2 + o), .int a1] st (some (.int r)) st' := by
  refine zMet_of (by decide +kernel) ?_
  intro p e s m args below meth c X
  obtain ⟨hx, hb, hr, hml, hown, hq, hlk, hK, -, hin, hW, hS⟩ := X
  have hown : s.vm.findClass RX12 = some m.cls := hown
  refine z_ent (by exact Nat.le_of_ble_eq_true rfl) (fun ls hl => ?_)
  have hl : lv_has ls 6 [(0, .ref (G.2.2.2 + o)), (1, .int a1)] := hl
  unfold f_X12_where at h
  have B52 : ∀ (n52 : Nat) (st : zS) (x2 : Int32) (x3 : Int32) (H : Heap) (locs : List Loc) (ls : Array Slot), f_X12_where_52 N o a1 n52 st x2 x3 = some (st', r) → zWd G st H → va_S (zA G) s.heap H locs → lv_has ls 6 [(0, .ref (G.2.2.2 + o)), (1, .int a1), (2, .int x2), (3, .int x3)] → W p l e (zRm 2 0 0) s m args below meth c H locs 0 0 (MQ below (zQ G (some (.int r)) st') args s 0 0 (zA G)) (F0 m 52 ls []) := by
    intro n52
    induction n52 with
    | zero =>
      intro st x2 x3 H locs ls h
      unfold f_X12_where_52 at h
      cases h
    | succ n52 ih52 =>
      have B63 : ∀ (n63 : Nat) (st : zS) (x2 : Int32) (x3 : Int32) (x4 : Int32) (x5 : Int32) (H : Heap) (locs : List Loc) (ls : Array Slot), f_X12_where_63 N o a1 (f_X12_where_52 N o a1 n52) n63 st x2 x3 x4 x5 = some (st', r) → zWd G st H → va_S (zA G) s.heap H locs → lv_has ls 6 [(0, .ref (G.2.2.2 + o)), (1, .int a1), (2, .int x2), (3, .int x3), (4, .int x4), (5, .int x5)] → W p l e (zRm 2 0 0) s m args below meth c H locs 0 0 (MQ below (zQ G (some (.int r)) st') args s 0 0 (zA G)) (F0 m 63 ls []) := by
        intro n63
        induction n63 with
        | zero =>
          intro st x2 x3 x4 x5 H locs ls h
          unfold f_X12_where_63 at h
          cases h
        | succ n63 ih63 =>
          have B114 : ∀ (st : zS) (x2 : Int32) (x3 : Int32) (x5 : Int32) (y0 : Int32) (y1 : Int32) (H : Heap) (locs : List Loc) (ls : Array Slot), f_X12_where_114 N o a1 (f_X12_where_52 N o a1 n52) (f_X12_where_63 N o a1 (f_X12_where_52 N o a1 n52) n63) st x2 x3 x5 y0 y1 = some (st', r) → zWd G st H → va_S (zA G) s.heap H locs → lv_has ls 6 [(0, .ref (G.2.2.2 + o)), (1, .int a1), (2, .int x2), (3, .int x3), (5, .int x5)] → W p l e (zRm 2 0 0) s m args below meth c H locs 0 0 (MQ below (zQ G (some (.int r)) st') args s 0 0 (zA G)) (F0 m 114 ls [.int y0, .int y1]) := by
            intro st x2 x3 x5 y0 y1 H locs ls h hW hS hl
            unfold f_X12_where_114 at h
            refine lv_iadd hx hb dX12_where_114 ?_
            refine lv_topi (fun v13 ev13 => ?_)
            have h := zl_at ev13 h
            refine lv_istore (lv' := [(4, .int v13), (0, .ref (G.2.2.2 + o)), (1, .int a1), (2, .int x2), (3, .int x3), (5, .int x5)]) hx hb dX12_where_115 hl (by decide) rfl (fun ls hl => ?_)
            refine lv_iinc (v := (x5 + (nI 1))) (lv' := [(5, .int ((x5 + (nI 1)))), (4, .int v13), (0, .ref (G.2.2.2 + o)), (1, .int a1), (2, .int x2), (3, .int x3)]) hx hb dX12_where_117 hl (k := 5) rfl rfl (by decide) rfl (fun ls hl => ?_)
            refine lv_goto (tgt := 63) hx hb dX12_where_120 (by decide) ?_
            exact ih63 st x2 x3 v13 (x5 + (nI 1)) _ _ _ h hW hS (lv_sub hl [2, 3, 4, 5, 1, 0] rfl)
          have B109 : ∀ (st : zS) (x2 : Int32) (x3 : Int32) (x5 : Int32) (y0 : Int32) (H : Heap) (locs : List Loc) (ls : Array Slot), f_X12_where_109 N o a1 (f_X12_where_52 N o a1 n52) (f_X12_where_63 N o a1 (f_X12_where_52 N o a1 n52) n63) st x2 x3 x5 y0 = some (st', r) → zWd G st H → va_S (zA G) s.heap H locs → lv_has ls 6 [(0, .ref (G.2.2.2 + o)), (1, .int a1), (2, .int x2), (3, .int x3), (5, .int x5)] → W p l e (zRm 2 0 0) s m args below meth c H locs 0 0 (MQ below (zQ G (some (.int r)) st') args s 0 0 (zA G)) (F0 m 109 ls [.int y0]) := by
            intro st x2 x3 x5 y0 H locs ls h hW hS hl
            unfold f_X12_where_109 at h
            refine lv_iconst (v := (nI 1)) hx hb dX12_where_109 (by decide) ?_
            refine lv_goto (tgt := 114) hx hb dX12_where_110 (by decide) ?_
            exact B114 st x2 x3 x5 (nI 1) y0 _ _ _ h hW hS (lv_sub hl [0, 1, 2, 3, 4] rfl)
          have B113 : ∀ (st : zS) (x2 : Int32) (x3 : Int32) (x5 : Int32) (y0 : Int32) (H : Heap) (locs : List Loc) (ls : Array Slot), f_X12_where_113 N o a1 (f_X12_where_52 N o a1 n52) (f_X12_where_63 N o a1 (f_X12_where_52 N o a1 n52) n63) st x2 x3 x5 y0 = some (st', r) → zWd G st H → va_S (zA G) s.heap H locs → lv_has ls 6 [(0, .ref (G.2.2.2 + o)), (1, .int a1), (2, .int x2), (3, .int x3), (5, .int x5)] → W p l e (zRm 2 0 0) s m args below meth c H locs 0 0 (MQ below (zQ G (some (.int r)) st') args s 0 0 (zA G)) (F0 m 113 ls [.int y0]) := by
            intro st x2 x3 x5 y0 H locs ls h hW hS hl
            unfold f_X12_where_113 at h
            refine lv_iconst (v := (nI 0)) hx hb dX12_where_113 (by decide) ?_
            exact B114 st x2 x3 x5 (nI 0) y0 _ _ _ h hW hS (lv_sub hl [0, 1, 2, 3, 4] rfl)
          intro st x2 x3 x4 x5 H locs ls h hW hS hl
          unfold f_X12_where_63 at h
          refine lv_iload hx hb dX12_where_63 (lv_at hl 5 rfl) ?_
          refine lv_iload_n hx hb dX12_where_65 rfl (lv_at hl 2 rfl) ?_
          refine z_br (lv_icmp_ge (tgt := 123) hx hb dX12_where_66 (by decide)) h (fun h => ?_) (fun h => ?_)
          · refine lv_iload hx hb dX12_where_123 (lv_at hl 4 rfl) ?_
            refine lv_iload_n hx hb dX12_where_125 rfl (lv_at hl 1 rfl) ?_
            refine z_brn (lv_icmp_ne (tgt := 131) hx hb dX12_where_126 (by decide)) h (fun h => ?_) (fun h => ?_)
            · refine lv_iinc (v := (x3 + (nI 1))) (lv' := [(3, .int ((x3 + (nI 1)))), (0, .ref (G.2.2.2 + o)), (1, .int a1), (2, .int x2), (4, .int x4), (5, .int x5)]) hx hb dX12_where_131 hl (k := 3) rfl rfl (by decide) rfl (fun ls hl => ?_)
              refine lv_goto (tgt := 52) hx hb dX12_where_134 (by decide) ?_
              exact ih52 st x2 (x3 + (nI 1)) _ _ _ h hW hS (lv_sub hl [1, 2, 3, 0] rfl)
            · refine lv_iload_n hx hb dX12_where_129 rfl (lv_at hl 3 rfl) ?_
              obtain ⟨rfl, rfl⟩ := Prod.mk.inj (Option.some.inj h)
              exact z_ri hx hb hr hlk hW hS (Nat.le_of_ble_eq_true rfl) (Nat.le_of_ble_eq_true rfl) dX12_where_130
          · refine lv_iload hx hb dX12_where_69 (lv_at hl 4 rfl) ?_
            refine lv_aload_n hx hb dX12_where_71 rfl (lv_at hl 0 rfl) ?_
            obtain ⟨t8, h⟩ := zc_at h
            obtain ⟨b9, hb9, h⟩ := zd_at h
            refine z_gR hx hb hq hown hK hW fs_RX12_28 t8 hb9 dX12_where_72 ?_
            refine lv_iload hx hb dX12_where_75 (lv_at hl 5 rfl) ?_
            obtain ⟨t10, h⟩ := zc_at h
            obtain ⟨t11, h⟩ := zc_at h
            refine z_alI hx hb hK hW (List.mem_singleton.mp t10) t11 dX12_where_77 ?_
            refine lv_aload_n hx hb dX12_where_78 rfl (lv_at hl 0 rfl) ?_
            refine z_gR hx hb hq hown hK hW fs_RX12_28 t8 hb9 dX12_where_79 ?_
            refine lv_iload_n hx hb dX12_where_82 rfl (lv_at hl 3 rfl) ?_
            obtain ⟨t12, h⟩ := zc_at h
            refine z_alI hx hb hK hW (List.mem_singleton.mp t10) t12 dX12_where_83 ?_
            refine z_br (lv_icmp_gt (tgt := 109) hx hb dX12_where_84 (by decide)) h (fun h => ?_) (fun h => ?_)
            · exact B109 st x2 x3 x5 x4 _ _ _ h hW hS (lv_sub hl [0, 1, 2, 3, 5] rfl)
            · refine lv_aload_n hx hb dX12_where_87 rfl (lv_at hl 0 rfl) ?_
              refine z_gR hx hb hq hown hK hW fs_RX12_28 t8 hb9 dX12_where_88 ?_
              refine lv_iload hx hb dX12_where_91 (lv_at hl 5 rfl) ?_
              obtain ⟨t14, h⟩ := zc_at h
              refine z_alI hx hb hK hW (List.mem_singleton.mp t10) t14 dX12_where_93 ?_
              refine lv_aload_n hx hb dX12_where_94 rfl (lv_at hl 0 rfl) ?_
              refine z_gR hx hb hq hown hK hW fs_RX12_28 t8 hb9 dX12_where_95 ?_
              refine lv_iload_n hx hb dX12_where_98 rfl (lv_at hl 3 rfl) ?_
              obtain ⟨t15, h⟩ := zc_at h
              refine z_alI hx hb hK hW (List.mem_singleton.mp t10) t15 dX12_where_99 ?_
              refine z_brn (lv_icmp_ne (tgt := 113) hx hb dX12_where_100 (by decide)) h (fun h => ?_) (fun h => ?_)
              · exact B113 st x2 x3 x5 x4 _ _ _ h hW hS (lv_sub hl [0, 1, 2, 3, 5] rfl)
              · refine lv_iload hx hb dX12_where_103 (lv_at hl 5 rfl) ?_
                refine lv_iload_n hx hb dX12_where_105 rfl (lv_at hl 3 rfl) ?_
                refine z_br (lv_icmp_ge (tgt := 113) hx hb dX12_where_106 (by decide)) h (fun h => ?_) (fun h => ?_)
                · exact B113 st x2 x3 x5 x4 _ _ _ h hW hS (lv_sub hl [0, 1, 2, 3, 5] rfl)
                · exact B109 st x2 x3 x5 x4 _ _ _ h hW hS (lv_sub hl [0, 1, 2, 3, 5] rfl)
      intro st x2 x3 H locs ls h hW hS hl
      unfold f_X12_where_52 at h
      refine lv_iload_n hx hb dX12_where_52 rfl (lv_at hl 3 rfl) ?_
      refine lv_iload_n hx hb dX12_where_53 rfl (lv_at hl 2 rfl) ?_
      refine z_br (lv_icmp_ge (tgt := 137) hx hb dX12_where_54 (by decide)) h (fun h => ?_) (fun h => ?_)
      · refine lv_bipush (v := (-5)) hx hb dX12_where_137 (by decide) ?_
        obtain ⟨rfl, rfl⟩ := Prod.mk.inj (Option.some.inj h)
        exact z_ri hx hb hr hlk hW hS (Nat.le_of_ble_eq_true rfl) (Nat.le_of_ble_eq_true rfl) dX12_where_139
      · refine lv_iconst (v := (nI 0)) hx hb dX12_where_57 (by decide) ?_
        refine lv_istore (lv' := [(4, .int ((nI 0))), (0, .ref (G.2.2.2 + o)), (1, .int a1), (2, .int x2), (3, .int x3)]) hx hb dX12_where_58 hl (by decide) rfl (fun ls hl => ?_)
        refine lv_iconst (v := (nI 0)) hx hb dX12_where_60 (by decide) ?_
        refine lv_istore (lv' := [(5, .int ((nI 0))), (4, .int ((nI 0))), (0, .ref (G.2.2.2 + o)), (1, .int a1), (2, .int x2), (3, .int x3)]) hx hb dX12_where_61 hl (by decide) rfl (fun ls hl => ?_)
        exact B63 N st x2 x3 (nI 0) (nI 0) _ _ _ h hW hS (lv_sub hl [2, 3, 4, 5, 1, 0] rfl)
  have B28 : ∀ (n28 : Nat) (st : zS) (x2 : Int32) (x3 : Int32) (H : Heap) (locs : List Loc) (ls : Array Slot), f_X12_where_28 N o a1 n28 st x2 x3 = some (st', r) → zWd G st H → va_S (zA G) s.heap H locs → lv_has ls 6 [(0, .ref (G.2.2.2 + o)), (1, .int a1), (2, .int x2), (3, .int x3)] → W p l e (zRm 2 0 0) s m args below meth c H locs 0 0 (MQ below (zQ G (some (.int r)) st') args s 0 0 (zA G)) (F0 m 28 ls []) := by
    intro n28
    induction n28 with
    | zero =>
      intro st x2 x3 H locs ls h
      unfold f_X12_where_28 at h
      cases h
    | succ n28 ih28 =>
      intro st x2 x3 H locs ls h hW hS hl
      unfold f_X12_where_28 at h
      refine lv_iload_n hx hb dX12_where_28 rfl (lv_at hl 3 rfl) ?_
      refine lv_iload_n hx hb dX12_where_29 rfl (lv_at hl 2 rfl) ?_
      refine z_br (lv_icmp_ge (tgt := 50) hx hb dX12_where_30 (by decide)) h (fun h => ?_) (fun h => ?_)
      · refine lv_iconst (v := (nI 0)) hx hb dX12_where_50 (by decide) ?_
        refine lv_istore_n (lv' := [(3, .int ((nI 0))), (0, .ref (G.2.2.2 + o)), (1, .int a1), (2, .int x2)]) hx hb dX12_where_51 rfl hl (by decide) rfl (fun ls hl => ?_)
        exact B52 N st x2 (nI 0) _ _ _ h hW hS (lv_sub hl [1, 2, 3, 0] rfl)
      · refine lv_aload_n hx hb dX12_where_33 rfl (lv_at hl 0 rfl) ?_
        obtain ⟨t16, h⟩ := zc_at h
        obtain ⟨b17, hb17, h⟩ := zd_at h
        refine z_gR hx hb hq hown hK hW fs_RX12_28 t16 hb17 dX12_where_34 ?_
        refine lv_iload_n hx hb dX12_where_37 rfl (lv_at hl 3 rfl) ?_
        refine lv_aload_n hx hb dX12_where_38 rfl (lv_at hl 0 rfl) ?_
        refine lv_iload_n hx hb dX12_where_39 rfl (lv_at hl 3 rfl) ?_
        obtain ⟨st19, r20, c18, h⟩ := zb_at h
        refine z_cV hx hb hq hml hown hK hW hS 12 [.int x3] [.int x3, .ref (G.2.2.2 + b17)] rfl (List.mem_singleton.mp t16) (c_X12_signAt l G N st o x3 c18) (zi zm624) (zi zm625) (zi zm626) (zi zm5) (zi zm627) cal_X12_signAt rfl rfl hl.1 rfl (Nat.le_of_ble_eq_true rfl) (zR_ok (by omega) (by decide)) ⟨(Nat.le_of_ble_eq_true rfl), (Nat.le_of_ble_eq_true rfl)⟩ dX12_where_40 (fun H locs hW hS => ?_)
        refine W.eq (g2 := F0 m 43 ls [.int r20, .int x3, .ref (G.2.2.2 + b17)]) rfl ?_
        obtain ⟨t21, h⟩ := zc_at h
        obtain ⟨t22, h⟩ := zc_at h
        refine z_asI hx hb hK hW hS (List.mem_singleton.mp t21) t22 dX12_where_43 (fun H locs hW hS => ?_)
        refine lv_iinc (v := (x3 + (nI 1))) (lv' := [(3, .int ((x3 + (nI 1)))), (0, .ref (G.2.2.2 + o)), (1, .int a1), (2, .int x2)]) hx hb dX12_where_44 hl (k := 3) rfl rfl (by decide) rfl (fun ls hl => ?_)
        refine lv_goto (tgt := 28) hx hb dX12_where_47 (by decide) ?_
        exact ih28 (zPM st19 b17 (x3).toNatClampNeg r20) x2 (x3 + (nI 1)) _ _ _ h hW hS (lv_sub hl [1, 2, 3, 0] rfl)
  refine lv_aload_n hx hb dX12_where_0 rfl (lv_at hl 0 rfl) ?_
  obtain ⟨t1, h⟩ := zc_at h
  obtain ⟨r3, c2, h⟩ := zd_at h
  refine z_cV hx hb hq hml hown hK hW hS 12 [] [] rfl (List.mem_singleton.mp t1) (c_X12_wantNow l G st o c2) (zi zm664) (zi zm665) (zi zm666) (zi zm5) (zi zm667) cal_X12_wantNow rfl rfl hl.1 rfl (Nat.le_of_ble_eq_true rfl) (zR_ok (by omega) (by decide)) ⟨(Nat.le_of_ble_eq_true rfl), (Nat.le_of_ble_eq_true rfl)⟩ dX12_where_1 (fun H locs hW hS => ?_)
  refine W.eq (g2 := F0 m 4 ls [.int r3]) rfl ?_
  refine lv_istore_n (lv' := [(2, .int r3), (0, .ref (G.2.2.2 + o)), (1, .int a1)]) hx hb dX12_where_4 rfl hl (by decide) rfl (fun ls hl => ?_)
  refine lv_iload_n hx hb dX12_where_5 rfl (lv_at hl 2 rfl) ?_
  refine lv_iconst (v := (nI 0)) hx hb dX12_where_6 (by decide) ?_
  refine lv_aload_n hx hb dX12_where_7 rfl (lv_at hl 1 rfl) ?_
  obtain ⟨r5, c4, h⟩ := zd_at h
  refine z_cV hx hb hq hml hown hK hW hS 12 [] [.int ((nI 0)), .int a1] rfl (List.mem_singleton.mp t1) (c_X12_lookNow l G st o c4) (zi zm671) (zi zm672) (zi zm673) (zi zm5) (zi zm674) cal_X12_lookNow rfl rfl hl.1 rfl (Nat.le_of_ble_eq_true rfl) (zR_ok (by omega) (by decide)) ⟨(Nat.le_of_ble_eq_true rfl), (Nat.le_of_ble_eq_true rfl)⟩ dX12_where_8 (fun H locs hW hS => ?_)
  refine W.eq (g2 := F0 m 11 ls [.int r5, .int ((nI 0)), .int a1]) rfl ?_
  refine lv_iconst (v := (nI 1)) hx hb dX12_where_11 (by decide) ?_
  refine lv_isub hx hb dX12_where_12 ?_
  obtain ⟨r7, c6, h⟩ := zd_at h
  refine z_cS hx hb hq hml hown hK hW hS [.int a1, .int ((nI 0)), .int ((r5 - (nI 1)))] [] (c_X12_in l G st a1 (nI 0) (r5 - (nI 1)) c6) (zi zm90) (zi zm91) (zi zm5) (zi zm92) cal_X12_in rfl hl.1 rfl (Nat.le_of_ble_eq_true rfl) (zR_ok (by omega) (by decide)) ⟨(Nat.le_of_ble_eq_true rfl), (Nat.le_of_ble_eq_true rfl)⟩ dX12_where_13 (fun H locs hW hS => ?_)
  refine W.eq (g2 := F0 m 16 ls [.int r7]) rfl ?_
  refine z_br (lv_if_eq (tgt := 24) hx hb dX12_where_16 (by decide)) h (fun h => ?_) (fun h => ?_)
  · refine lv_iconst (v := (-1)) hx hb dX12_where_24 (by decide) ?_
    obtain ⟨rfl, rfl⟩ := Prod.mk.inj (Option.some.inj h)
    exact z_ri hx hb hr hlk hW hS (Nat.le_of_ble_eq_true rfl) (Nat.le_of_ble_eq_true rfl) dX12_where_25
  · refine lv_iload_n hx hb dX12_where_19 rfl (lv_at hl 2 rfl) ?_
    refine lv_iload_n hx hb dX12_where_20 rfl (lv_at hl 0 rfl) ?_
    refine z_br (lv_icmp_lt (tgt := 26) hx hb dX12_where_21 (by decide)) h (fun h => ?_) (fun h => ?_)
    · refine lv_iconst (v := (nI 0)) hx hb dX12_where_26 (by decide) ?_
      refine lv_istore_n (lv' := [(3, .int ((nI 0))), (2, .int r3), (0, .ref (G.2.2.2 + o)), (1, .int a1)]) hx hb dX12_where_27 rfl hl (by decide) rfl (fun ls hl => ?_)
      exact B28 N st r3 (nI 0) _ _ _ h hW hS (lv_sub hl [2, 3, 1, 0] rfl)
    · refine lv_iconst (v := (-1)) hx hb dX12_where_24 (by decide) ?_
      obtain ⟨rfl, rfl⟩ := Prod.mk.inj (Option.some.inj h)
      exact z_ri hx hb hr hlk hW hS (Nat.le_of_ble_eq_true rfl) (Nat.le_of_ble_eq_true rfl) dX12_where_25
def f_X12_left_46 (N : Nat) (o : Nat) (k8 : zS → Int32 → Int32 → Option (zS × Int32)) (st : zS) (x2 : Int32) (y0 : Int32) (y1 : Int32) : Option (zS × Int32) := (zl (y1 + y0) (fun v11 => (k8 st v11 (x2 + (nI 1)))))
def f_X12_left_45 (N : Nat) (o : Nat) (k8 : zS → Int32 → Int32 → Option (zS × Int32)) (st : zS) (x2 : Int32) (y0 : Int32) : Option (zS × Int32) := (f_X12_left_46 N o k8 st x2 (nI 0) y0)
def f_X12_left_8 (N : Nat) (o : Nat)  : Nat → zS → Int32 → Int32 → Option (zS × Int32)
  | 0, _, _, _ => none
  | n8 + 1, st, x1, x2 => (if zTg st o ∈ [22] then (Option.bind (zR st o 1) (fun b5 => (if zTg st b5 ∈ [1] then (if zin (nI 8) (zLn st b5) then (if (zM st b5 ((nI 8)).toNatClampNeg) ≤ x2 then (Option.bind (f_X12_doesCount st o) (fun r9 => (if r9 = 0 then (some (st, x1)) else (some (st, (nI 0)))))) else (if zin ((nI 53) + x2) (zLn st b5) then (if (zM st b5 (((nI 53) + x2)).toNatClampNeg) = (-1 : Int32) then (f_X12_left_45 N o (f_X12_left_8 N o n8) st x2 x1) else (Option.bind (f_X12_isPlace N st o x2) (fun r13 => (if r13 = 0 then (f_X12_left_46 N o (f_X12_left_8 N o n8) st x2 (nI 1) x1) else (f_X12_left_45 N o (f_X12_left_8 N o n8) st x2 x1))))) else none)) else none) else none))) else none)
def f_X12_left (N : Nat) (st : zS) (o : Nat) : Option (zS × Int32) := (if zTg st o ∈ [22] then (Option.bind (f_X12_looksForPlaces N st o) (fun st3 => (f_X12_left_8 N o N st3 (nI 0) (nI 0)))) else none)
set_option maxHeartbeats 1000000 in
set_option maxRecDepth 100000 in
theorem c_X12_left (l : Launch) (G : zG) (N : Nat) (st : zS) (o : Nat) {st' : zS} {r : Int32} (h : f_X12_left N st o = some (st', r)) : zMet l G yX12_left cX12_left 3 (some .int) 3 0 0 [.ref (G.2.2.2 + o)] st (some (.int r)) st' := by
  refine zMet_of (by decide +kernel) ?_
  intro p e s m args below meth c X
  obtain ⟨hx, hb, hr, hml, hown, hq, hlk, hK, -, hin, hW, hS⟩ := X
  have hown : s.vm.findClass RX12 = some m.cls := hown
  refine z_ent (by exact Nat.le_of_ble_eq_true rfl) (fun ls hl => ?_)
  have hl : lv_has ls 3 [(0, .ref (G.2.2.2 + o))] := hl
  unfold f_X12_left at h
  have B8 : ∀ (n8 : Nat) (st : zS) (x1 : Int32) (x2 : Int32) (H : Heap) (locs : List Loc) (ls : Array Slot), f_X12_left_8 N o n8 st x1 x2 = some (st', r) → zWd G st H → va_S (zA G) s.heap H locs → lv_has ls 3 [(0, .ref (G.2.2.2 + o)), (1, .int x1), (2, .int x2)] → W p l e (zRm 3 0 0) s m args below meth c H locs 0 0 (MQ below (zQ G (some (.int r)) st') args s 0 0 (zA G)) (F0 m 8 ls []) := by
    intro n8
    induction n8 with
    | zero =>
      intro st x1 x2 H locs ls h
      unfold f_X12_left_8 at h
      cases h
    | succ n8 ih8 =>
      have B46 : ∀ (st : zS) (x2 : Int32) (y0 : Int32) (y1 : Int32) (H : Heap) (locs : List Loc) (ls : Array Slot), f_X12_left_46 N o (f_X12_left_8 N o n8) st x2 y0 y1 = some (st', r) → zWd G st H → va_S (zA G) s.heap H locs → lv_has ls 3 [(0, .ref (G.2.2.2 + o)), (2, .int x2)] → W p l e (zRm 3 0 0) s m args below meth c H locs 0 0 (MQ below (zQ G (some (.int r)) st') args s 0 0 (zA G)) (F0 m 46 ls [.int y0, .int y1]) := by
        intro st x2 y0 y1 H locs ls h hW hS hl
        unfold f_X12_left_46 at h
        refine lv_iadd hx hb dX12_left_46 ?_
        refine lv_topi (fun v11 ev11 => ?_)
        have h := zl_at ev11 h
        refine lv_istore_n (lv' := [(1, .int v11), (0, .ref (G.2.2.2 + o)), (2, .int x2)]) hx hb dX12_left_47 rfl hl (by decide) rfl (fun ls hl => ?_)
        refine lv_iinc (v := (x2 + (nI 1))) (lv' := [(2, .int ((x2 + (nI 1)))), (1, .int v11), (0, .ref (G.2.2.2 + o))]) hx hb dX12_left_48 hl (k := 2) rfl rfl (by decide) rfl (fun ls hl => ?_)
        refine lv_goto (tgt := 8) hx hb dX12_left_51 (by decide) ?_
        exact ih8 st v11 (x2 + (nI 1)) _ _ _ h hW hS (lv_sub hl [2, 1, 0] rfl)
      have B45 : ∀ (st : zS) (x2 : Int32) (y0 : Int32) (H : Heap) (locs : List Loc) (ls : Array Slot), f_X12_left_45 N o (f_X12_left_8 N o n8) st x2 y0 = some (st', r) → zWd G st H → va_S (zA G) s.heap H locs → lv_has ls 3 [(0, .ref (G.2.2.2 + o)), (2, .int x2)] → W p l e (zRm 3 0 0) s m args below meth c H locs 0 0 (MQ below (zQ G (some (.int r)) st') args s 0 0 (zA G)) (F0 m 45 ls [.int y0]) := by
        intro st x2 y0 H locs ls h hW hS hl
        unfold f_X12_left_45 at h
        refine lv_iconst (v := (nI 0)) hx hb dX12_left_45 (by decide) ?_
        exact B46 st x2 (nI 0) y0 _ _ _ h hW hS (lv_sub hl [0, 1] rfl)
      intro st x1 x2 H locs ls h hW hS hl
      unfold f_X12_left_8 at h
      refine lv_iload_n hx hb dX12_left_8 rfl (lv_at hl 2 rfl) ?_
      refine lv_aload_n hx hb dX12_left_9 rfl (lv_at hl 0 rfl) ?_
      obtain ⟨t4, h⟩ := zc_at h
      obtain ⟨b5, hb5, h⟩ := zd_at h
      refine z_gR hx hb hq hown hK hW fs_RX12_9 t4 hb5 dX12_left_10 ?_
      refine lv_bipush (v := (nI 8)) hx hb dX12_left_13 (by decide) ?_
      obtain ⟨t6, h⟩ := zc_at h
      obtain ⟨t7, h⟩ := zc_at h
      refine z_alI hx hb hK hW (List.mem_singleton.mp t6) t7 dX12_left_15 ?_
      refine z_br (lv_icmp_ge (tgt := 54) hx hb dX12_left_16 (by decide)) h (fun h => ?_) (fun h => ?_)
      · refine lv_aload_n hx hb dX12_left_54 rfl (lv_at hl 0 rfl) ?_
        obtain ⟨r9, c8, h⟩ := zd_at h
        refine z_cV hx hb hq hml hown hK hW hS 12 [] [] rfl (List.mem_singleton.mp t4) (c_X12_doesCount l G st o c8) (zi zm749) (zi zm750) (zi zm751) (zi zm5) (zi zm752) cal_X12_doesCount rfl rfl hl.1 rfl (Nat.le_of_ble_eq_true rfl) (zR_ok (by omega) (by decide)) ⟨(Nat.le_of_ble_eq_true rfl), (Nat.le_of_ble_eq_true rfl)⟩ dX12_left_55 (fun H locs hW hS => ?_)
        refine W.eq (g2 := F0 m 58 ls [.int r9]) rfl ?_
        refine z_br (lv_if_eq (tgt := 65) hx hb dX12_left_58 (by decide)) h (fun h => ?_) (fun h => ?_)
        · refine lv_iload_n hx hb dX12_left_65 rfl (lv_at hl 1 rfl) ?_
          obtain ⟨rfl, rfl⟩ := Prod.mk.inj (Option.some.inj h)
          exact z_ri hx hb hr hlk hW hS (Nat.le_of_ble_eq_true rfl) (Nat.le_of_ble_eq_true rfl) dX12_left_66
        · refine lv_iconst (v := (nI 0)) hx hb dX12_left_61 (by decide) ?_
          refine lv_goto (tgt := 66) hx hb dX12_left_62 (by decide) ?_
          obtain ⟨rfl, rfl⟩ := Prod.mk.inj (Option.some.inj h)
          exact z_ri hx hb hr hlk hW hS (Nat.le_of_ble_eq_true rfl) (Nat.le_of_ble_eq_true rfl) dX12_left_66
      · refine lv_iload_n hx hb dX12_left_19 rfl (lv_at hl 1 rfl) ?_
        refine lv_aload_n hx hb dX12_left_20 rfl (lv_at hl 0 rfl) ?_
        refine z_gR hx hb hq hown hK hW fs_RX12_9 t4 hb5 dX12_left_21 ?_
        refine lv_bipush (v := (nI 53)) hx hb dX12_left_24 (by decide) ?_
        refine lv_iload_n hx hb dX12_left_26 rfl (lv_at hl 2 rfl) ?_
        refine lv_iadd hx hb dX12_left_27 ?_
        obtain ⟨t10, h⟩ := zc_at h
        refine z_alI hx hb hK hW (List.mem_singleton.mp t6) t10 dX12_left_28 ?_
        refine lv_iconst (v := (-1)) hx hb dX12_left_29 (by decide) ?_
        refine z_br (lv_icmp_eq (tgt := 45) hx hb dX12_left_30 (by decide)) h (fun h => ?_) (fun h => ?_)
        · exact B45 st x2 x1 _ _ _ h hW hS (lv_sub hl [0, 2] rfl)
        · refine lv_aload_n hx hb dX12_left_33 rfl (lv_at hl 0 rfl) ?_
          refine lv_iload_n hx hb dX12_left_34 rfl (lv_at hl 2 rfl) ?_
          obtain ⟨r13, c12, h⟩ := zd_at h
          refine z_cV hx hb hq hml hown hK hW hS 12 [.int x2] [.int x1] rfl (List.mem_singleton.mp t4) (c_X12_isPlace l G N st o x2 c12) (zi zm675) (zi zm676) (zi zm677) (zi zm5) (zi zm678) cal_X12_isPlace rfl rfl hl.1 rfl (Nat.le_of_ble_eq_true rfl) (zR_ok (by omega) (by decide)) ⟨(Nat.le_of_ble_eq_true rfl), (Nat.le_of_ble_eq_true rfl)⟩ dX12_left_35 (fun H locs hW hS => ?_)
          refine W.eq (g2 := F0 m 38 ls [.int r13, .int x1]) rfl ?_
          refine z_brn (lv_if_ne (tgt := 45) hx hb dX12_left_38 (by decide)) h (fun h => ?_) (fun h => ?_)
          · exact B45 st x2 x1 _ _ _ h hW hS (lv_sub hl [0, 2] rfl)
          · refine lv_iconst (v := (nI 1)) hx hb dX12_left_41 (by decide) ?_
            refine lv_goto (tgt := 46) hx hb dX12_left_42 (by decide) ?_
            exact B46 st x2 (nI 1) x1 _ _ _ h hW hS (lv_sub hl [0, 2] rfl)
  refine lv_aload_n hx hb dX12_left_0 rfl (lv_at hl 0 rfl) ?_
  obtain ⟨t1, h⟩ := zc_at h
  obtain ⟨st3, c2, h⟩ := zd_at h
  refine z_cV hx hb hq hml hown hK hW hS 12 [] [] rfl (List.mem_singleton.mp t1) (c_X12_looksForPlaces l G N st o c2) (zi zm660) (zi zm661) (zi zm662) (zi zm5) (zi zm663) cal_X12_looksForPlaces rfl rfl hl.1 rfl (Nat.le_of_ble_eq_true rfl) (zR_ok (by omega) (by decide)) ⟨(Nat.le_of_ble_eq_true rfl), (Nat.le_of_ble_eq_true rfl)⟩ dX12_left_1 (fun H locs hW hS => ?_)
  refine W.eq (g2 := F0 m 4 ls []) rfl ?_
  refine lv_iconst (v := (nI 0)) hx hb dX12_left_4 (by decide) ?_
  refine lv_istore_n (lv' := [(1, .int ((nI 0))), (0, .ref (G.2.2.2 + o))]) hx hb dX12_left_5 rfl hl (by decide) rfl (fun ls hl => ?_)
  refine lv_iconst (v := (nI 0)) hx hb dX12_left_6 (by decide) ?_
  refine lv_istore_n (lv' := [(2, .int ((nI 0))), (1, .int ((nI 0))), (0, .ref (G.2.2.2 + o))]) hx hb dX12_left_7 rfl hl (by decide) rfl (fun ls hl => ?_)
  exact B8 N st3 (nI 0) (nI 0) _ _ _ h hW hS (lv_sub hl [2, 1, 0] rfl)
