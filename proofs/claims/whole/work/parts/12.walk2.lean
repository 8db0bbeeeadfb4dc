def f_X11_isPence (a0 : Int32) : Option Int32 := (if a0 < 0 then (some (nI 0)) else (if (nI 999) < a0 then (some (nI 0)) else (some (nI 1))))
set_option maxHeartbeats 1000000 in
set_option maxRecDepth 100000 in
theorem c_X11_isPence (l : Launch) (G : zG) (st : zS) (a0 : Int32) {r : Int32} (h : f_X11_isPence a0 = some r) : zMet l G yX11_isPence cX11_isPence 1 (some .boolean) 0 0 0 [.int a0] st (some (.int r)) st := by
  refine zMet_of (by decide +kernel) ?_
  intro p e s m args below meth c X
  obtain ⟨hx, hb, hr, hml, hown, hq, hlk, hK, -, hin, hW, hS⟩ := X
  have hown : s.vm.findClass RX11 = some m.cls := hown
  refine z_ent (by exact Nat.le_of_ble_eq_true rfl) (fun ls hl => ?_)
  have hl : lv_has ls 1 [(0, .int a0)] := hl
  unfold f_X11_isPence at h
  refine lv_iload_n hx hb dX11_isPence_0 rfl (lv_at hl 0 rfl) ?_
  refine z_br (lv_if_lt (tgt := 15) hx hb dX11_isPence_1 (by decide)) h (fun h => ?_) (fun h => ?_)
  · refine lv_iconst (v := (nI 0)) hx hb dX11_isPence_15 (by decide) ?_
    obtain rfl := Option.some.inj h
    exact z_rz hx hb hr hlk rfl hW hS (Nat.le_of_ble_eq_true rfl) (Nat.le_of_ble_eq_true rfl) dX11_isPence_16
  · refine lv_iload_n hx hb dX11_isPence_4 rfl (lv_at hl 0 rfl) ?_
    refine lv_sipush (v := (nI 999)) hx hb dX11_isPence_5 (by decide) ?_
    refine z_br (lv_icmp_gt (tgt := 15) hx hb dX11_isPence_8 (by decide)) h (fun h => ?_) (fun h => ?_)
    · refine lv_iconst (v := (nI 0)) hx hb dX11_isPence_15 (by decide) ?_
      obtain rfl := Option.some.inj h
      exact z_rz hx hb hr hlk rfl hW hS (Nat.le_of_ble_eq_true rfl) (Nat.le_of_ble_eq_true rfl) dX11_isPence_16
    · refine lv_iconst (v := (nI 1)) hx hb dX11_isPence_11 (by decide) ?_
      refine lv_goto (tgt := 16) hx hb dX11_isPence_12 (by decide) ?_
      obtain rfl := Option.some.inj h
      exact z_rz hx hb hr hlk rfl hW hS (Nat.le_of_ble_eq_true rfl) (Nat.le_of_ble_eq_true rfl) dX11_isPence_16
def f_X11_quick_103 (N : Nat) (st : zS) (o : Nat) (a1 : Int32) (a2 : Int32) (a3 : Int32) (k32 : Int32 → Int32 → Option Int32) (x4 : Int32) (x5 : Int32) : Option Int32 := (k32 x4 (x5 + (nI 1)))
def f_X11_quick_78 (N : Nat) (st : zS) (o : Nat) (a1 : Int32) (a2 : Int32) (a3 : Int32) (k32 : Int32 → Int32 → Option Int32) (x4 : Int32) (x5 : Int32) (y0 : Int32) : Option Int32 := (if y0 = 0 then (f_X11_quick_103 N st o a1 a2 a3 k32 x4 x5) else (if zTg st o ∈ [21] then (Option.bind (zR st o 0) (fun b15 => (if zTg st b15 ∈ [12] then (Option.bind (f_X2_penceOf st b15 x5 a1) (fun r18 => (if a2 < r18 then (f_X11_quick_103 N st o a1 a2 a3 k32 x4 x5) else (f_X11_quick_103 N st o a1 a2 a3 k32 x5 x5)))) else none))) else none))
def f_X11_quick_73 (N : Nat) (st : zS) (o : Nat) (a1 : Int32) (a2 : Int32) (a3 : Int32) (k32 : Int32 → Int32 → Option Int32) (x4 : Int32) (x5 : Int32) : Option Int32 := (f_X11_quick_78 N st o a1 a2 a3 k32 x4 x5 (nI 1))
def f_X11_quick_32 (N : Nat) (st : zS) (o : Nat) (a1 : Int32) (a2 : Int32) (a3 : Int32)  : Nat → Int32 → Int32 → Option Int32
  | 0, _, _ => none
  | n32 + 1, x4, x5 => (if zTg st o ∈ [21] then (Option.bind (zR st o 0) (fun b8 => (if zTg st b8 ∈ [12] then (Option.bind (f_X2_wayCount st b8) (fun r11 => (if r11 ≤ x5 then (if x4 = (-1 : Int32) then (some (-5 : Int32)) else (if a3 = 0 then (some x4) else (Option.bind (f_X2_secondsOf st b8 x4 a1) (fun r13 => (some r13))))) else (if x4 = (-1 : Int32) then (f_X11_quick_73 N st o a1 a2 a3 (f_X11_quick_32 N st o a1 a2 a3 n32) x4 x5) else (Option.bind (f_X2_secondsOf st b8 x5 a1) (fun r20 => (Option.bind (f_X2_secondsOf st b8 x4 a1) (fun r22 => (if r22 ≤ r20 then (f_X11_quick_78 N st o a1 a2 a3 (f_X11_quick_32 N st o a1 a2 a3 n32) x4 x5 (nI 0)) else (f_X11_quick_73 N st o a1 a2 a3 (f_X11_quick_32 N st o a1 a2 a3 n32) x4 x5)))))))))) else none))) else none)
def f_X11_quick (N : Nat) (st : zS) (o : Nat) (a1 : Int32) (a2 : Int32) (a3 : Int32) : Option Int32 := (Option.bind (f_X11_isPart a3) (fun r2 => (if r2 = 0 then (some (-1 : Int32)) else (Option.bind (f_X11_isLength a1) (fun r4 => (if r4 = 0 then (some (-2 : Int32)) else (Option.bind (f_X11_isPence a2) (fun r6 => (if r6 = 0 then (some (-2 : Int32)) else (f_X11_quick_32 N st o a1 a2 a3 N (-1 : Int32) (nI 0)))))))))))
set_option maxHeartbeats 1000000 in
set_option maxRecDepth 100000 in
theorem c_X11_quick (l : Launch) (G : zG) (N : Nat) (st : zS) (o : Nat) (a1 : Int32) (a2 : Int32) (a3 : Int32) {r : Int32} (h : f_X11_quick N st o a1 a2 a3 = some r) : zMet l G yX11_quick cX11_quick 7 (some .int) 3 0 0 [.ref (G.2.2.2 + o), .int a1, .int a2, .int a3] st (some (.int r)) st := by
  refine zMet_of (by decide +kernel) ?_
  intro p e s m args below meth c X
  obtain ⟨hx, hb, hr, hml, hown, hq, hlk, hK, -, hin, hW, hS⟩ := X
  have hown : s.vm.findClass RX11 = some m.cls := hown
  refine z_ent (by exact Nat.le_of_ble_eq_true rfl) (fun ls hl => ?_)
  have hl : lv_has ls 7 [(0, .ref (G.2.2.2 + o)), (1, .int a1), (2, .int a2), (3, .int a3)] := hl
  unfold f_X11_quick at h
  have B32 : ∀ (n32 : Nat) (x4 : Int32) (x5 : Int32) (H : Heap) (locs : List Loc) (ls : Array Slot), f_X11_quick_32 N st o a1 a2 a3 n32 x4 x5 = some r → zWd G st H → va_S (zA G) s.heap H locs → lv_has ls 7 [(0, .ref (G.2.2.2 + o)), (1, .int a1), (2, .int a2), (3, .int a3), (4, .int x4), (5, .int x5)] → W p l e (zRm 3 0 0) s m args below meth c H locs 0 0 (MQ below (zQ G (some (.int r)) st) args s 0 0 (zA G)) (F0 m 32 ls []) := by
    intro n32
    induction n32 with
    | zero =>
      intro x4 x5 H locs ls h
      unfold f_X11_quick_32 at h
      cases h
    | succ n32 ih32 =>
      have B103 : ∀ (x4 : Int32) (x5 : Int32) (H : Heap) (locs : List Loc) (ls : Array Slot), f_X11_quick_103 N st o a1 a2 a3 (f_X11_quick_32 N st o a1 a2 a3 n32) x4 x5 = some r → zWd G st H → va_S (zA G) s.heap H locs → lv_has ls 7 [(0, .ref (G.2.2.2 + o)), (1, .int a1), (2, .int a2), (3, .int a3), (4, .int x4), (5, .int x5)] → W p l e (zRm 3 0 0) s m args below meth c H locs 0 0 (MQ below (zQ G (some (.int r)) st) args s 0 0 (zA G)) (F0 m 103 ls []) := by
        intro x4 x5 H locs ls h hW hS hl
        unfold f_X11_quick_103 at h
        refine lv_iinc (v := (x5 + (nI 1))) (lv' := [(5, .int ((x5 + (nI 1)))), (0, .ref (G.2.2.2 + o)), (1, .int a1), (2, .int a2), (3, .int a3), (4, .int x4)]) hx hb dX11_quick_103 hl (k := 5) rfl rfl (by decide) rfl (fun ls hl => ?_)
        refine lv_goto (tgt := 32) hx hb dX11_quick_106 (by decide) ?_
        exact ih32 x4 (x5 + (nI 1)) _ _ _ h hW hS (lv_sub hl [1, 2, 3, 4, 5, 0] rfl)
      have B78 : ∀ (x4 : Int32) (x5 : Int32) (y0 : Int32) (H : Heap) (locs : List Loc) (ls : Array Slot), f_X11_quick_78 N st o a1 a2 a3 (f_X11_quick_32 N st o a1 a2 a3 n32) x4 x5 y0 = some r → zWd G st H → va_S (zA G) s.heap H locs → lv_has ls 7 [(0, .ref (G.2.2.2 + o)), (1, .int a1), (2, .int a2), (3, .int a3), (4, .int x4), (5, .int x5)] → W p l e (zRm 3 0 0) s m args below meth c H locs 0 0 (MQ below (zQ G (some (.int r)) st) args s 0 0 (zA G)) (F0 m 78 ls [.int y0]) := by
        intro x4 x5 y0 H locs ls h hW hS hl
        unfold f_X11_quick_78 at h
        refine lv_istore (lv' := [(6, .int y0), (0, .ref (G.2.2.2 + o)), (1, .int a1), (2, .int a2), (3, .int a3), (4, .int x4), (5, .int x5)]) hx hb dX11_quick_78 hl (by decide) rfl (fun ls hl => ?_)
        refine lv_iload hx hb dX11_quick_80 (lv_at hl 0 rfl) ?_
        refine z_br (lv_if_eq (tgt := 103) hx hb dX11_quick_82 (by decide)) h (fun h => ?_) (fun h => ?_)
        · exact B103 x4 x5 _ _ _ h hW hS (lv_sub hl [1, 2, 3, 4, 5, 6] rfl)
        · refine lv_aload_n hx hb dX11_quick_85 rfl (lv_at hl 1 rfl) ?_
          obtain ⟨t14, h⟩ := zc_at h
          obtain ⟨b15, hb15, h⟩ := zd_at h
          refine z_gR hx hb hq hown hK hW fs_RX11_12 t14 hb15 dX11_quick_86 ?_
          refine lv_iload hx hb dX11_quick_89 (lv_at hl 6 rfl) ?_
          refine lv_iload_n hx hb dX11_quick_91 rfl (lv_at hl 2 rfl) ?_
          obtain ⟨t16, h⟩ := zc_at h
          obtain ⟨r18, c17, h⟩ := zd_at h
          refine z_cV hx hb hq hml hown hK hW hS 2 [.int x5, .int a1] [] rfl (List.mem_singleton.mp t16) (c_X2_penceOf l G st b15 x5 a1 c17) (zi zm527) (zi zm528) (zi zm529) (zi zm14) (zi zm530) cal_X2_penceOf rfl rfl hl.1 rfl (Nat.le_of_ble_eq_true rfl) (zR_ok (by omega) (by decide)) ⟨(Nat.le_of_ble_eq_true rfl), (Nat.le_of_ble_eq_true rfl)⟩ dX11_quick_92 (fun H locs hW hS => ?_)
          refine W.eq (g2 := F0 m 95 ls [.int r18]) rfl ?_
          refine lv_iload_n hx hb dX11_quick_95 rfl (lv_at hl 3 rfl) ?_
          refine z_br (lv_icmp_gt (tgt := 103) hx hb dX11_quick_96 (by decide)) h (fun h => ?_) (fun h => ?_)
          · exact B103 x4 x5 _ _ _ h hW hS (lv_sub hl [1, 2, 3, 4, 5, 6] rfl)
          · refine lv_iload hx hb dX11_quick_99 (lv_at hl 6 rfl) ?_
            refine lv_istore (lv' := [(4, .int x5), (6, .int y0), (0, .ref (G.2.2.2 + o)), (1, .int a1), (2, .int a2), (3, .int a3), (5, .int x5)]) hx hb dX11_quick_101 hl (by decide) rfl (fun ls hl => ?_)
            exact B103 x5 x5 _ _ _ h hW hS (lv_sub hl [2, 3, 4, 5, 0, 6] rfl)
      have B73 : ∀ (x4 : Int32) (x5 : Int32) (H : Heap) (locs : List Loc) (ls : Array Slot), f_X11_quick_73 N st o a1 a2 a3 (f_X11_quick_32 N st o a1 a2 a3 n32) x4 x5 = some r → zWd G st H → va_S (zA G) s.heap H locs → lv_has ls 7 [(0, .ref (G.2.2.2 + o)), (1, .int a1), (2, .int a2), (3, .int a3), (4, .int x4), (5, .int x5)] → W p l e (zRm 3 0 0) s m args below meth c H locs 0 0 (MQ below (zQ G (some (.int r)) st) args s 0 0 (zA G)) (F0 m 73 ls []) := by
        intro x4 x5 H locs ls h hW hS hl
        unfold f_X11_quick_73 at h
        refine lv_iconst (v := (nI 1)) hx hb dX11_quick_73 (by decide) ?_
        refine lv_goto (tgt := 78) hx hb dX11_quick_74 (by decide) ?_
        exact B78 x4 x5 (nI 1) _ _ _ h hW hS (lv_sub hl [0, 1, 2, 3, 4, 5] rfl)
      intro x4 x5 H locs ls h hW hS hl
      unfold f_X11_quick_32 at h
      refine lv_iload hx hb dX11_quick_32 (lv_at hl 5 rfl) ?_
      refine lv_aload_n hx hb dX11_quick_34 rfl (lv_at hl 0 rfl) ?_
      obtain ⟨t7, h⟩ := zc_at h
      obtain ⟨b8, hb8, h⟩ := zd_at h
      refine z_gR hx hb hq hown hK hW fs_RX11_12 t7 hb8 dX11_quick_35 ?_
      obtain ⟨t9, h⟩ := zc_at h
      obtain ⟨r11, c10, h⟩ := zd_at h
      refine z_cV hx hb hq hml hown hK hW hS 2 [] [.int x5] rfl (List.mem_singleton.mp t9) (c_X2_wayCount l G st b8 c10) (zi zm339) (zi zm340) (zi zm341) (zi zm14) (zi zm342) cal_X2_wayCount rfl rfl hl.1 rfl (Nat.le_of_ble_eq_true rfl) (zR_ok (by omega) (by decide)) ⟨(Nat.le_of_ble_eq_true rfl), (Nat.le_of_ble_eq_true rfl)⟩ dX11_quick_38 (fun H locs hW hS => ?_)
      refine W.eq (g2 := F0 m 41 ls [.int r11, .int x5]) rfl ?_
      refine z_br (lv_icmp_ge (tgt := 109) hx hb dX11_quick_41 (by decide)) h (fun h => ?_) (fun h => ?_)
      · refine lv_iload hx hb dX11_quick_109 (lv_at hl 4 rfl) ?_
        refine lv_iconst (v := (-1)) hx hb dX11_quick_111 (by decide) ?_
        refine z_brn (lv_icmp_ne (tgt := 118) hx hb dX11_quick_112 (by decide)) h (fun h => ?_) (fun h => ?_)
        · refine lv_iload_n hx hb dX11_quick_118 rfl (lv_at hl 3 rfl) ?_
          refine z_brn (lv_if_ne (tgt := 127) hx hb dX11_quick_119 (by decide)) h (fun h => ?_) (fun h => ?_)
          · refine lv_aload_n hx hb dX11_quick_127 rfl (lv_at hl 0 rfl) ?_
            refine z_gR hx hb hq hown hK hW fs_RX11_12 t7 hb8 dX11_quick_128 ?_
            refine lv_iload hx hb dX11_quick_131 (lv_at hl 4 rfl) ?_
            refine lv_iload_n hx hb dX11_quick_133 rfl (lv_at hl 1 rfl) ?_
            obtain ⟨r13, c12, h⟩ := zd_at h
            refine z_cV hx hb hq hml hown hK hW hS 2 [.int x4, .int a1] [] rfl (List.mem_singleton.mp t9) (c_X2_secondsOf l G st b8 x4 a1 c12) (zi zm478) (zi zm479) (zi zm480) (zi zm14) (zi zm481) cal_X2_secondsOf rfl rfl hl.1 rfl (Nat.le_of_ble_eq_true rfl) (zR_ok (by omega) (by decide)) ⟨(Nat.le_of_ble_eq_true rfl), (Nat.le_of_ble_eq_true rfl)⟩ dX11_quick_134 (fun H locs hW hS => ?_)
            refine W.eq (g2 := F0 m 137 ls [.int r13]) rfl ?_
            obtain rfl := Option.some.inj h
            exact z_ri hx hb hr hlk hW hS (Nat.le_of_ble_eq_true rfl) (Nat.le_of_ble_eq_true rfl) dX11_quick_137
          · refine lv_iload hx hb dX11_quick_122 (lv_at hl 4 rfl) ?_
            refine lv_goto (tgt := 137) hx hb dX11_quick_124 (by decide) ?_
            obtain rfl := Option.some.inj h
            exact z_ri hx hb hr hlk hW hS (Nat.le_of_ble_eq_true rfl) (Nat.le_of_ble_eq_true rfl) dX11_quick_137
        · refine lv_bipush (v := (-5)) hx hb dX11_quick_115 (by decide) ?_
          obtain rfl := Option.some.inj h
          exact z_ri hx hb hr hlk hW hS (Nat.le_of_ble_eq_true rfl) (Nat.le_of_ble_eq_true rfl) dX11_quick_117
      · refine lv_iload hx hb dX11_quick_44 (lv_at hl 4 rfl) ?_
        refine lv_iconst (v := (-1)) hx hb dX11_quick_46 (by decide) ?_
        refine z_br (lv_icmp_eq (tgt := 73) hx hb dX11_quick_47 (by decide)) h (fun h => ?_) (fun h => ?_)
        · exact B73 x4 x5 _ _ _ h hW hS (lv_sub hl [0, 1, 2, 3, 4, 5] rfl)
        · refine lv_aload_n hx hb dX11_quick_50 rfl (lv_at hl 0 rfl) ?_
          refine z_gR hx hb hq hown hK hW fs_RX11_12 t7 hb8 dX11_quick_51 ?_
          refine lv_iload hx hb dX11_quick_54 (lv_at hl 5 rfl) ?_
          refine lv_iload_n hx hb dX11_quick_56 rfl (lv_at hl 1 rfl) ?_
          obtain ⟨r20, c19, h⟩ := zd_at h
          refine z_cV hx hb hq hml hown hK hW hS 2 [.int x5, .int a1] [] rfl (List.mem_singleton.mp t9) (c_X2_secondsOf l G st b8 x5 a1 c19) (zi zm478) (zi zm479) (zi zm480) (zi zm14) (zi zm481) cal_X2_secondsOf rfl rfl hl.1 rfl (Nat.le_of_ble_eq_true rfl) (zR_ok (by omega) (by decide)) ⟨(Nat.le_of_ble_eq_true rfl), (Nat.le_of_ble_eq_true rfl)⟩ dX11_quick_57 (fun H locs hW hS => ?_)
          refine W.eq (g2 := F0 m 60 ls [.int r20]) rfl ?_
          refine lv_aload_n hx hb dX11_quick_60 rfl (lv_at hl 0 rfl) ?_
          refine z_gR hx hb hq hown hK hW fs_RX11_12 t7 hb8 dX11_quick_61 ?_
          refine lv_iload hx hb dX11_quick_64 (lv_at hl 4 rfl) ?_
          refine lv_iload_n hx hb dX11_quick_66 rfl (lv_at hl 1 rfl) ?_
          obtain ⟨r22, c21, h⟩ := zd_at h
          refine z_cV hx hb hq hml hown hK hW hS 2 [.int x4, .int a1] [.int r20] rfl (List.mem_singleton.mp t9) (c_X2_secondsOf l G st b8 x4 a1 c21) (zi zm478) (zi zm479) (zi zm480) (zi zm14) (zi zm481) cal_X2_secondsOf rfl rfl hl.1 rfl (Nat.le_of_ble_eq_true rfl) (zR_ok (by omega) (by decide)) ⟨(Nat.le_of_ble_eq_true rfl), (Nat.le_of_ble_eq_true rfl)⟩ dX11_quick_67 (fun H locs hW hS => ?_)
          refine W.eq (g2 := F0 m 70 ls [.int r22, .int r20]) rfl ?_
          refine z_br (lv_icmp_ge (tgt := 77) hx hb dX11_quick_70 (by decide)) h (fun h => ?_) (fun h => ?_)
          · refine lv_iconst (v := (nI 0)) hx hb dX11_quick_77 (by decide) ?_
            exact B78 x4 x5 (nI 0) _ _ _ h hW hS (lv_sub hl [0, 1, 2, 3, 4, 5] rfl)
          · exact B73 x4 x5 _ _ _ h hW hS (lv_sub hl [0, 1, 2, 3, 4, 5] rfl)
  refine lv_iload_n hx hb dX11_quick_0 rfl (lv_at hl 3 rfl) ?_
  obtain ⟨r2, c1, h⟩ := zd_at h
  refine z_cS hx hb hq hml hown hK hW hS [.int a3] [] (c_X11_isPart l G st a3 c1) (zi zm589) (zi zm590) (zi zm2) (zi zm591) cal_X11_isPart rfl hl.1 rfl (Nat.le_of_ble_eq_true rfl) (zR_ok (by omega) (by decide)) ⟨(Nat.le_of_ble_eq_true rfl), (Nat.le_of_ble_eq_true rfl)⟩ dX11_quick_1 (fun H locs hW hS => ?_)
  refine W.eq (g2 := F0 m 4 ls [.int r2]) rfl ?_
  refine z_brn (lv_if_ne (tgt := 9) hx hb dX11_quick_4 (by decide)) h (fun h => ?_) (fun h => ?_)
  · refine lv_iload_n hx hb dX11_quick_9 rfl (lv_at hl 1 rfl) ?_
    obtain ⟨r4, c3, h⟩ := zd_at h
    refine z_cS hx hb hq hml hown hK hW hS [.int a1] [] (c_X11_isLength l G st a1 c3) (zi zm475) (zi zm476) (zi zm2) (zi zm477) cal_X11_isLength rfl hl.1 rfl (Nat.le_of_ble_eq_true rfl) (zR_ok (by omega) (by decide)) ⟨(Nat.le_of_ble_eq_true rfl), (Nat.le_of_ble_eq_true rfl)⟩ dX11_quick_10 (fun H locs hW hS => ?_)
    refine W.eq (g2 := F0 m 13 ls [.int r4]) rfl ?_
    refine z_br (lv_if_eq (tgt := 23) hx hb dX11_quick_13 (by decide)) h (fun h => ?_) (fun h => ?_)
    · refine lv_bipush (v := (-2)) hx hb dX11_quick_23 (by decide) ?_
      obtain rfl := Option.some.inj h
      exact z_ri hx hb hr hlk hW hS (Nat.le_of_ble_eq_true rfl) (Nat.le_of_ble_eq_true rfl) dX11_quick_25
    · refine lv_iload_n hx hb dX11_quick_16 rfl (lv_at hl 2 rfl) ?_
      obtain ⟨r6, c5, h⟩ := zd_at h
      refine z_cS hx hb hq hml hown hK hW hS [.int a2] [] (c_X11_isPence l G st a2 c5) (zi zm784) (zi zm785) (zi zm2) (zi zm786) cal_X11_isPence rfl hl.1 rfl (Nat.le_of_ble_eq_true rfl) (zR_ok (by omega) (by decide)) ⟨(Nat.le_of_ble_eq_true rfl), (Nat.le_of_ble_eq_true rfl)⟩ dX11_quick_17 (fun H locs hW hS => ?_)
      refine W.eq (g2 := F0 m 20 ls [.int r6]) rfl ?_
      refine z_brn (lv_if_ne (tgt := 26) hx hb dX11_quick_20 (by decide)) h (fun h => ?_) (fun h => ?_)
      · refine lv_iconst (v := (-1)) hx hb dX11_quick_26 (by decide) ?_
        refine lv_istore (lv' := [(4, .int ((-1))), (0, .ref (G.2.2.2 + o)), (1, .int a1), (2, .int a2), (3, .int a3)]) hx hb dX11_quick_27 hl (by decide) rfl (fun ls hl => ?_)
        refine lv_iconst (v := (nI 0)) hx hb dX11_quick_29 (by decide) ?_
        refine lv_istore (lv' := [(5, .int ((nI 0))), (4, .int ((-1))), (0, .ref (G.2.2.2 + o)), (1, .int a1), (2, .int a2), (3, .int a3)]) hx hb dX11_quick_30 hl (by decide) rfl (fun ls hl => ?_)
        exact B32 N (-1 : Int32) (nI 0) _ _ _ h hW hS (lv_sub hl [2, 3, 4, 5, 1, 0] rfl)
      · refine lv_bipush (v := (-2)) hx hb dX11_quick_23 (by decide) ?_
        obtain rfl := Option.some.inj h
        exact z_ri hx hb hr hlk hW hS (Nat.le_of_ble_eq_true rfl) (Nat.le_of_ble_eq_true rfl) dX11_quick_25
  · refine lv_iconst (v := (-1)) hx hb dX11_quick_7 (by decide) ?_
    obtain rfl := Option.some.inj h
    exact z_ri hx hb hr hlk hW hS (Nat.le_of_ble_eq_true rfl) (Nat.le_of_ble_eq_true rfl) dX11_quick_8
def f_X11_bestChangeAt_152 (N : Nat) (st : zS) (o : Nat) (a1 : Int32) (a2 : Int32) (a3 : Int32) (k42 : Int32 → Int32 → Int32 → Int32 → Option Int32) (k76 : Int32 → Int32 → Int32 → Int32 → Int32 → Int32 → Int32 → Option Int32) (x4 : Int32) (x5 : Int32) (x6 : Int32) (x7 : Int32) (x8 : Int32) (x9 : Int32) (x10 : Int32) : Option Int32 := (k76 x4 x5 x6 x7 x8 x9 (x10 + (nI 1)))
def f_X11_bestChangeAt_76 (N : Nat) (st : zS) (o : Nat) (a1 : Int32) (a2 : Int32) (a3 : Int32) (k42 : Int32 → Int32 → Int32 → Int32 → Option Int32) : Nat → Int32 → Int32 → Int32 → Int32 → Int32 → Int32 → Int32 → Option Int32
  | 0, _, _, _, _, _, _, _ => none
  | n76 + 1, x4, x5, x6, x7, x8, x9, x10 => (if x5 ≤ x10 then (k42 x4 x5 x6 (x7 + (nI 1))) else (if zTg st o ∈ [21] then (Option.bind (zR st o 0) (fun b19 => (if zTg st b19 ∈ [12] then (Option.bind (f_X2_penceOf st b19 x10 (a2 - a1)) (fun r22 => (if a3 < (x8 + r22) then (f_X11_bestChangeAt_152 N st o a1 a2 a3 k42 (f_X11_bestChangeAt_76 N st o a1 a2 a3 k42 n76) x4 x5 x6 x7 x8 x9 x10) else (Option.bind (f_X2_secondsOf st b19 x10 (a2 - a1)) (fun r24 => (zl (x9 + r24) (fun v25 => (zl ((x7 * (nI 6)) + x10) (fun v26 => (zl (if (((((v25 * (nI 41)) + a1) * (nI 6)) * (nI 6)) + v26) < x6 then (((((v25 * (nI 41)) + a1) * (nI 6)) * (nI 6)) + v26) else x6) (fun v27 => (f_X11_bestChangeAt_152 N st o a1 a2 a3 k42 (f_X11_bestChangeAt_76 N st o a1 a2 a3 k42 n76) x4 x5 v27 x7 x8 x9 x10)))))))))))) else none))) else none))
def f_X11_bestChangeAt_42 (N : Nat) (st : zS) (o : Nat) (a1 : Int32) (a2 : Int32) (a3 : Int32)  : Nat → Int32 → Int32 → Int32 → Int32 → Option Int32
  | 0, _, _, _, _ => none
  | n42 + 1, x4, x5, x6, x7 => (if x4 ≤ x7 then (some x6) else (if zTg st o ∈ [21] then (Option.bind (zR st o 0) (fun b12 => (if zTg st b12 ∈ [12] then (Option.bind (f_X2_penceOf st b12 x7 a1) (fun r15 => (Option.bind (f_X2_secondsOf st b12 x7 a1) (fun r17 => (f_X11_bestChangeAt_76 N st o a1 a2 a3 (f_X11_bestChangeAt_42 N st o a1 a2 a3 n42) N x4 x5 x6 x7 r15 r17 (nI 0)))))) else none))) else none))
def f_X11_bestChangeAt_33 (N : Nat) (st : zS) (o : Nat) (a1 : Int32) (a2 : Int32) (a3 : Int32)  (x4 : Int32) (y0 : Int32) : Option Int32 := (f_X11_bestChangeAt_42 N st o a1 a2 a3 N x4 y0 (nI 2147483647) (nI 0))
def f_X11_bestChangeAt_15 (N : Nat) (st : zS) (o : Nat) (a1 : Int32) (a2 : Int32) (a3 : Int32)  (y0 : Int32) : Option Int32 := (if a1 = a2 then (f_X11_bestChangeAt_33 N st o a1 a2 a3 y0 (nI 1)) else (if zTg st o ∈ [21] then (Option.bind (zR st o 0) (fun b7 => (if zTg st b7 ∈ [12] then (Option.bind (f_X2_wayCount st b7) (fun r10 => (f_X11_bestChangeAt_33 N st o a1 a2 a3 y0 r10))) else none))) else none))
def f_X11_bestChangeAt (N : Nat) (st : zS) (o : Nat) (a1 : Int32) (a2 : Int32) (a3 : Int32) : Option Int32 := (if a1 = 0 then (f_X11_bestChangeAt_15 N st o a1 a2 a3 (nI 1)) else (if zTg st o ∈ [21] then (Option.bind (zR st o 0) (fun b2 => (if zTg st b2 ∈ [12] then (Option.bind (f_X2_wayCount st b2) (fun r5 => (f_X11_bestChangeAt_15 N st o a1 a2 a3 r5))) else none))) else none))
set_option maxHeartbeats 1000000 in
set_option maxRecDepth 100000 in
theorem c_X11_bestChangeAt (l : Launch) (G : zG) (N : Nat) (st : zS) (o : Nat) (a1 : Int32) (a2 : Int32) (a3 : Int32) {r : Int32} (h : f_X11_bestChangeAt N st o a1 a2 a3 = some r) : zMet l G yX11_bestChangeAt cX11_bestChangeAt 13 (some .int) 3 0 0 [.ref (G.2.2.2 + o), .int a1, .int a2, .int a3] st (some (.int r)) st := by
  refine zMet_of (by decide +kernel) ?_
  intro p e s m args below meth c X
  obtain ⟨hx, hb, hr, hml, hown, hq, hlk, hK, -, hin, hW, hS⟩ := X
  have hown : s.vm.findClass RX11 = some m.cls := hown
  refine z_ent (by exact Nat.le_of_ble_eq_true rfl) (fun ls hl => ?_)
  have hl : lv_has ls 13 [(0, .ref (G.2.2.2 + o)), (1, .int a1), (2, .int a2), (3, .int a3)] := hl
  unfold f_X11_bestChangeAt at h
  have B42 : ∀ (n42 : Nat) (x4 : Int32) (x5 : Int32) (x6 : Int32) (x7 : Int32) (H : Heap) (locs : List Loc) (ls : Array Slot), f_X11_bestChangeAt_42 N st o a1 a2 a3 n42 x4 x5 x6 x7 = some r → zWd G st H → va_S (zA G) s.heap H locs → lv_has ls 13 [(0, .ref (G.2.2.2 + o)), (1, .int a1), (2, .int a2), (3, .int a3), (4, .int x4), (5, .int x5), (6, .int x6), (7, .int x7)] → W p l e (zRm 3 0 0) s m args below meth c H locs 0 0 (MQ below (zQ G (some (.int r)) st) args s 0 0 (zA G)) (F0 m 42 ls []) := by
    intro n42
    induction n42 with
    | zero =>
      intro x4 x5 x6 x7 H locs ls h
      unfold f_X11_bestChangeAt_42 at h
      cases h
    | succ n42 ih42 =>
      have B76 : ∀ (n76 : Nat) (x4 : Int32) (x5 : Int32) (x6 : Int32) (x7 : Int32) (x8 : Int32) (x9 : Int32) (x10 : Int32) (H : Heap) (locs : List Loc) (ls : Array Slot), f_X11_bestChangeAt_76 N st o a1 a2 a3 (f_X11_bestChangeAt_42 N st o a1 a2 a3 n42) n76 x4 x5 x6 x7 x8 x9 x10 = some r → zWd G st H → va_S (zA G) s.heap H locs → lv_has ls 13 [(0, .ref (G.2.2.2 + o)), (1, .int a1), (2, .int a2), (3, .int a3), (4, .int x4), (5, .int x5), (6, .int x6), (7, .int x7), (8, .int x8), (9, .int x9), (10, .int x10)] → W p l e (zRm 3 0 0) s m args below meth c H locs 0 0 (MQ below (zQ G (some (.int r)) st) args s 0 0 (zA G)) (F0 m 76 ls []) := by
        intro n76
        induction n76 with
        | zero =>
          intro x4 x5 x6 x7 x8 x9 x10 H locs ls h
          unfold f_X11_bestChangeAt_76 at h
          cases h
        | succ n76 ih76 =>
          have B152 : ∀ (x4 : Int32) (x5 : Int32) (x6 : Int32) (x7 : Int32) (x8 : Int32) (x9 : Int32) (x10 : Int32) (H : Heap) (locs : List Loc) (ls : Array Slot), f_X11_bestChangeAt_152 N st o a1 a2 a3 (f_X11_bestChangeAt_42 N st o a1 a2 a3 n42) (f_X11_bestChangeAt_76 N st o a1 a2 a3 (f_X11_bestChangeAt_42 N st o a1 a2 a3 n42) n76) x4 x5 x6 x7 x8 x9 x10 = some r → zWd G st H → va_S (zA G) s.heap H locs → lv_has ls 13 [(0, .ref (G.2.2.2 + o)), (1, .int a1), (2, .int a2), (3, .int a3), (4, .int x4), (5, .int x5), (6, .int x6), (7, .int x7), (8, .int x8), (9, .int x9), (10, .int x10)] → W p l e (zRm 3 0 0) s m args below meth c H locs 0 0 (MQ below (zQ G (some (.int r)) st) args s 0 0 (zA G)) (F0 m 152 ls []) := by
            intro x4 x5 x6 x7 x8 x9 x10 H locs ls h hW hS hl
            unfold f_X11_bestChangeAt_152 at h
            refine lv_iinc (v := (x10 + (nI 1))) (lv' := [(10, .int ((x10 + (nI 1)))), (0, .ref (G.2.2.2 + o)), (1, .int a1), (2, .int a2), (3, .int a3), (4, .int x4), (5, .int x5), (6, .int x6), (7, .int x7), (8, .int x8), (9, .int x9)]) hx hb dX11_bestChangeAt_152 hl (k := 10) rfl rfl (by decide) rfl (fun ls hl => ?_)
            refine lv_goto (tgt := 76) hx hb dX11_bestChangeAt_155 (by decide) ?_
            exact ih76 x4 x5 x6 x7 x8 x9 (x10 + (nI 1)) _ _ _ h hW hS (lv_sub hl [1, 2, 3, 4, 5, 6, 7, 8, 9, 10, 0] rfl)
          intro x4 x5 x6 x7 x8 x9 x10 H locs ls h hW hS hl
          unfold f_X11_bestChangeAt_76 at h
          refine lv_iload hx hb dX11_bestChangeAt_76 (lv_at hl 10 rfl) ?_
          refine lv_iload hx hb dX11_bestChangeAt_78 (lv_at hl 5 rfl) ?_
          refine z_br (lv_icmp_ge (tgt := 158) hx hb dX11_bestChangeAt_80 (by decide)) h (fun h => ?_) (fun h => ?_)
          · refine lv_iinc (v := (x7 + (nI 1))) (lv' := [(7, .int ((x7 + (nI 1)))), (0, .ref (G.2.2.2 + o)), (1, .int a1), (2, .int a2), (3, .int a3), (4, .int x4), (5, .int x5), (6, .int x6), (8, .int x8), (9, .int x9), (10, .int x10)]) hx hb dX11_bestChangeAt_158 hl (k := 7) rfl rfl (by decide) rfl (fun ls hl => ?_)
            refine lv_goto (tgt := 42) hx hb dX11_bestChangeAt_161 (by decide) ?_
            exact ih42 x4 x5 x6 (x7 + (nI 1)) _ _ _ h hW hS (lv_sub hl [1, 2, 3, 4, 5, 6, 7, 0] rfl)
          · refine lv_iload hx hb dX11_bestChangeAt_83 (lv_at hl 8 rfl) ?_
            refine lv_aload_n hx hb dX11_bestChangeAt_85 rfl (lv_at hl 0 rfl) ?_
            obtain ⟨t18, h⟩ := zc_at h
            obtain ⟨b19, hb19, h⟩ := zd_at h
            refine z_gR hx hb hq hown hK hW fs_RX11_12 t18 hb19 dX11_bestChangeAt_86 ?_
            refine lv_iload hx hb dX11_bestChangeAt_89 (lv_at hl 10 rfl) ?_
            refine lv_iload_n hx hb dX11_bestChangeAt_91 rfl (lv_at hl 2 rfl) ?_
            refine lv_iload_n hx hb dX11_bestChangeAt_92 rfl (lv_at hl 1 rfl) ?_
            refine lv_isub hx hb dX11_bestChangeAt_93 ?_
            obtain ⟨t20, h⟩ := zc_at h
            obtain ⟨r22, c21, h⟩ := zd_at h
            refine z_cV hx hb hq hml hown hK hW hS 2 [.int x10, .int ((a2 - a1))] [.int x8] rfl (List.mem_singleton.mp t20) (c_X2_penceOf l G st b19 x10 (a2 - a1) c21) (zi zm527) (zi zm528) (zi zm529) (zi zm14) (zi zm530) cal_X2_penceOf rfl rfl hl.1 rfl (Nat.le_of_ble_eq_true rfl) (zR_ok (by omega) (by decide)) ⟨(Nat.le_of_ble_eq_true rfl), (Nat.le_of_ble_eq_true rfl)⟩ dX11_bestChangeAt_94 (fun H locs hW hS => ?_)
            refine W.eq (g2 := F0 m 97 ls [.int r22, .int x8]) rfl ?_
            refine lv_iadd hx hb dX11_bestChangeAt_97 ?_
            refine lv_iload_n hx hb dX11_bestChangeAt_98 rfl (lv_at hl 3 rfl) ?_
            refine z_br (lv_icmp_gt (tgt := 152) hx hb dX11_bestChangeAt_99 (by decide)) h (fun h => ?_) (fun h => ?_)
            · exact B152 x4 x5 x6 x7 x8 x9 x10 _ _ _ h hW hS (lv_sub hl [0, 1, 2, 3, 4, 5, 6, 7, 8, 9, 10] rfl)
            · refine lv_iload hx hb dX11_bestChangeAt_102 (lv_at hl 9 rfl) ?_
              refine lv_aload_n hx hb dX11_bestChangeAt_104 rfl (lv_at hl 0 rfl) ?_
              refine z_gR hx hb hq hown hK hW fs_RX11_12 t18 hb19 dX11_bestChangeAt_105 ?_
              refine lv_iload hx hb dX11_bestChangeAt_108 (lv_at hl 10 rfl) ?_
              refine lv_iload_n hx hb dX11_bestChangeAt_110 rfl (lv_at hl 2 rfl) ?_
              refine lv_iload_n hx hb dX11_bestChangeAt_111 rfl (lv_at hl 1 rfl) ?_
              refine lv_isub hx hb dX11_bestChangeAt_112 ?_
              obtain ⟨r24, c23, h⟩ := zd_at h
              refine z_cV hx hb hq hml hown hK hW hS 2 [.int x10, .int ((a2 - a1))] [.int x9] rfl (List.mem_singleton.mp t20) (c_X2_secondsOf l G st b19 x10 (a2 - a1) c23) (zi zm478) (zi zm479) (zi zm480) (zi zm14) (zi zm481) cal_X2_secondsOf rfl rfl hl.1 rfl (Nat.le_of_ble_eq_true rfl) (zR_ok (by omega) (by decide)) ⟨(Nat.le_of_ble_eq_true rfl), (Nat.le_of_ble_eq_true rfl)⟩ dX11_bestChangeAt_113 (fun H locs hW hS => ?_)
              refine W.eq (g2 := F0 m 116 ls [.int r24, .int x9]) rfl ?_
              refine lv_iadd hx hb dX11_bestChangeAt_116 ?_
              refine lv_topi (fun v25 ev25 => ?_)
              have h := zl_at ev25 h
              refine lv_istore (lv' := [(11, .int v25), (0, .ref (G.2.2.2 + o)), (1, .int a1), (2, .int a2), (3, .int a3), (4, .int x4), (5, .int x5), (6, .int x6), (7, .int x7), (8, .int x8), (9, .int x9), (10, .int x10)]) hx hb dX11_bestChangeAt_117 hl (by decide) rfl (fun ls hl => ?_)
              refine lv_iload hx hb dX11_bestChangeAt_119 (lv_at hl 8 rfl) ?_
              refine lv_bipush (v := (nI 6)) hx hb dX11_bestChangeAt_121 (by decide) ?_
              refine lv_imul hx hb dX11_bestChangeAt_123 ?_
              refine lv_iload hx hb dX11_bestChangeAt_124 (lv_at hl 11 rfl) ?_
              refine lv_iadd hx hb dX11_bestChangeAt_126 ?_
              refine lv_topi (fun v26 ev26 => ?_)
              have h := zl_at ev26 h
              refine lv_istore (lv' := [(12, .int v26), (11, .int v25), (0, .ref (G.2.2.2 + o)), (1, .int a1), (2, .int a2), (3, .int a3), (4, .int x4), (5, .int x5), (6, .int x6), (7, .int x7), (8, .int x8), (9, .int x9), (10, .int x10)]) hx hb dX11_bestChangeAt_127 hl (by decide) rfl (fun ls hl => ?_)
              refine lv_iload hx hb dX11_bestChangeAt_129 (lv_at hl 8 rfl) ?_
              refine lv_iload hx hb dX11_bestChangeAt_131 (lv_at hl 1 rfl) ?_
              refine lv_bipush (v := (nI 41)) hx hb dX11_bestChangeAt_133 (by decide) ?_
              refine lv_imul hx hb dX11_bestChangeAt_135 ?_
              refine lv_iload_n hx hb dX11_bestChangeAt_136 rfl (lv_at hl 3 rfl) ?_
              refine lv_iadd hx hb dX11_bestChangeAt_137 ?_
              refine lv_bipush (v := (nI 6)) hx hb dX11_bestChangeAt_138 (by decide) ?_
              refine lv_imul hx hb dX11_bestChangeAt_140 ?_
              refine lv_bipush (v := (nI 6)) hx hb dX11_bestChangeAt_141 (by decide) ?_
              refine lv_imul hx hb dX11_bestChangeAt_143 ?_
              refine lv_iload hx hb dX11_bestChangeAt_144 (lv_at hl 0 rfl) ?_
              refine lv_iadd hx hb dX11_bestChangeAt_146 ?_
              refine va_mmin hx hb (hml.trans hl.1.symm) hown (hq _ (zi zm775)) (hq _ (zi zm117)) (hq _ (zi zm53)) (hq _ (zi zm118)) (Nat.le_of_ble_eq_true rfl) (by show _ ≤ 60 * _; exact (Nat.le_of_ble_eq_true rfl)) (Nat.le_of_ble_eq_true rfl) (Nat.le_of_ble_eq_true rfl) dX11_bestChangeAt_147 ?_
              refine lv_topi (fun v27 ev27 => ?_)
              have h := zl_at ev27 h
              refine lv_istore (lv' := [(6, .int v27), (12, .int v26), (11, .int v25), (0, .ref (G.2.2.2 + o)), (1, .int a1), (2, .int a2), (3, .int a3), (4, .int x4), (5, .int x5), (7, .int x7), (8, .int x8), (9, .int x9), (10, .int x10)]) hx hb dX11_bestChangeAt_150 hl (by decide) rfl (fun ls hl => ?_)
              exact B152 x4 x5 v27 x7 x8 x9 x10 _ _ _ h hW hS (lv_sub hl [3, 4, 5, 6, 7, 8, 0, 9, 10, 11, 12] rfl)
      intro x4 x5 x6 x7 H locs ls h hW hS hl
      unfold f_X11_bestChangeAt_42 at h
      refine lv_iload hx hb dX11_bestChangeAt_42 (lv_at hl 7 rfl) ?_
      refine lv_iload hx hb dX11_bestChangeAt_44 (lv_at hl 4 rfl) ?_
      refine z_br (lv_icmp_ge (tgt := 164) hx hb dX11_bestChangeAt_46 (by decide)) h (fun h => ?_) (fun h => ?_)
      · refine lv_iload hx hb dX11_bestChangeAt_164 (lv_at hl 6 rfl) ?_
        obtain rfl := Option.some.inj h
        exact z_ri hx hb hr hlk hW hS (Nat.le_of_ble_eq_true rfl) (Nat.le_of_ble_eq_true rfl) dX11_bestChangeAt_166
      · refine lv_aload_n hx hb dX11_bestChangeAt_49 rfl (lv_at hl 0 rfl) ?_
        obtain ⟨t11, h⟩ := zc_at h
        obtain ⟨b12, hb12, h⟩ := zd_at h
        refine z_gR hx hb hq hown hK hW fs_RX11_12 t11 hb12 dX11_bestChangeAt_50 ?_
        refine lv_iload hx hb dX11_bestChangeAt_53 (lv_at hl 7 rfl) ?_
        refine lv_iload_n hx hb dX11_bestChangeAt_55 rfl (lv_at hl 1 rfl) ?_
        obtain ⟨t13, h⟩ := zc_at h
        obtain ⟨r15, c14, h⟩ := zd_at h
        refine z_cV hx hb hq hml hown hK hW hS 2 [.int x7, .int a1] [] rfl (List.mem_singleton.mp t13) (c_X2_penceOf l G st b12 x7 a1 c14) (zi zm527) (zi zm528) (zi zm529) (zi zm14) (zi zm530) cal_X2_penceOf rfl rfl hl.1 rfl (Nat.le_of_ble_eq_true rfl) (zR_ok (by omega) (by decide)) ⟨(Nat.le_of_ble_eq_true rfl), (Nat.le_of_ble_eq_true rfl)⟩ dX11_bestChangeAt_56 (fun H locs hW hS => ?_)
        refine W.eq (g2 := F0 m 59 ls [.int r15]) rfl ?_
        refine lv_istore (lv' := [(8, .int r15), (0, .ref (G.2.2.2 + o)), (1, .int a1), (2, .int a2), (3, .int a3), (4, .int x4), (5, .int x5), (6, .int x6), (7, .int x7)]) hx hb dX11_bestChangeAt_59 hl (by decide) rfl (fun ls hl => ?_)
        refine lv_aload_n hx hb dX11_bestChangeAt_61 rfl (lv_at hl 1 rfl) ?_
        refine z_gR hx hb hq hown hK hW fs_RX11_12 t11 hb12 dX11_bestChangeAt_62 ?_
        refine lv_iload hx hb dX11_bestChangeAt_65 (lv_at hl 8 rfl) ?_
        refine lv_iload_n hx hb dX11_bestChangeAt_67 rfl (lv_at hl 2 rfl) ?_
        obtain ⟨r17, c16, h⟩ := zd_at h
        refine z_cV hx hb hq hml hown hK hW hS 2 [.int x7, .int a1] [] rfl (List.mem_singleton.mp t13) (c_X2_secondsOf l G st b12 x7 a1 c16) (zi zm478) (zi zm479) (zi zm480) (zi zm14) (zi zm481) cal_X2_secondsOf rfl rfl hl.1 rfl (Nat.le_of_ble_eq_true rfl) (zR_ok (by omega) (by decide)) ⟨(Nat.le_of_ble_eq_true rfl), (Nat.le_of_ble_eq_true rfl)⟩ dX11_bestChangeAt_68 (fun H locs hW hS => ?_)
        refine W.eq (g2 := F0 m 71 ls [.int r17]) rfl ?_
        refine lv_istore (lv' := [(9, .int r17), (8, .int r15), (0, .ref (G.2.2.2 + o)), (1, .int a1), (2, .int a2), (3, .int a3), (4, .int x4), (5, .int x5), (6, .int x6), (7, .int x7)]) hx hb dX11_bestChangeAt_71 hl (by decide) rfl (fun ls hl => ?_)
        refine lv_iconst (v := (nI 0)) hx hb dX11_bestChangeAt_73 (by decide) ?_
        refine lv_istore (lv' := [(10, .int ((nI 0))), (9, .int r17), (8, .int r15), (0, .ref (G.2.2.2 + o)), (1, .int a1), (2, .int a2), (3, .int a3), (4, .int x4), (5, .int x5), (6, .int x6), (7, .int x7)]) hx hb dX11_bestChangeAt_74 hl (by decide) rfl (fun ls hl => ?_)
        exact B76 N x4 x5 x6 x7 r15 r17 (nI 0) _ _ _ h hW hS (lv_sub hl [3, 4, 5, 6, 7, 8, 9, 10, 2, 1, 0] rfl)
  have B33 : ∀ (x4 : Int32) (y0 : Int32) (H : Heap) (locs : List Loc) (ls : Array Slot), f_X11_bestChangeAt_33 N st o a1 a2 a3 x4 y0 = some r → zWd G st H → va_S (zA G) s.heap H locs → lv_has ls 13 [(0, .ref (G.2.2.2 + o)), (1, .int a1), (2, .int a2), (3, .int a3), (4, .int x4)] → W p l e (zRm 3 0 0) s m args below meth c H locs 0 0 (MQ below (zQ G (some (.int r)) st) args s 0 0 (zA G)) (F0 m 33 ls [.int y0]) := by
    intro x4 y0 H locs ls h hW hS hl
    unfold f_X11_bestChangeAt_33 at h
    refine lv_istore (lv' := [(5, .int y0), (0, .ref (G.2.2.2 + o)), (1, .int a1), (2, .int a2), (3, .int a3), (4, .int x4)]) hx hb dX11_bestChangeAt_33 hl (by decide) rfl (fun ls hl => ?_)
    refine lv_ldc (v := (nI 2147483647)) hx hb hown (hq _ (zi zm795)) dX11_bestChangeAt_35 ?_
    refine lv_istore (lv' := [(6, .int ((nI 2147483647))), (5, .int y0), (0, .ref (G.2.2.2 + o)), (1, .int a1), (2, .int a2), (3, .int a3), (4, .int x4)]) hx hb dX11_bestChangeAt_37 hl (by decide) rfl (fun ls hl => ?_)
    refine lv_iconst (v := (nI 0)) hx hb dX11_bestChangeAt_39 (by decide) ?_
    refine lv_istore (lv' := [(7, .int ((nI 0))), (6, .int ((nI 2147483647))), (5, .int y0), (0, .ref (G.2.2.2 + o)), (1, .int a1), (2, .int a2), (3, .int a3), (4, .int x4)]) hx hb dX11_bestChangeAt_40 hl (by decide) rfl (fun ls hl => ?_)
    exact B42 N x4 y0 (nI 2147483647) (nI 0) _ _ _ h hW hS (lv_sub hl [3, 4, 5, 6, 7, 2, 1, 0] rfl)
  have B15 : ∀ (y0 : Int32) (H : Heap) (locs : List Loc) (ls : Array Slot), f_X11_bestChangeAt_15 N st o a1 a2 a3 y0 = some r → zWd G st H → va_S (zA G) s.heap H locs → lv_has ls 13 [(0, .ref (G.2.2.2 + o)), (1, .int a1), (2, .int a2), (3, .int a3)] → W p l e (zRm 3 0 0) s m args below meth c H locs 0 0 (MQ below (zQ G (some (.int r)) st) args s 0 0 (zA G)) (F0 m 15 ls [.int y0]) := by
    intro y0 H locs ls h hW hS hl
    unfold f_X11_bestChangeAt_15 at h
    refine lv_istore (lv' := [(4, .int y0), (0, .ref (G.2.2.2 + o)), (1, .int a1), (2, .int a2), (3, .int a3)]) hx hb dX11_bestChangeAt_15 hl (by decide) rfl (fun ls hl => ?_)
    refine lv_iload_n hx hb dX11_bestChangeAt_17 rfl (lv_at hl 2 rfl) ?_
    refine lv_iload_n hx hb dX11_bestChangeAt_18 rfl (lv_at hl 3 rfl) ?_
    refine z_brn (lv_icmp_ne (tgt := 26) hx hb dX11_bestChangeAt_19 (by decide)) h (fun h => ?_) (fun h => ?_)
    · refine lv_aload_n hx hb dX11_bestChangeAt_26 rfl (lv_at hl 1 rfl) ?_
      obtain ⟨t6, h⟩ := zc_at h
      obtain ⟨b7, hb7, h⟩ := zd_at h
      refine z_gR hx hb hq hown hK hW fs_RX11_12 t6 hb7 dX11_bestChangeAt_27 ?_
      obtain ⟨t8, h⟩ := zc_at h
      obtain ⟨r10, c9, h⟩ := zd_at h
      refine z_cV hx hb hq hml hown hK hW hS 2 [] [] rfl (List.mem_singleton.mp t8) (c_X2_wayCount l G st b7 c9) (zi zm339) (zi zm340) (zi zm341) (zi zm14) (zi zm342) cal_X2_wayCount rfl rfl hl.1 rfl (Nat.le_of_ble_eq_true rfl) (zR_ok (by omega) (by decide)) ⟨(Nat.le_of_ble_eq_true rfl), (Nat.le_of_ble_eq_true rfl)⟩ dX11_bestChangeAt_30 (fun H locs hW hS => ?_)
      refine W.eq (g2 := F0 m 33 ls [.int r10]) rfl ?_
      exact B33 y0 r10 _ _ _ h hW hS (lv_sub hl [1, 2, 3, 4, 0] rfl)
    · refine lv_iconst (v := (nI 1)) hx hb dX11_bestChangeAt_22 (by decide) ?_
      refine lv_goto (tgt := 33) hx hb dX11_bestChangeAt_23 (by decide) ?_
      exact B33 y0 (nI 1) _ _ _ h hW hS (lv_sub hl [1, 2, 3, 4, 0] rfl)
  refine lv_iload_n hx hb dX11_bestChangeAt_0 rfl (lv_at hl 1 rfl) ?_
  refine z_brn (lv_if_ne (tgt := 8) hx hb dX11_bestChangeAt_1 (by decide)) h (fun h => ?_) (fun h => ?_)
  · refine lv_aload_n hx hb dX11_bestChangeAt_8 rfl (lv_at hl 0 rfl) ?_
    obtain ⟨t1, h⟩ := zc_at h
    obtain ⟨b2, hb2, h⟩ := zd_at h
    refine z_gR hx hb hq hown hK hW fs_RX11_12 t1 hb2 dX11_bestChangeAt_9 ?_
    obtain ⟨t3, h⟩ := zc_at h
    obtain ⟨r5, c4, h⟩ := zd_at h
    refine z_cV hx hb hq hml hown hK hW hS 2 [] [] rfl (List.mem_singleton.mp t3) (c_X2_wayCount l G st b2 c4) (zi zm339) (zi zm340) (zi zm341) (zi zm14) (zi zm342) cal_X2_wayCount rfl rfl hl.1 rfl (Nat.le_of_ble_eq_true rfl) (zR_ok (by omega) (by decide)) ⟨(Nat.le_of_ble_eq_true rfl), (Nat.le_of_ble_eq_true rfl)⟩ dX11_bestChangeAt_12 (fun H locs hW hS => ?_)
    refine W.eq (g2 := F0 m 15 ls [.int r5]) rfl ?_
    exact B15 r5 _ _ _ h hW hS (lv_sub hl [0, 1, 2, 3] rfl)
  · refine lv_iconst (v := (nI 1)) hx hb dX11_bestChangeAt_4 (by decide) ?_
    refine lv_goto (tgt := 15) hx hb dX11_bestChangeAt_5 (by decide) ?_
    exact B15 (nI 1) _ _ _ h hW hS (lv_sub hl [0, 1, 2, 3] rfl)
def f_X11_change_35 (N : Nat) (st : zS) (o : Nat) (a1 : Int32) (a2 : Int32) (a3 : Int32)  : Nat → Int32 → Int32 → Option Int32
  | 0, _, _ => none
  | n35 + 1, x4, x5 => (if a1 < x5 then (if x4 = (nI 2147483647) then (some (-5 : Int32)) else (if a3 = (nI 0) then (some ((x4 / (nI 36)) / (nI 41))) else (if a3 = (nI 1) then (some ((x4 / (nI 6)) - (x4 / (nI 6)) / (nI 6) * (nI 6))) else (if a3 = (nI 2) then (some ((x4 / (nI 36)) - (x4 / (nI 36)) / (nI 41) * (nI 41))) else (some (x4 - x4 / (nI 6) * (nI 6))))))) else (if zTg st o ∈ [21] then (Option.bind (f_X11_bestChangeAt N st o x5 a1 a2) (fun r10 => (zl (if r10 < x4 then r10 else x4) (fun v11 => ((f_X11_change_35 N st o a1 a2 a3 n35) v11 (x5 + (nI 1))))))) else none))
def f_X11_change (N : Nat) (st : zS) (o : Nat) (a1 : Int32) (a2 : Int32) (a3 : Int32) : Option Int32 := (if a3 < 0 then (some (-1 : Int32)) else (if a3 ≤ (nI 3) then (Option.bind (f_X11_isLength a1) (fun r2 => (if r2 = 0 then (some (-2 : Int32)) else (Option.bind (f_X11_isPence a2) (fun r4 => (if r4 = 0 then (some (-2 : Int32)) else (f_X11_change_35 N st o a1 a2 a3 N (nI 2147483647) (nI 0)))))))) else (some (-1 : Int32))))
set_option maxHeartbeats 1000000 in
set_option maxRecDepth 100000 in
theorem c_X11_change (l : Launch) (G : zG) (N : Nat) (st : zS) (o : Nat) (a1 : Int32) (a2 : Int32) (a3 : Int32) {r : Int32} (h : f_X11_change N st o a1 a2 a3 = some r) : zMet l G yX11_change cX11_change 6 (some .int) 4 0 0 [.ref (G.2.2.2 + o), .int a1, .int a2, .int a3] st (some (.int r)) st := by
  refine zMet_of (by decide +kernel) ?_
  intro p e s m args below meth c X
  obtain ⟨hx, hb, hr, hml, hown, hq, hlk, hK, -, hin, hW, hS⟩ := X
  have hown : s.vm.findClass RX11 = some m.cls := hown
  refine z_ent (by exact Nat.le_of_ble_eq_true rfl) (fun ls hl => ?_)
  have hl : lv_has ls 6 [(0, .ref (G.2.2.2 + o)), (1, .int a1), (2, .int a2), (3, .int a3)] := hl
  unfold f_X11_change at h
  have B35 : ∀ (n35 : Nat) (x4 : Int32) (x5 : Int32) (H : Heap) (locs : List Loc) (ls : Array Slot), f_X11_change_35 N st o a1 a2 a3 n35 x4 x5 = some r → zWd G st H → va_S (zA G) s.heap H locs → lv_has ls 6 [(0, .ref (G.2.2.2 + o)), (1, .int a1), (2, .int a2), (3, .int a3), (4, .int x4), (5, .int x5)] → W p l e (zRm 4 0 0) s m args below meth c H locs 0 0 (MQ below (zQ G (some (.int r)) st) args s 0 0 (zA G)) (F0 m 35 ls []) := by
    intro n35
    induction n35 with
    | zero =>
      intro x4 x5 H locs ls h
      unfold f_X11_change_35 at h
      cases h
    | succ n35 ih35 =>
      intro x4 x5 H locs ls h hW hS hl
      unfold f_X11_change_35 at h
      refine lv_iload hx hb dX11_change_35 (lv_at hl 5 rfl) ?_
      refine lv_iload_n hx hb dX11_change_37 rfl (lv_at hl 1 rfl) ?_
      refine z_br (lv_icmp_gt (tgt := 62) hx hb dX11_change_38 (by decide)) h (fun h => ?_) (fun h => ?_)
      · refine lv_iload hx hb dX11_change_62 (lv_at hl 4 rfl) ?_
        refine lv_ldc (v := (nI 2147483647)) hx hb hown (hq _ (zi zm795)) dX11_change_64 ?_
        refine z_brn (lv_icmp_ne (tgt := 72) hx hb dX11_change_66 (by decide)) h (fun h => ?_) (fun h => ?_)
        · refine lv_iload_n hx hb dX11_change_72 rfl (lv_at hl 3 rfl) ?_
          rcases zi_at h with ⟨k5, h⟩ | ⟨k5, h⟩
          · refine lv_tableIn (off := 27) (tgt := 100) hx hb dX11_change_73 (by rw [k5]; decide) (by rw [k5]; decide) (by rw [k5]; rfl) (by decide) ?_
            refine lv_iload hx hb dX11_change_100 (lv_at hl 4 rfl) ?_
            refine lv_bipush (v := (nI 36)) hx hb dX11_change_102 (by decide) ?_
            refine lv_idiv hx hb dX11_change_104 (by decide) ?_
            refine lv_bipush (v := (nI 41)) hx hb dX11_change_105 (by decide) ?_
            refine lv_idiv hx hb dX11_change_107 (by decide) ?_
            obtain rfl := Option.some.inj h
            exact z_ri hx hb hr hlk hW hS (Nat.le_of_ble_eq_true rfl) (Nat.le_of_ble_eq_true rfl) dX11_change_108
          · rcases zi_at h with ⟨k6, h⟩ | ⟨k6, h⟩
            · refine lv_tableIn (off := 36) (tgt := 109) hx hb dX11_change_73 (by rw [k6]; decide) (by rw [k6]; decide) (by rw [k6]; rfl) (by decide) ?_
              refine lv_iload hx hb dX11_change_109 (lv_at hl 4 rfl) ?_
              refine lv_bipush (v := (nI 6)) hx hb dX11_change_111 (by decide) ?_
              refine lv_idiv hx hb dX11_change_113 (by decide) ?_
              refine lv_bipush (v := (nI 6)) hx hb dX11_change_114 (by decide) ?_
              refine lv_irem hx hb dX11_change_116 (by decide) ?_
              obtain rfl := Option.some.inj h
              exact z_ri hx hb hr hlk hW hS (Nat.le_of_ble_eq_true rfl) (Nat.le_of_ble_eq_true rfl) dX11_change_117
            · rcases zi_at h with ⟨k7, h⟩ | ⟨k7, h⟩
              · refine lv_tableIn (off := 45) (tgt := 118) hx hb dX11_change_73 (by rw [k7]; decide) (by rw [k7]; decide) (by rw [k7]; rfl) (by decide) ?_
                refine lv_iload hx hb dX11_change_118 (lv_at hl 4 rfl) ?_
                refine lv_bipush (v := (nI 36)) hx hb dX11_change_120 (by decide) ?_
                refine lv_idiv hx hb dX11_change_122 (by decide) ?_
                refine lv_bipush (v := (nI 41)) hx hb dX11_change_123 (by decide) ?_
                refine lv_irem hx hb dX11_change_125 (by decide) ?_
                obtain rfl := Option.some.inj h
                exact z_ri hx hb hr hlk hW hS (Nat.le_of_ble_eq_true rfl) (Nat.le_of_ble_eq_true rfl) dX11_change_126
              · refine lv_tableOut (tgt := 127) hx hb dX11_change_73 (by have q0 := lv_neT (a := 0) k5 (by decide); have q1 := lv_neT (a := 1) k6 (by decide); have q2 := lv_neT (a := 2) k7 (by decide); omega) (by decide) ?_
                refine lv_iload hx hb dX11_change_127 (lv_at hl 4 rfl) ?_
                refine lv_bipush (v := (nI 6)) hx hb dX11_change_129 (by decide) ?_
                refine lv_irem hx hb dX11_change_131 (by decide) ?_
                obtain rfl := Option.some.inj h
                exact z_ri hx hb hr hlk hW hS (Nat.le_of_ble_eq_true rfl) (Nat.le_of_ble_eq_true rfl) dX11_change_132
        · refine lv_bipush (v := (-5)) hx hb dX11_change_69 (by decide) ?_
          obtain rfl := Option.some.inj h
          exact z_ri hx hb hr hlk hW hS (Nat.le_of_ble_eq_true rfl) (Nat.le_of_ble_eq_true rfl) dX11_change_71
      · refine lv_iload hx hb dX11_change_41 (lv_at hl 4 rfl) ?_
        refine lv_aload_n hx hb dX11_change_43 rfl (lv_at hl 0 rfl) ?_
        refine lv_iload hx hb dX11_change_44 (lv_at hl 5 rfl) ?_
        refine lv_iload_n hx hb dX11_change_46 rfl (lv_at hl 1 rfl) ?_
        refine lv_iload_n hx hb dX11_change_47 rfl (lv_at hl 2 rfl) ?_
        obtain ⟨t8, h⟩ := zc_at h
        obtain ⟨r10, c9, h⟩ := zd_at h
        refine z_cV hx hb hq hml hown hK hW hS 11 [.int x5, .int a1, .int a2] [.int x4] rfl (List.mem_singleton.mp t8) (c_X11_bestChangeAt l G N st o x5 a1 a2 c9) (zi zm796) (zi zm797) (zi zm798) (zi zm2) (zi zm799) cal_X11_bestChangeAt rfl rfl hl.1 rfl (Nat.le_of_ble_eq_true rfl) (zR_ok (by omega) (by decide)) ⟨(Nat.le_of_ble_eq_true rfl), (Nat.le_of_ble_eq_true rfl)⟩ dX11_change_48 (fun H locs hW hS => ?_)
        refine W.eq (g2 := F0 m 51 ls [.int r10, .int x4]) rfl ?_
        refine va_mmin hx hb (hml.trans hl.1.symm) hown (hq _ (zi zm775)) (hq _ (zi zm117)) (hq _ (zi zm53)) (hq _ (zi zm118)) (Nat.le_of_ble_eq_true rfl) (by show _ ≤ 60 * _; exact (Nat.le_of_ble_eq_true rfl)) (Nat.le_of_ble_eq_true rfl) (Nat.le_of_ble_eq_true rfl) dX11_change_51 ?_
        refine lv_topi (fun v11 ev11 => ?_)
        have h := zl_at ev11 h
        refine lv_istore (lv' := [(4, .int v11), (0, .ref (G.2.2.2 + o)), (1, .int a1), (2, .int a2), (3, .int a3), (5, .int x5)]) hx hb dX11_change_54 hl (by decide) rfl (fun ls hl => ?_)
        refine lv_iinc (v := (x5 + (nI 1))) (lv' := [(5, .int ((x5 + (nI 1)))), (4, .int v11), (0, .ref (G.2.2.2 + o)), (1, .int a1), (2, .int a2), (3, .int a3)]) hx hb dX11_change_56 hl (k := 5) rfl rfl (by decide) rfl (fun ls hl => ?_)
        refine lv_goto (tgt := 35) hx hb dX11_change_59 (by decide) ?_
        exact ih35 v11 (x5 + (nI 1)) _ _ _ h hW hS (lv_sub hl [2, 3, 4, 5, 1, 0] rfl)
  refine lv_iload_n hx hb dX11_change_0 rfl (lv_at hl 3 rfl) ?_
  refine z_br (lv_if_lt (tgt := 9) hx hb dX11_change_1 (by decide)) h (fun h => ?_) (fun h => ?_)
  · refine lv_iconst (v := (-1)) hx hb dX11_change_9 (by decide) ?_
    obtain rfl := Option.some.inj h
    exact z_ri hx hb hr hlk hW hS (Nat.le_of_ble_eq_true rfl) (Nat.le_of_ble_eq_true rfl) dX11_change_10
  · refine lv_iload_n hx hb dX11_change_4 rfl (lv_at hl 3 rfl) ?_
    refine lv_iconst (v := (nI 3)) hx hb dX11_change_5 (by decide) ?_
    refine z_br (lv_icmp_le (tgt := 11) hx hb dX11_change_6 (by decide)) h (fun h => ?_) (fun h => ?_)
    · refine lv_iload_n hx hb dX11_change_11 rfl (lv_at hl 1 rfl) ?_
      obtain ⟨r2, c1, h⟩ := zd_at h
      refine z_cS hx hb hq hml hown hK hW hS [.int a1] [] (c_X11_isLength l G st a1 c1) (zi zm475) (zi zm476) (zi zm2) (zi zm477) cal_X11_isLength rfl hl.1 rfl (Nat.le_of_ble_eq_true rfl) (zR_ok (by omega) (by decide)) ⟨(Nat.le_of_ble_eq_true rfl), (Nat.le_of_ble_eq_true rfl)⟩ dX11_change_12 (fun H locs hW hS => ?_)
      refine W.eq (g2 := F0 m 15 ls [.int r2]) rfl ?_
      refine z_br (lv_if_eq (tgt := 25) hx hb dX11_change_15 (by decide)) h (fun h => ?_) (fun h => ?_)
      · refine lv_bipush (v := (-2)) hx hb dX11_change_25 (by decide) ?_
        obtain rfl := Option.some.inj h
        exact z_ri hx hb hr hlk hW hS (Nat.le_of_ble_eq_true rfl) (Nat.le_of_ble_eq_true rfl) dX11_change_27
      · refine lv_iload_n hx hb dX11_change_18 rfl (lv_at hl 2 rfl) ?_
        obtain ⟨r4, c3, h⟩ := zd_at h
        refine z_cS hx hb hq hml hown hK hW hS [.int a2] [] (c_X11_isPence l G st a2 c3) (zi zm784) (zi zm785) (zi zm2) (zi zm786) cal_X11_isPence rfl hl.1 rfl (Nat.le_of_ble_eq_true rfl) (zR_ok (by omega) (by decide)) ⟨(Nat.le_of_ble_eq_true rfl), (Nat.le_of_ble_eq_true rfl)⟩ dX11_change_19 (fun H locs hW hS => ?_)
        refine W.eq (g2 := F0 m 22 ls [.int r4]) rfl ?_
        refine z_brn (lv_if_ne (tgt := 28) hx hb dX11_change_22 (by decide)) h (fun h => ?_) (fun h => ?_)
        · refine lv_ldc (v := (nI 2147483647)) hx hb hown (hq _ (zi zm795)) dX11_change_28 ?_
          refine lv_istore (lv' := [(4, .int ((nI 2147483647))), (0, .ref (G.2.2.2 + o)), (1, .int a1), (2, .int a2), (3, .int a3)]) hx hb dX11_change_30 hl (by decide) rfl (fun ls hl => ?_)
          refine lv_iconst (v := (nI 0)) hx hb dX11_change_32 (by decide) ?_
          refine lv_istore (lv' := [(5, .int ((nI 0))), (4, .int ((nI 2147483647))), (0, .ref (G.2.2.2 + o)), (1, .int a1), (2, .int a2), (3, .int a3)]) hx hb dX11_change_33 hl (by decide) rfl (fun ls hl => ?_)
          exact B35 N (nI 2147483647) (nI 0) _ _ _ h hW hS (lv_sub hl [2, 3, 4, 5, 1, 0] rfl)
        · refine lv_bipush (v := (-2)) hx hb dX11_change_25 (by decide) ?_
          obtain rfl := Option.some.inj h
          exact z_ri hx hb hr hlk hW hS (Nat.le_of_ble_eq_true rfl) (Nat.le_of_ble_eq_true rfl) dX11_change_27
    · refine lv_iconst (v := (-1)) hx hb dX11_change_9 (by decide) ?_
      obtain rfl := Option.some.inj h
      exact z_ri hx hb hr hlk hW hS (Nat.le_of_ble_eq_true rfl) (Nat.le_of_ble_eq_true rfl) dX11_change_10
def f_X11_withRests (st : zS) (o : Nat) (a1 : Int32) (a2 : Int32) (a3 : Int32) (a4 : Int32) : Option Int32 := (if (nI 1) ≤ a4 then (if ¬ a4 = 0 then (zl (a2 / a4) (fun v2 => (if ¬ a4 = 0 then (zl (a2 - a2 / a4 * a4) (fun v4 => (if zTg st o ∈ [21] then (Option.bind (zR st o 0) (fun b6 => (if zTg st b6 ∈ [12] then (Option.bind (f_X2_secondsOf st b6 a1 (v2 + (nI 1))) (fun r9 => (Option.bind (f_X2_secondsOf st b6 a1 v2) (fun r11 => (some (((v4 * r9) + ((a4 - v4) * r11)) + ((a4 - (nI 1)) * a3))))))) else none))) else none))) else none))) else none) else (some (nI 0)))
set_option maxHeartbeats 1000000 in
set_option maxRecDepth 100000 in
theorem c_X11_withRests (l : Launch) (G : zG) (st : zS) (o : Nat) (a1 : Int32) (a2 : Int32) (a3 : Int32) (a4 : Int32) {r : Int32} (h : f_X11_withRests st o a1 a2 a3 a4 = some r) : zMet l G yX11_withRests cX11_withRests 7 (some .int) 3 0 0 [.ref (G.2.2.2 + o), .int a1, .int a2, .int a3, .int a4] st (some (.int r)) st := by
  refine zMet_of (by decide +kernel) ?_
  intro p e s m args below meth c X
  obtain ⟨hx, hb, hr, hml, hown, hq, hlk, hK, -, hin, hW, hS⟩ := X
  have hown : s.vm.findClass RX11 = some m.cls := hown
  refine z_ent (by exact Nat.le_of_ble_eq_true rfl) (fun ls hl => ?_)
  have hl : lv_has ls 7 [(0, .ref (G.2.2.2 + o)), (1, .int a1), (2, .int a2), (3, .int a3), (4, .int a4)] := hl
  unfold f_X11_withRests at h
  refine lv_iload hx hb dX11_withRests_0 (lv_at hl 4 rfl) ?_
  refine lv_iconst (v := (nI 1)) hx hb dX11_withRests_2 (by decide) ?_
  refine z_br (lv_icmp_ge (tgt := 8) hx hb dX11_withRests_3 (by decide)) h (fun h => ?_) (fun h => ?_)
  · refine lv_iload_n hx hb dX11_withRests_8 rfl (lv_at hl 2 rfl) ?_
    refine lv_iload hx hb dX11_withRests_9 (lv_at hl 4 rfl) ?_
    obtain ⟨t1, h⟩ := zc_at h
    refine lv_idiv hx hb dX11_withRests_11 t1 ?_
    refine lv_topi (fun v2 ev2 => ?_)
    have h := zl_at ev2 h
    refine lv_istore (lv' := [(5, .int v2), (0, .ref (G.2.2.2 + o)), (1, .int a1), (2, .int a2), (3, .int a3), (4, .int a4)]) hx hb dX11_withRests_12 hl (by decide) rfl (fun ls hl => ?_)
    refine lv_iload_n hx hb dX11_withRests_14 rfl (lv_at hl 3 rfl) ?_
    refine lv_iload hx hb dX11_withRests_15 (lv_at hl 5 rfl) ?_
    obtain ⟨t3, h⟩ := zc_at h
    refine lv_irem hx hb dX11_withRests_17 t3 ?_
    refine lv_topi (fun v4 ev4 => ?_)
    have h := zl_at ev4 h
    refine lv_istore (lv' := [(6, .int v4), (5, .int v2), (0, .ref (G.2.2.2 + o)), (1, .int a1), (2, .int a2), (3, .int a3), (4, .int a4)]) hx hb dX11_withRests_18 hl (by decide) rfl (fun ls hl => ?_)
    refine lv_iload hx hb dX11_withRests_20 (lv_at hl 0 rfl) ?_
    refine lv_aload_n hx hb dX11_withRests_22 rfl (lv_at hl 2 rfl) ?_
    obtain ⟨t5, h⟩ := zc_at h
    obtain ⟨b6, hb6, h⟩ := zd_at h
    refine z_gR hx hb hq hown hK hW fs_RX11_12 t5 hb6 dX11_withRests_23 ?_
    refine lv_iload_n hx hb dX11_withRests_26 rfl (lv_at hl 3 rfl) ?_
    refine lv_iload hx hb dX11_withRests_27 (lv_at hl 1 rfl) ?_
    refine lv_iconst (v := (nI 1)) hx hb dX11_withRests_29 (by decide) ?_
    refine lv_iadd hx hb dX11_withRests_30 ?_
    obtain ⟨t7, h⟩ := zc_at h
    obtain ⟨r9, c8, h⟩ := zd_at h
    refine z_cV hx hb hq hml hown hK hW hS 2 [.int a1, .int ((v2 + (nI 1)))] [.int v4] rfl (List.mem_singleton.mp t7) (c_X2_secondsOf l G st b6 a1 (v2 + (nI 1)) c8) (zi zm478) (zi zm479) (zi zm480) (zi zm14) (zi zm481) cal_X2_secondsOf rfl rfl hl.1 rfl (Nat.le_of_ble_eq_true rfl) (zR_ok (by omega) (by decide)) ⟨(Nat.le_of_ble_eq_true rfl), (Nat.le_of_ble_eq_true rfl)⟩ dX11_withRests_31 (fun H locs hW hS => ?_)
    refine W.eq (g2 := F0 m 34 ls [.int r9, .int v4]) rfl ?_
    refine lv_imul hx hb dX11_withRests_34 ?_
    refine lv_iload hx hb dX11_withRests_35 (lv_at hl 6 rfl) ?_
    refine lv_iload hx hb dX11_withRests_37 (lv_at hl 0 rfl) ?_
    refine lv_isub hx hb dX11_withRests_39 ?_
    refine lv_aload_n hx hb dX11_withRests_40 rfl (lv_at hl 2 rfl) ?_
    refine z_gR hx hb hq hown hK hW fs_RX11_12 t5 hb6 dX11_withRests_41 ?_
    refine lv_iload_n hx hb dX11_withRests_44 rfl (lv_at hl 3 rfl) ?_
    refine lv_iload hx hb dX11_withRests_45 (lv_at hl 1 rfl) ?_
    obtain ⟨r11, c10, h⟩ := zd_at h
    refine z_cV hx hb hq hml hown hK hW hS 2 [.int a1, .int v2] [.int ((a4 - v4)), .int ((v4 * r9))] rfl (List.mem_singleton.mp t7) (c_X2_secondsOf l G st b6 a1 v2 c10) (zi zm478) (zi zm479) (zi zm480) (zi zm14) (zi zm481) cal_X2_secondsOf rfl rfl hl.1 rfl (Nat.le_of_ble_eq_true rfl) (zR_ok (by omega) (by decide)) ⟨(Nat.le_of_ble_eq_true rfl), (Nat.le_of_ble_eq_true rfl)⟩ dX11_withRests_47 (fun H locs hW hS => ?_)
    refine W.eq (g2 := F0 m 50 ls [.int r11, .int ((a4 - v4)), .int ((v4 * r9))]) rfl ?_
    refine lv_imul hx hb dX11_withRests_50 ?_
    refine lv_iadd hx hb dX11_withRests_51 ?_
    refine lv_iload hx hb dX11_withRests_52 (lv_at hl 6 rfl) ?_
    refine lv_iconst (v := (nI 1)) hx hb dX11_withRests_54 (by decide) ?_
    refine lv_isub hx hb dX11_withRests_55 ?_
    refine lv_iload_n hx hb dX11_withRests_56 rfl (lv_at hl 5 rfl) ?_
    refine lv_imul hx hb dX11_withRests_57 ?_
    refine lv_iadd hx hb dX11_withRests_58 ?_
    obtain rfl := Option.some.inj h
    exact z_ri hx hb hr hlk hW hS (Nat.le_of_ble_eq_true rfl) (Nat.le_of_ble_eq_true rfl) dX11_withRests_59
  · refine lv_iconst (v := (nI 0)) hx hb dX11_withRests_6 (by decide) ?_
    obtain rfl := Option.some.inj h
    exact z_ri hx hb hr hlk hW hS (Nat.le_of_ble_eq_true rfl) (Nat.le_of_ble_eq_true rfl) dX11_withRests_7
def f_X11_rests_78 (N : Nat) (st : zS) (o : Nat) (a1 : Int32) (a2 : Int32) (a3 : Int32) (a4 : Int32) (k47 : Int32 → Int32 → Option Int32) (x5 : Int32) (x6 : Int32) : Option Int32 := (k47 x5 (x6 + (nI 1)))
def f_X11_rests_47 (N : Nat) (st : zS) (o : Nat) (a1 : Int32) (a2 : Int32) (a3 : Int32) (a4 : Int32)  : Nat → Int32 → Int32 → Option Int32
  | 0, _, _ => none
  | n47 + 1, x5, x6 => (if a2 < x6 then (if a4 = 0 then (some x5) else (if zTg st o ∈ [21] then (Option.bind (f_X11_withRests st o a1 a2 a3 x5) (fun r13 => (some r13))) else none)) else (if zTg st o ∈ [21] then (Option.bind (f_X11_withRests st o a1 a2 a3 x6) (fun r16 => (Option.bind (f_X11_withRests st o a1 a2 a3 x5) (fun r18 => (if r18 ≤ r16 then (f_X11_rests_78 N st o a1 a2 a3 a4 (f_X11_rests_47 N st o a1 a2 a3 a4 n47) x5 x6) else (f_X11_rests_78 N st o a1 a2 a3 a4 (f_X11_rests_47 N st o a1 a2 a3 a4 n47) x6 x6)))))) else none))
def f_X11_rests (N : Nat) (st : zS) (o : Nat) (a1 : Int32) (a2 : Int32) (a3 : Int32) (a4 : Int32) : Option Int32 := (if zTg st o ∈ [21] then (Option.bind (zR st o 0) (fun b2 => (if zTg st b2 ∈ [12] then (Option.bind (f_X2_wayOf st b2 a1) (fun r5 => (zo r5 (some (-1 : Int32)) (fun q6 => (Option.bind (f_X11_isPart a4) (fun r8 => (if r8 = 0 then (some (-1 : Int32)) else (Option.bind (f_X11_isLength a2) (fun r10 => (if r10 = 0 then (some (-2 : Int32)) else (if a3 < 0 then (some (-2 : Int32)) else (if a3 ≤ (nI 99) then (f_X11_rests_47 N st o a1 a2 a3 a4 N (nI 1) (nI 2)) else (some (-2 : Int32)))))))))))))) else none))) else none)
set_option maxHeartbeats 1000000 in
set_option maxRecDepth 100000 in
theorem c_X11_rests (l : Launch) (G : zG) (N : Nat) (st : zS) (o : Nat) (a1 : Int32) (a2 : Int32) (a3 : Int32) (a4 : Int32) {r : Int32} (h : f_X11_rests N st o a1 a2 a3 a4 = some r) : zMet l G yX11_rests cX11_rests 7 (some .int) 4 0 0 [.ref (G.2.2.2 + o), .int a1, .int a2, .int a3, .int a4] st (some (.int r)) st := by
  refine zMet_of (by decide +kernel) ?_
  intro p e s m args below meth c X
  obtain ⟨hx, hb, hr, hml, hown, hq, hlk, hK, -, hin, hW, hS⟩ := X
  have hown : s.vm.findClass RX11 = some m.cls := hown
  refine z_ent (by exact Nat.le_of_ble_eq_true rfl) (fun ls hl => ?_)
  have hl : lv_has ls 7 [(0, .ref (G.2.2.2 + o)), (1, .int a1), (2, .int a2), (3, .int a3), (4, .int a4)] := hl
  unfold f_X11_rests at h
  have B47 : ∀ (n47 : Nat) (x5 : Int32) (x6 : Int32) (H : Heap) (locs : List Loc) (ls : Array Slot), f_X11_rests_47 N st o a1 a2 a3 a4 n47 x5 x6 = some r → zWd G st H → va_S (zA G) s.heap H locs → lv_has ls 7 [(0, .ref (G.2.2.2 + o)), (1, .int a1), (2, .int a2), (3, .int a3), (4, .int a4), (5, .int x5), (6, .int x6)] → W p l e (zRm 4 0 0) s m args below meth c H locs 0 0 (MQ below (zQ G (some (.int r)) st) args s 0 0 (zA G)) (F0 m 47 ls []) := by
    intro n47
    induction n47 with
    | zero =>
      intro x5 x6 H locs ls h
      unfold f_X11_rests_47 at h
      cases h
    | succ n47 ih47 =>
      have B78 : ∀ (x5 : Int32) (x6 : Int32) (H : Heap) (locs : List Loc) (ls : Array Slot), f_X11_rests_78 N st o a1 a2 a3 a4 (f_X11_rests_47 N st o a1 a2 a3 a4 n47) x5 x6 = some r → zWd G st H → va_S (zA G) s.heap H locs → lv_has ls 7 [(0, .ref (G.2.2.2 + o)), (1, .int a1), (2, .int a2), (3, .int a3), (4, .int a4), (5, .int x5), (6, .int x6)] → W p l e (zRm 4 0 0) s m args below meth c H locs 0 0 (MQ below (zQ G (some (.int r)) st) args s 0 0 (zA G)) (F0 m 78 ls []) := by
        intro x5 x6 H locs ls h hW hS hl
        unfold f_X11_rests_78 at h
        refine lv_iinc (v := (x6 + (nI 1))) (lv' := [(6, .int ((x6 + (nI 1)))), (0, .ref (G.2.2.2 + o)), (1, .int a1), (2, .int a2), (3, .int a3), (4, .int a4), (5, .int x5)]) hx hb dX11_rests_78 hl (k := 6) rfl rfl (by decide) rfl (fun ls hl => ?_)
        refine lv_goto (tgt := 47) hx hb dX11_rests_81 (by decide) ?_
        exact ih47 x5 (x6 + (nI 1)) _ _ _ h hW hS (lv_sub hl [1, 2, 3, 4, 5, 6, 0] rfl)
      intro x5 x6 H locs ls h hW hS hl
      unfold f_X11_rests_47 at h
      refine lv_iload hx hb dX11_rests_47 (lv_at hl 6 rfl) ?_
      refine lv_iload_n hx hb dX11_rests_49 rfl (lv_at hl 2 rfl) ?_
      refine z_br (lv_icmp_gt (tgt := 84) hx hb dX11_rests_50 (by decide)) h (fun h => ?_) (fun h => ?_)
      · refine lv_iload hx hb dX11_rests_84 (lv_at hl 4 rfl) ?_
        refine z_brn (lv_if_ne (tgt := 94) hx hb dX11_rests_86 (by decide)) h (fun h => ?_) (fun h => ?_)
        · refine lv_aload_n hx hb dX11_rests_94 rfl (lv_at hl 0 rfl) ?_
          refine lv_iload_n hx hb dX11_rests_95 rfl (lv_at hl 1 rfl) ?_
          refine lv_iload_n hx hb dX11_rests_96 rfl (lv_at hl 2 rfl) ?_
          refine lv_iload_n hx hb dX11_rests_97 rfl (lv_at hl 3 rfl) ?_
          refine lv_iload hx hb dX11_rests_98 (lv_at hl 5 rfl) ?_
          obtain ⟨t11, h⟩ := zc_at h
          obtain ⟨r13, c12, h⟩ := zd_at h
          refine z_cV hx hb hq hml hown hK hW hS 11 [.int a1, .int a2, .int a3, .int x5] [] rfl (List.mem_singleton.mp t11) (c_X11_withRests l G st o a1 a2 a3 x5 c12) (zi zm816) (zi zm817) (zi zm818) (zi zm2) (zi zm819) cal_X11_withRests rfl rfl hl.1 rfl (Nat.le_of_ble_eq_true rfl) (zR_ok (by omega) (by decide)) ⟨(Nat.le_of_ble_eq_true rfl), (Nat.le_of_ble_eq_true rfl)⟩ dX11_rests_100 (fun H locs hW hS => ?_)
          refine W.eq (g2 := F0 m 103 ls [.int r13]) rfl ?_
          obtain rfl := Option.some.inj h
          exact z_ri hx hb hr hlk hW hS (Nat.le_of_ble_eq_true rfl) (Nat.le_of_ble_eq_true rfl) dX11_rests_103
        · refine lv_iload hx hb dX11_rests_89 (lv_at hl 5 rfl) ?_
          refine lv_goto (tgt := 103) hx hb dX11_rests_91 (by decide) ?_
          obtain rfl := Option.some.inj h
          exact z_ri hx hb hr hlk hW hS (Nat.le_of_ble_eq_true rfl) (Nat.le_of_ble_eq_true rfl) dX11_rests_103
      · refine lv_aload_n hx hb dX11_rests_53 rfl (lv_at hl 0 rfl) ?_
        refine lv_iload_n hx hb dX11_rests_54 rfl (lv_at hl 1 rfl) ?_
        refine lv_iload_n hx hb dX11_rests_55 rfl (lv_at hl 2 rfl) ?_
        refine lv_iload_n hx hb dX11_rests_56 rfl (lv_at hl 3 rfl) ?_
        refine lv_iload hx hb dX11_rests_57 (lv_at hl 6 rfl) ?_
        obtain ⟨t14, h⟩ := zc_at h
        obtain ⟨r16, c15, h⟩ := zd_at h
        refine z_cV hx hb hq hml hown hK hW hS 11 [.int a1, .int a2, .int a3, .int x6] [] rfl (List.mem_singleton.mp t14) (c_X11_withRests l G st o a1 a2 a3 x6 c15) (zi zm816) (zi zm817) (zi zm818) (zi zm2) (zi zm819) cal_X11_withRests rfl rfl hl.1 rfl (Nat.le_of_ble_eq_true rfl) (zR_ok (by omega) (by decide)) ⟨(Nat.le_of_ble_eq_true rfl), (Nat.le_of_ble_eq_true rfl)⟩ dX11_rests_59 (fun H locs hW hS => ?_)
        refine W.eq (g2 := F0 m 62 ls [.int r16]) rfl ?_
        refine lv_aload_n hx hb dX11_rests_62 rfl (lv_at hl 0 rfl) ?_
        refine lv_iload_n hx hb dX11_rests_63 rfl (lv_at hl 1 rfl) ?_
        refine lv_iload_n hx hb dX11_rests_64 rfl (lv_at hl 2 rfl) ?_
        refine lv_iload_n hx hb dX11_rests_65 rfl (lv_at hl 3 rfl) ?_
        refine lv_iload hx hb dX11_rests_66 (lv_at hl 5 rfl) ?_
        obtain ⟨r18, c17, h⟩ := zd_at h
        refine z_cV hx hb hq hml hown hK hW hS 11 [.int a1, .int a2, .int a3, .int x5] [.int r16] rfl (List.mem_singleton.mp t14) (c_X11_withRests l G st o a1 a2 a3 x5 c17) (zi zm816) (zi zm817) (zi zm818) (zi zm2) (zi zm819) cal_X11_withRests rfl rfl hl.1 rfl (Nat.le_of_ble_eq_true rfl) (zR_ok (by omega) (by decide)) ⟨(Nat.le_of_ble_eq_true rfl), (Nat.le_of_ble_eq_true rfl)⟩ dX11_rests_68 (fun H locs hW hS => ?_)
        refine W.eq (g2 := F0 m 71 ls [.int r18, .int r16]) rfl ?_
        refine z_br (lv_icmp_ge (tgt := 78) hx hb dX11_rests_71 (by decide)) h (fun h => ?_) (fun h => ?_)
        · exact B78 x5 x6 _ _ _ h hW hS (lv_sub hl [0, 1, 2, 3, 4, 5, 6] rfl)
        · refine lv_iload hx hb dX11_rests_74 (lv_at hl 6 rfl) ?_
          refine lv_istore (lv' := [(5, .int x6), (0, .ref (G.2.2.2 + o)), (1, .int a1), (2, .int a2), (3, .int a3), (4, .int a4), (6, .int x6)]) hx hb dX11_rests_76 hl (by decide) rfl (fun ls hl => ?_)
          exact B78 x6 x6 _ _ _ h hW hS (lv_sub hl [1, 2, 3, 4, 5, 0, 6] rfl)
  refine lv_aload_n hx hb dX11_rests_0 rfl (lv_at hl 0 rfl) ?_
  obtain ⟨t1, h⟩ := zc_at h
  obtain ⟨b2, hb2, h⟩ := zd_at h
  refine z_gR hx hb hq hown hK hW fs_RX11_12 t1 hb2 dX11_rests_1 ?_
  refine lv_iload_n hx hb dX11_rests_4 rfl (lv_at hl 1 rfl) ?_
  obtain ⟨t3, h⟩ := zc_at h
  obtain ⟨r5, c4, h⟩ := zd_at h
  refine z_cV hx hb hq hml hown hK hW hS 2 [.int a1] [] rfl (List.mem_singleton.mp t3) (c_X2_wayOf l G st b2 a1 c4) (zi zm417) (zi zm418) (zi zm419) (zi zm14) (zi zm420) cal_X2_wayOf rfl rfl hl.1 rfl (Nat.le_of_ble_eq_true rfl) (zR_ok (by omega) (by decide)) ⟨(Nat.le_of_ble_eq_true rfl), (Nat.le_of_ble_eq_true rfl)⟩ dX11_rests_5 (fun H locs hW hS => ?_)
  rcases r5 with _ | q6
  · refine W.eq (g2 := F0 m 8 ls [.null]) rfl ?_
    refine lv_ifnullN (tgt := 19) hx hb dX11_rests_8 (by decide) ?_
    refine lv_iconst (v := (-1)) hx hb dX11_rests_19 (by decide) ?_
    obtain rfl := Option.some.inj h
    exact z_ri hx hb hr hlk hW hS (Nat.le_of_ble_eq_true rfl) (Nat.le_of_ble_eq_true rfl) dX11_rests_20
  · refine W.eq (g2 := F0 m 8 ls [.ref (G.2.2.2 + q6)]) rfl ?_
    refine lv_ifnull hx hb dX11_rests_8 ?_
    refine lv_iload hx hb dX11_rests_11 (lv_at hl 4 rfl) ?_
    obtain ⟨r8, c7, h⟩ := zd_at h
    refine z_cS hx hb hq hml hown hK hW hS [.int a4] [] (c_X11_isPart l G st a4 c7) (zi zm589) (zi zm590) (zi zm2) (zi zm591) cal_X11_isPart rfl hl.1 rfl (Nat.le_of_ble_eq_true rfl) (zR_ok (by omega) (by decide)) ⟨(Nat.le_of_ble_eq_true rfl), (Nat.le_of_ble_eq_true rfl)⟩ dX11_rests_13 (fun H locs hW hS => ?_)
    refine W.eq (g2 := F0 m 16 ls [.int r8]) rfl ?_
    refine z_brn (lv_if_ne (tgt := 21) hx hb dX11_rests_16 (by decide)) h (fun h => ?_) (fun h => ?_)
    · refine lv_iload_n hx hb dX11_rests_21 rfl (lv_at hl 2 rfl) ?_
      obtain ⟨r10, c9, h⟩ := zd_at h
      refine z_cS hx hb hq hml hown hK hW hS [.int a2] [] (c_X11_isLength l G st a2 c9) (zi zm475) (zi zm476) (zi zm2) (zi zm477) cal_X11_isLength rfl hl.1 rfl (Nat.le_of_ble_eq_true rfl) (zR_ok (by omega) (by decide)) ⟨(Nat.le_of_ble_eq_true rfl), (Nat.le_of_ble_eq_true rfl)⟩ dX11_rests_22 (fun H locs hW hS => ?_)
      refine W.eq (g2 := F0 m 25 ls [.int r10]) rfl ?_
      refine z_br (lv_if_eq (tgt := 38) hx hb dX11_rests_25 (by decide)) h (fun h => ?_) (fun h => ?_)
      · refine lv_bipush (v := (-2)) hx hb dX11_rests_38 (by decide) ?_
        obtain rfl := Option.some.inj h
        exact z_ri hx hb hr hlk hW hS (Nat.le_of_ble_eq_true rfl) (Nat.le_of_ble_eq_true rfl) dX11_rests_40
      · refine lv_iload_n hx hb dX11_rests_28 rfl (lv_at hl 3 rfl) ?_
        refine z_br (lv_if_lt (tgt := 38) hx hb dX11_rests_29 (by decide)) h (fun h => ?_) (fun h => ?_)
        · refine lv_bipush (v := (-2)) hx hb dX11_rests_38 (by decide) ?_
          obtain rfl := Option.some.inj h
          exact z_ri hx hb hr hlk hW hS (Nat.le_of_ble_eq_true rfl) (Nat.le_of_ble_eq_true rfl) dX11_rests_40
        · refine lv_iload_n hx hb dX11_rests_32 rfl (lv_at hl 3 rfl) ?_
          refine lv_bipush (v := (nI 99)) hx hb dX11_rests_33 (by decide) ?_
          refine z_br (lv_icmp_le (tgt := 41) hx hb dX11_rests_35 (by decide)) h (fun h => ?_) (fun h => ?_)
          · refine lv_iconst (v := (nI 1)) hx hb dX11_rests_41 (by decide) ?_
            refine lv_istore (lv' := [(5, .int ((nI 1))), (0, .ref (G.2.2.2 + o)), (1, .int a1), (2, .int a2), (3, .int a3), (4, .int a4)]) hx hb dX11_rests_42 hl (by decide) rfl (fun ls hl => ?_)
            refine lv_iconst (v := (nI 2)) hx hb dX11_rests_44 (by decide) ?_
            refine lv_istore (lv' := [(6, .int ((nI 2))), (5, .int ((nI 1))), (0, .ref (G.2.2.2 + o)), (1, .int a1), (2, .int a2), (3, .int a3), (4, .int a4)]) hx hb dX11_rests_45 hl (by decide) rfl (fun ls hl => ?_)
            exact B47 N (nI 1) (nI 2) _ _ _ h hW hS (lv_sub hl [2, 3, 4, 5, 6, 1, 0] rfl)
          · refine lv_bipush (v := (-2)) hx hb dX11_rests_38 (by decide) ?_
            obtain rfl := Option.some.inj h
            exact z_ri hx hb hr hlk hW hS (Nat.le_of_ble_eq_true rfl) (Nat.le_of_ble_eq_true rfl) dX11_rests_40
    · refine lv_iconst (v := (-1)) hx hb dX11_rests_19 (by decide) ?_
      obtain rfl := Option.some.inj h
      exact z_ri hx hb hr hlk hW hS (Nat.le_of_ble_eq_true rfl) (Nat.le_of_ble_eq_true rfl) dX11_rests_20
def f_X11_mend_94 (N : Nat) (st : zS) (o : Nat) (a1 : Int32) (k27 : Int32 → Int64 → Int32 → Option Int32) (x2 : Int32) (x3 : Int64) (x5 : Int32) : Option Int32 := (k27 x2 x3 (x5 + (nI 1)))
def f_X11_mend_79 (N : Nat) (st : zS) (o : Nat) (a1 : Int32) (k27 : Int32 → Int64 → Int32 → Option Int32) (x2 : Int32) (x3 : Int64) (x5 : Int32) (x6 : Int32) (y0 : Int64) : Option Int32 := (if (lg_cmp y0 x3) ≤ 0 then (f_X11_mend_94 N st o a1 k27 x2 x3 x5) else (f_X11_mend_94 N st o a1 k27 x6 y0 x5))
def f_X11_mend_27 (N : Nat) (st : zS) (o : Nat) (a1 : Int32)  : Nat → Int32 → Int64 → Int32 → Option Int32
  | 0, _, _, _ => none
  | n27 + 1, x2, x3, x5 => (if zTg st o ∈ [21] then (Option.bind (zR st o 0) (fun b10 => (if zTg st b10 ∈ [12] then (Option.bind (f_X2_placeCount st b10) (fun r13 => (if r13 ≤ x5 then (some x2) else (Option.bind (f_X2_placeAt st b10 x5) (fun r15 => (Option.bind (zR st b10 5) (fun b16 => (if zTg st b16 ∈ [15] then (Option.bind (f_X5_hasPlace st b16 r15) (fun r19 => (if r19 = 0 then (f_X11_mend_79 N st o a1 (f_X11_mend_27 N st o a1 n27) x2 x3 x5 r15 (lN 0)) else (Option.bind (f_X2_unseenIf N st b10 r15 a1) (fun r21 => (f_X11_mend_79 N st o a1 (f_X11_mend_27 N st o a1 n27) x2 x3 x5 r15 r21)))))) else none)))))))) else none))) else none)
def f_X11_mend (N : Nat) (st : zS) (o : Nat) (a1 : Int32) : Option Int32 := (if zTg st o ∈ [21] then (Option.bind (zR st o 0) (fun b2 => (if zTg st b2 ∈ [12] then (Option.bind (f_X2_wayOf st b2 a1) (fun r5 => (zo r5 (some (-1 : Int32)) (fun q6 => (Option.bind (f_X2_unseenNow N st b2) (fun r8 => (f_X11_mend_27 N st o a1 N (-5 : Int32) r8 (nI 0)))))))) else none))) else none)
set_option maxHeartbeats 1000000 in
set_option maxRecDepth 100000 in
theorem c_X11_mend (l : Launch) (G : zG) (N : Nat) (st : zS) (o : Nat) (a1 : Int32) {r : Int32} (h : f_X11_mend N st o a1 = some r) : zMet l G yX11_mend cX11_mend 9 (some .int) 6 0 0 [.ref (G.2.2.2 + o), .int a1] st (some (.int r)) st := by
  refine zMet_of (by decide +kernel) ?_
  intro p e s m args below meth c X
  obtain ⟨hx, hb, hr, hml, hown, hq, hlk, hK, -, hin, hW, hS⟩ := X
  have hown : s.vm.findClass RX11 = some m.cls := hown
  refine z_ent (by exact Nat.le_of_ble_eq_true rfl) (fun ls hl => ?_)
  have hl : lv_has ls 9 [(0, .ref (G.2.2.2 + o)), (1, .int a1)] := hl
  unfold f_X11_mend at h
  have B27 : ∀ (n27 : Nat) (x2 : Int32) (x3 : Int64) (x5 : Int32) (H : Heap) (locs : List Loc) (ls : Array Slot), f_X11_mend_27 N st o a1 n27 x2 x3 x5 = some r → zWd G st H → va_S (zA G) s.heap H locs → lv_has ls 9 [(0, .ref (G.2.2.2 + o)), (1, .int a1), (2, .int x2), (3, .long (x3)), (5, .int x5)] → W p l e (zRm 6 0 0) s m args below meth c H locs 0 0 (MQ below (zQ G (some (.int r)) st) args s 0 0 (zA G)) (F0 m 27 ls []) := by
    intro n27
    induction n27 with
    | zero =>
      intro x2 x3 x5 H locs ls h
      unfold f_X11_mend_27 at h
      cases h
    | succ n27 ih27 =>
      have B94 : ∀ (x2 : Int32) (x3 : Int64) (x5 : Int32) (H : Heap) (locs : List Loc) (ls : Array Slot), f_X11_mend_94 N st o a1 (f_X11_mend_27 N st o a1 n27) x2 x3 x5 = some r → zWd G st H → va_S (zA G) s.heap H locs → lv_has ls 9 [(0, .ref (G.2.2.2 + o)), (1, .int a1), (2, .int x2), (3, .long (x3)), (5, .int x5)] → W p l e (zRm 6 0 0) s m args below meth c H locs 0 0 (MQ below (zQ G (some (.int r)) st) args s 0 0 (zA G)) (F0 m 94 ls []) := by
        intro x2 x3 x5 H locs ls h hW hS hl
        unfold f_X11_mend_94 at h
        refine lv_iinc (v := (x5 + (nI 1))) (lv' := [(5, .int ((x5 + (nI 1)))), (0, .ref (G.2.2.2 + o)), (1, .int a1), (2, .int x2), (3, .long (x3))]) hx hb dX11_mend_94 hl (k := 4) rfl rfl (by decide) rfl (fun ls hl => ?_)
        refine lv_goto (tgt := 27) hx hb dX11_mend_97 (by decide) ?_
        exact ih27 x2 x3 (x5 + (nI 1)) _ _ _ h hW hS (lv_sub hl [1, 2, 3, 4, 0] rfl)
      have B79 : ∀ (x2 : Int32) (x3 : Int64) (x5 : Int32) (x6 : Int32) (y0 : Int64) (H : Heap) (locs : List Loc) (ls : Array Slot), f_X11_mend_79 N st o a1 (f_X11_mend_27 N st o a1 n27) x2 x3 x5 x6 y0 = some r → zWd G st H → va_S (zA G) s.heap H locs → lv_has ls 9 [(0, .ref (G.2.2.2 + o)), (1, .int a1), (2, .int x2), (3, .long (x3)), (5, .int x5), (6, .int x6)] → W p l e (zRm 6 0 0) s m args below meth c H locs 0 0 (MQ below (zQ G (some (.int r)) st) args s 0 0 (zA G)) (F0 m 79 ls [.long (y0)]) := by
        intro x2 x3 x5 x6 y0 H locs ls h hW hS hl
        unfold f_X11_mend_79 at h
        refine lv_lstore (lv' := [(7, .long (y0)), (0, .ref (G.2.2.2 + o)), (1, .int a1), (2, .int x2), (3, .long (x3)), (5, .int x5), (6, .int x6)]) hx hb dX11_mend_79 hl (by decide) rfl (fun ls hl => ?_)
        refine lv_lload hx hb dX11_mend_81 (lv_at hl 0 rfl) ?_
        refine lv_lload_n hx hb dX11_mend_83 rfl (lv_at hl 4 rfl) ?_
        refine W.lcmp hx hb dX11_mend_84 ?_
        refine z_br (lv_if_le (tgt := 94) hx hb dX11_mend_85 (by decide)) h (fun h => ?_) (fun h => ?_)
        · exact B94 x2 x3 x5 _ _ _ h hW hS (lv_sub hl [1, 2, 3, 4, 5] rfl)
        · refine lv_iload hx hb dX11_mend_88 (lv_at hl 6 rfl) ?_
          refine lv_istore_n (lv' := [(2, .int x6), (7, .long (y0)), (0, .ref (G.2.2.2 + o)), (1, .int a1), (3, .long (x3)), (5, .int x5), (6, .int x6)]) hx hb dX11_mend_90 rfl hl (by decide) rfl (fun ls hl => ?_)
          refine lv_lload hx hb dX11_mend_91 (lv_at hl 1 rfl) ?_
          refine lv_lstore_n (lv' := [(3, .long (y0)), (2, .int x6), (7, .long (y0)), (0, .ref (G.2.2.2 + o)), (1, .int a1), (5, .int x5), (6, .int x6)]) hx hb dX11_mend_93 rfl hl (by decide) rfl (fun ls hl => ?_)
          exact B94 x6 y0 x5 _ _ _ h hW hS (lv_sub hl [3, 4, 1, 0, 5] rfl)
      intro x2 x3 x5 H locs ls h hW hS hl
      unfold f_X11_mend_27 at h
      refine lv_iload hx hb dX11_mend_27 (lv_at hl 4 rfl) ?_
      refine lv_aload_n hx hb dX11_mend_29 rfl (lv_at hl 0 rfl) ?_
      obtain ⟨t9, h⟩ := zc_at h
      obtain ⟨b10, hb10, h⟩ := zd_at h
      refine z_gR hx hb hq hown hK hW fs_RX11_12 t9 hb10 dX11_mend_30 ?_
      obtain ⟨t11, h⟩ := zc_at h
      obtain ⟨r13, c12, h⟩ := zd_at h
      refine z_cV hx hb hq hml hown hK hW hS 2 [] [.int x5] rfl (List.mem_singleton.mp t11) (c_X2_placeCount l G st b10 c12) (zi zm643) (zi zm644) (zi zm645) (zi zm14) (zi zm646) cal_X2_placeCount rfl rfl hl.1 rfl (Nat.le_of_ble_eq_true rfl) (zR_ok (by omega) (by decide)) ⟨(Nat.le_of_ble_eq_true rfl), (Nat.le_of_ble_eq_true rfl)⟩ dX11_mend_33 (fun H locs hW hS => ?_)
      refine W.eq (g2 := F0 m 36 ls [.int r13, .int x5]) rfl ?_
      refine z_br (lv_icmp_ge (tgt := 100) hx hb dX11_mend_36 (by decide)) h (fun h => ?_) (fun h => ?_)
      · refine lv_iload_n hx hb dX11_mend_100 rfl (lv_at hl 2 rfl) ?_
        obtain rfl := Option.some.inj h
        exact z_ri hx hb hr hlk hW hS (Nat.le_of_ble_eq_true rfl) (Nat.le_of_ble_eq_true rfl) dX11_mend_101
      · refine lv_aload_n hx hb dX11_mend_39 rfl (lv_at hl 0 rfl) ?_
        refine z_gR hx hb hq hown hK hW fs_RX11_12 t9 hb10 dX11_mend_40 ?_
        refine lv_iload hx hb dX11_mend_43 (lv_at hl 4 rfl) ?_
        obtain ⟨r15, c14, h⟩ := zd_at h
        refine z_cV hx hb hq hml hown hK hW hS 2 [.int x5] [] rfl (List.mem_singleton.mp t11) (c_X2_placeAt l G st b10 x5 c14) (zi zm651) (zi zm652) (zi zm653) (zi zm14) (zi zm654) cal_X2_placeAt rfl rfl hl.1 rfl (Nat.le_of_ble_eq_true rfl) (zR_ok (by omega) (by decide)) ⟨(Nat.le_of_ble_eq_true rfl), (Nat.le_of_ble_eq_true rfl)⟩ dX11_mend_45 (fun H locs hW hS => ?_)
        refine W.eq (g2 := F0 m 48 ls [.int r15]) rfl ?_
        refine lv_istore (lv' := [(6, .int r15), (0, .ref (G.2.2.2 + o)), (1, .int a1), (2, .int x2), (3, .long (x3)), (5, .int x5)]) hx hb dX11_mend_48 hl (by decide) rfl (fun ls hl => ?_)
        refine lv_aload_n hx hb dX11_mend_50 rfl (lv_at hl 1 rfl) ?_
        refine z_gR hx hb hq hown hK hW fs_RX11_12 t9 hb10 dX11_mend_51 ?_
        obtain ⟨b16, hb16, h⟩ := zd_at h
        refine z_gR hx hb hq hown hK hW fs_RX11_89 t11 hb16 dX11_mend_54 ?_
        refine lv_iload hx hb dX11_mend_57 (lv_at hl 0 rfl) ?_
        obtain ⟨t17, h⟩ := zc_at h
        obtain ⟨r19, c18, h⟩ := zd_at h
        refine z_cV hx hb hq hml hown hK hW hS 5 [.int r15] [] rfl (List.mem_singleton.mp t17) (c_X5_hasPlace l G st b16 r15 c18) (zi zm585) (zi zm586) (zi zm587) (zi zm32) (zi zm588) cal_X5_hasPlace rfl rfl hl.1 rfl (Nat.le_of_ble_eq_true rfl) (zR_ok (by omega) (by decide)) ⟨(Nat.le_of_ble_eq_true rfl), (Nat.le_of_ble_eq_true rfl)⟩ dX11_mend_59 (fun H locs hW hS => ?_)
        refine W.eq (g2 := F0 m 62 ls [.int r19]) rfl ?_
        refine z_br (lv_if_eq (tgt := 78) hx hb dX11_mend_62 (by decide)) h (fun h => ?_) (fun h => ?_)
        · refine lv_lconst (v := (lN 0)) hx hb dX11_mend_78 (by decide) ?_
          exact B79 x2 x3 x5 r15 (lN 0) _ _ _ h hW hS (lv_sub hl [1, 2, 3, 4, 5, 0] rfl)
        · refine lv_aload_n hx hb dX11_mend_65 rfl (lv_at hl 1 rfl) ?_
          refine z_gR hx hb hq hown hK hW fs_RX11_12 t9 hb10 dX11_mend_66 ?_
          refine lv_iload hx hb dX11_mend_69 (lv_at hl 0 rfl) ?_
          refine lv_iload_n hx hb dX11_mend_71 rfl (lv_at hl 2 rfl) ?_
          obtain ⟨r21, c20, h⟩ := zd_at h
          refine z_cV hx hb hq hml hown hK hW hS 2 [.int r15, .int a1] [] rfl (List.mem_singleton.mp t11) (c_X2_unseenIf l G N st b10 r15 a1 c20) (zi zm829) (zi zm712) (zi zm713) (zi zm14) (zi zm714) cal_X2_unseenIf rfl rfl hl.1 rfl (Nat.le_of_ble_eq_true rfl) (zR_ok (by omega) (by decide)) ⟨(Nat.le_of_ble_eq_true rfl), (Nat.le_of_ble_eq_true rfl)⟩ dX11_mend_72 (fun H locs hW hS => ?_)
          refine W.eq (g2 := F0 m 75 ls [.long (r21)]) rfl ?_
          refine lv_goto (tgt := 79) hx hb dX11_mend_75 (by decide) ?_
          exact B79 x2 x3 x5 r15 r21 _ _ _ h hW hS (lv_sub hl [1, 2, 3, 4, 5, 0] rfl)
  refine lv_aload_n hx hb dX11_mend_0 rfl (lv_at hl 0 rfl) ?_
  obtain ⟨t1, h⟩ := zc_at h
  obtain ⟨b2, hb2, h⟩ := zd_at h
  refine z_gR hx hb hq hown hK hW fs_RX11_12 t1 hb2 dX11_mend_1 ?_
  refine lv_iload_n hx hb dX11_mend_4 rfl (lv_at hl 1 rfl) ?_
  obtain ⟨t3, h⟩ := zc_at h
  obtain ⟨r5, c4, h⟩ := zd_at h
  refine z_cV hx hb hq hml hown hK hW hS 2 [.int a1] [] rfl (List.mem_singleton.mp t3) (c_X2_wayOf l G st b2 a1 c4) (zi zm417) (zi zm418) (zi zm419) (zi zm14) (zi zm420) cal_X2_wayOf rfl rfl hl.1 rfl (Nat.le_of_ble_eq_true rfl) (zR_ok (by omega) (by decide)) ⟨(Nat.le_of_ble_eq_true rfl), (Nat.le_of_ble_eq_true rfl)⟩ dX11_mend_5 (fun H locs hW hS => ?_)
  rcases r5 with _ | q6
  · refine W.eq (g2 := F0 m 8 ls [.null]) rfl ?_
    refine lv_ifnonnullN hx hb dX11_mend_8 ?_
    refine lv_iconst (v := (-1)) hx hb dX11_mend_11 (by decide) ?_
    obtain rfl := Option.some.inj h
    exact z_ri hx hb hr hlk hW hS (Nat.le_of_ble_eq_true rfl) (Nat.le_of_ble_eq_true rfl) dX11_mend_12
  · refine W.eq (g2 := F0 m 8 ls [.ref (G.2.2.2 + q6)]) rfl ?_
    refine lv_ifnonnull (tgt := 13) hx hb dX11_mend_8 (by decide) ?_
    refine lv_bipush (v := (-5)) hx hb dX11_mend_13 (by decide) ?_
    refine lv_istore_n (lv' := [(2, .int ((-5))), (0, .ref (G.2.2.2 + o)), (1, .int a1)]) hx hb dX11_mend_15 rfl hl (by decide) rfl (fun ls hl => ?_)
    refine lv_aload_n hx hb dX11_mend_16 rfl (lv_at hl 1 rfl) ?_
    refine z_gR hx hb hq hown hK hW fs_RX11_12 t1 hb2 dX11_mend_17 ?_
    obtain ⟨r8, c7, h⟩ := zd_at h
    refine z_cV hx hb hq hml hown hK hW hS 2 [] [] rfl (List.mem_singleton.mp t3) (c_X2_unseenNow l G N st b2 c7) (zi zm707) (zi zm708) (zi zm709) (zi zm14) (zi zm710) cal_X2_unseenNow rfl rfl hl.1 rfl (Nat.le_of_ble_eq_true rfl) (zR_ok (by omega) (by decide)) ⟨(Nat.le_of_ble_eq_true rfl), (Nat.le_of_ble_eq_true rfl)⟩ dX11_mend_20 (fun H locs hW hS => ?_)
    refine W.eq (g2 := F0 m 23 ls [.long (r8)]) rfl ?_
    refine lv_lstore_n (lv' := [(3, .long (r8)), (2, .int ((-5))), (0, .ref (G.2.2.2 + o)), (1, .int a1)]) hx hb dX11_mend_23 rfl hl (by decide) rfl (fun ls hl => ?_)
    refine lv_iconst (v := (nI 0)) hx hb dX11_mend_24 (by decide) ?_
    refine lv_istore (lv' := [(5, .int ((nI 0))), (3, .long (r8)), (2, .int ((-5))), (0, .ref (G.2.2.2 + o)), (1, .int a1)]) hx hb dX11_mend_25 hl (by decide) rfl (fun ls hl => ?_)
    exact B27 N (-5 : Int32) r8 (nI 0) _ _ _ h hW hS (lv_sub hl [3, 4, 2, 1, 0] rfl)
def f_X11_nextWhere_78 (N : Nat) (st : zS) (o : Nat) (a1 : Int32) (a2 : Int32) (k8 : Int32 → Int32 → Int32 → Option Int32) (x3 : Int32) (x4 : Int32) (x5 : Int32) : Option Int32 := (k8 x3 x4 (x5 + (nI 1)))
def f_X11_nextWhere_57 (N : Nat) (st : zS) (o : Nat) (a1 : Int32) (a2 : Int32) (k8 : Int32 → Int32 → Int32 → Option Int32) (x3 : Int32) (x4 : Int32) (x5 : Int32) (x6 : Int32) (y0 : Int32) : Option Int32 := (if y0 = 0 then (f_X11_nextWhere_78 N st o a1 a2 k8 x3 x4 x5) else (if x6 ≤ x4 then (f_X11_nextWhere_78 N st o a1 a2 k8 x3 x4 x5) else (f_X11_nextWhere_78 N st o a1 a2 k8 x5 x6 x5)))
def f_X11_nextWhere_52 (N : Nat) (st : zS) (o : Nat) (a1 : Int32) (a2 : Int32) (k8 : Int32 → Int32 → Int32 → Option Int32) (x3 : Int32) (x4 : Int32) (x5 : Int32) (x6 : Int32) : Option Int32 := (f_X11_nextWhere_57 N st o a1 a2 k8 x3 x4 x5 x6 (nI 1))
def f_X11_nextWhere_56 (N : Nat) (st : zS) (o : Nat) (a1 : Int32) (a2 : Int32) (k8 : Int32 → Int32 → Int32 → Option Int32) (x3 : Int32) (x4 : Int32) (x5 : Int32) (x6 : Int32) : Option Int32 := (f_X11_nextWhere_57 N st o a1 a2 k8 x3 x4 x5 x6 (nI 0))
def f_X11_nextWhere_8 (N : Nat) (st : zS) (o : Nat) (a1 : Int32) (a2 : Int32)  : Nat → Int32 → Int32 → Int32 → Option Int32
  | 0, _, _, _ => none
  | n8 + 1, x3, x4, x5 => (if zTg st o ∈ [21] then (Option.bind (zR st o 0) (fun b2 => (if zTg st b2 ∈ [12] then (Option.bind (zR st b2 2) (fun b4 => (if zTg st b4 ∈ [16] then (if (zM st b4 0) ≤ x5 then (some x3) else (Option.bind (f_X2_signAt N st b2 x5) (fun r7 => (if r7 < a1 then (f_X11_nextWhere_52 N st o a1 a2 (f_X11_nextWhere_8 N st o a1 a2 n8) x3 x4 x5 r7) else (if r7 = a1 then (if x5 ≤ a2 then (f_X11_nextWhere_56 N st o a1 a2 (f_X11_nextWhere_8 N st o a1 a2 n8) x3 x4 x5 r7) else (f_X11_nextWhere_52 N st o a1 a2 (f_X11_nextWhere_8 N st o a1 a2 n8) x3 x4 x5 r7)) else (f_X11_nextWhere_56 N st o a1 a2 (f_X11_nextWhere_8 N st o a1 a2 n8) x3 x4 x5 r7)))))) else none))) else none))) else none)
def f_X11_nextWhere (N : Nat) (st : zS) (o : Nat) (a1 : Int32) (a2 : Int32) : Option Int32 := (f_X11_nextWhere_8 N st o a1 a2 N (-1 : Int32) (-1 : Int32) (nI 0))
set_option maxHeartbeats 1000000 in
set_option maxRecDepth 100000 in
theorem c_X11_nextWhere (l : Launch) (G : zG) (N : Nat) (st : zS) (o : Nat) (a1 : Int32) (a2 : Int32) {r : Int32} (h : f_X11_nextWhere N st o a1 a2 = some r) : zMet l G yX11_nextWhere cX11_nextWhere 8 (some .int) 5 0 0 [.ref (G.2.2.2 + o), .int a1, .int a2] st (some (.int r)) st := by
  refine zMet_of (by decide +kernel) ?_
  intro p e s m args below meth c X
  obtain ⟨hx, hb, hr, hml, hown, hq, hlk, hK, -, hin, hW, hS⟩ := X
  have hown : s.vm.findClass RX11 = some m.cls := hown
  refine z_ent (by exact Nat.le_of_ble_eq_true rfl) (fun ls hl => ?_)
  have hl : lv_has ls 8 [(0, .ref (G.2.2.2 + o)), (1, .int a1), (2, .int a2)] := hl
  unfold f_X11_nextWhere at h
  have B8 : ∀ (n8 : Nat) (x3 : Int32) (x4 : Int32) (x5 : Int32) (H : Heap) (locs : List Loc) (ls : Array Slot), f_X11_nextWhere_8 N st o a1 a2 n8 x3 x4 x5 = some r → zWd G st H → va_S (zA G) s.heap H locs → lv_has ls 8 [(0, .ref (G.2.2.2 + o)), (1, .int a1), (2, .int a2), (3, .int x3), (4, .int x4), (5, .int x5)] → W p l e (zRm 5 0 0) s m args below meth c H locs 0 0 (MQ below (zQ G (some (.int r)) st) args s 0 0 (zA G)) (F0 m 8 ls []) := by
    intro n8
    induction n8 with
    | zero =>
      intro x3 x4 x5 H locs ls h
      unfold f_X11_nextWhere_8 at h
      cases h
    | succ n8 ih8 =>
      have B78 : ∀ (x3 : Int32) (x4 : Int32) (x5 : Int32) (H : Heap) (locs : List Loc) (ls : Array Slot), f_X11_nextWhere_78 N st o a1 a2 (f_X11_nextWhere_8 N st o a1 a2 n8) x3 x4 x5 = some r → zWd G st H → va_S (zA G) s.heap H locs → lv_has ls 8 [(0, .ref (G.2.2.2 + o)), (1, .int a1), (2, .int a2), (3, .int x3), (4, .int x4), (5, .int x5)] → W p l e (zRm 5 0 0) s m args below meth c H locs 0 0 (MQ below (zQ G (some (.int r)) st) args s 0 0 (zA G)) (F0 m 78 ls []) := by
        intro x3 x4 x5 H locs ls h hW hS hl
        unfold f_X11_nextWhere_78 at h
        refine lv_iinc (v := (x5 + (nI 1))) (lv' := [(5, .int ((x5 + (nI 1)))), (0, .ref (G.2.2.2 + o)), (1, .int a1), (2, .int a2), (3, .int x3), (4, .int x4)]) hx hb dX11_nextWhere_78 hl (k := 5) rfl rfl (by decide) rfl (fun ls hl => ?_)
        refine lv_goto (tgt := 8) hx hb dX11_nextWhere_81 (by decide) ?_
        exact ih8 x3 x4 (x5 + (nI 1)) _ _ _ h hW hS (lv_sub hl [1, 2, 3, 4, 5, 0] rfl)
      have B57 : ∀ (x3 : Int32) (x4 : Int32) (x5 : Int32) (x6 : Int32) (y0 : Int32) (H : Heap) (locs : List Loc) (ls : Array Slot), f_X11_nextWhere_57 N st o a1 a2 (f_X11_nextWhere_8 N st o a1 a2 n8) x3 x4 x5 x6 y0 = some r → zWd G st H → va_S (zA G) s.heap H locs → lv_has ls 8 [(0, .ref (G.2.2.2 + o)), (1, .int a1), (2, .int a2), (3, .int x3), (4, .int x4), (5, .int x5), (6, .int x6)] → W p l e (zRm 5 0 0) s m args below meth c H locs 0 0 (MQ below (zQ G (some (.int r)) st) args s 0 0 (zA G)) (F0 m 57 ls [.int y0]) := by
        intro x3 x4 x5 x6 y0 H locs ls h hW hS hl
        unfold f_X11_nextWhere_57 at h
        refine lv_istore (lv' := [(7, .int y0), (0, .ref (G.2.2.2 + o)), (1, .int a1), (2, .int a2), (3, .int x3), (4, .int x4), (5, .int x5), (6, .int x6)]) hx hb dX11_nextWhere_57 hl (by decide) rfl (fun ls hl => ?_)
        refine lv_iload hx hb dX11_nextWhere_59 (lv_at hl 0 rfl) ?_
        refine z_br (lv_if_eq (tgt := 78) hx hb dX11_nextWhere_61 (by decide)) h (fun h => ?_) (fun h => ?_)
        · exact B78 x3 x4 x5 _ _ _ h hW hS (lv_sub hl [1, 2, 3, 4, 5, 6] rfl)
        · refine lv_iload hx hb dX11_nextWhere_64 (lv_at hl 7 rfl) ?_
          refine lv_iload hx hb dX11_nextWhere_66 (lv_at hl 5 rfl) ?_
          refine z_br (lv_icmp_le (tgt := 78) hx hb dX11_nextWhere_68 (by decide)) h (fun h => ?_) (fun h => ?_)
          · exact B78 x3 x4 x5 _ _ _ h hW hS (lv_sub hl [1, 2, 3, 4, 5, 6] rfl)
          · refine lv_iload hx hb dX11_nextWhere_71 (lv_at hl 6 rfl) ?_
            refine lv_istore_n (lv' := [(3, .int x5), (7, .int y0), (0, .ref (G.2.2.2 + o)), (1, .int a1), (2, .int a2), (4, .int x4), (5, .int x5), (6, .int x6)]) hx hb dX11_nextWhere_73 rfl hl (by decide) rfl (fun ls hl => ?_)
            refine lv_iload hx hb dX11_nextWhere_74 (lv_at hl 7 rfl) ?_
            refine lv_istore (lv' := [(4, .int x6), (3, .int x5), (7, .int y0), (0, .ref (G.2.2.2 + o)), (1, .int a1), (2, .int a2), (5, .int x5), (6, .int x6)]) hx hb dX11_nextWhere_76 hl (by decide) rfl (fun ls hl => ?_)
            exact B78 x5 x6 x5 _ _ _ h hW hS (lv_sub hl [3, 4, 5, 1, 0, 6] rfl)
      have B52 : ∀ (x3 : Int32) (x4 : Int32) (x5 : Int32) (x6 : Int32) (H : Heap) (locs : List Loc) (ls : Array Slot), f_X11_nextWhere_52 N st o a1 a2 (f_X11_nextWhere_8 N st o a1 a2 n8) x3 x4 x5 x6 = some r → zWd G st H → va_S (zA G) s.heap H locs → lv_has ls 8 [(0, .ref (G.2.2.2 + o)), (1, .int a1), (2, .int a2), (3, .int x3), (4, .int x4), (5, .int x5), (6, .int x6)] → W p l e (zRm 5 0 0) s m args below meth c H locs 0 0 (MQ below (zQ G (some (.int r)) st) args s 0 0 (zA G)) (F0 m 52 ls []) := by
        intro x3 x4 x5 x6 H locs ls h hW hS hl
        unfold f_X11_nextWhere_52 at h
        refine lv_iconst (v := (nI 1)) hx hb dX11_nextWhere_52 (by decide) ?_
        refine lv_goto (tgt := 57) hx hb dX11_nextWhere_53 (by decide) ?_
        exact B57 x3 x4 x5 x6 (nI 1) _ _ _ h hW hS (lv_sub hl [0, 1, 2, 3, 4, 5, 6] rfl)
      have B56 : ∀ (x3 : Int32) (x4 : Int32) (x5 : Int32) (x6 : Int32) (H : Heap) (locs : List Loc) (ls : Array Slot), f_X11_nextWhere_56 N st o a1 a2 (f_X11_nextWhere_8 N st o a1 a2 n8) x3 x4 x5 x6 = some r → zWd G st H → va_S (zA G) s.heap H locs → lv_has ls 8 [(0, .ref (G.2.2.2 + o)), (1, .int a1), (2, .int a2), (3, .int x3), (4, .int x4), (5, .int x5), (6, .int x6)] → W p l e (zRm 5 0 0) s m args below meth c H locs 0 0 (MQ below (zQ G (some (.int r)) st) args s 0 0 (zA G)) (F0 m 56 ls []) := by
        intro x3 x4 x5 x6 H locs ls h hW hS hl
        unfold f_X11_nextWhere_56 at h
        refine lv_iconst (v := (nI 0)) hx hb dX11_nextWhere_56 (by decide) ?_
        exact B57 x3 x4 x5 x6 (nI 0) _ _ _ h hW hS (lv_sub hl [0, 1, 2, 3, 4, 5, 6] rfl)
      intro x3 x4 x5 H locs ls h hW hS hl
      unfold f_X11_nextWhere_8 at h
      refine lv_iload hx hb dX11_nextWhere_8 (lv_at hl 5 rfl) ?_
      refine lv_aload_n hx hb dX11_nextWhere_10 rfl (lv_at hl 0 rfl) ?_
      obtain ⟨t1, h⟩ := zc_at h
      obtain ⟨b2, hb2, h⟩ := zd_at h
      refine z_gR hx hb hq hown hK hW fs_RX11_12 t1 hb2 dX11_nextWhere_11 ?_
      obtain ⟨t3, h⟩ := zc_at h
      obtain ⟨b4, hb4, h⟩ := zd_at h
      refine z_gR hx hb hq hown hK hW fs_RX11_56 t3 hb4 dX11_nextWhere_14 ?_
      obtain ⟨t5, h⟩ := zc_at h
      refine z_gI hx hb hq hown hK hW fs_RX11_140 t5 dX11_nextWhere_17 ?_
      refine z_br (lv_icmp_ge (tgt := 84) hx hb dX11_nextWhere_20 (by decide)) h (fun h => ?_) (fun h => ?_)
      · refine lv_iload_n hx hb dX11_nextWhere_84 rfl (lv_at hl 3 rfl) ?_
        obtain rfl := Option.some.inj h
        exact z_ri hx hb hr hlk hW hS (Nat.le_of_ble_eq_true rfl) (Nat.le_of_ble_eq_true rfl) dX11_nextWhere_85
      · refine lv_aload_n hx hb dX11_nextWhere_23 rfl (lv_at hl 0 rfl) ?_
        refine z_gR hx hb hq hown hK hW fs_RX11_12 t1 hb2 dX11_nextWhere_24 ?_
        refine lv_iload hx hb dX11_nextWhere_27 (lv_at hl 5 rfl) ?_
        obtain ⟨r7, c6, h⟩ := zd_at h
        refine z_cV hx hb hq hml hown hK hW hS 2 [.int x5] [] rfl (List.mem_singleton.mp t3) (c_X2_signAt l G N st b2 x5 c6) (zi zm592) (zi zm593) (zi zm594) (zi zm14) (zi zm595) cal_X2_signAt rfl rfl hl.1 rfl (Nat.le_of_ble_eq_true rfl) (zR_ok (by omega) (by decide)) ⟨(Nat.le_of_ble_eq_true rfl), (Nat.le_of_ble_eq_true rfl)⟩ dX11_nextWhere_29 (fun H locs hW hS => ?_)
        refine W.eq (g2 := F0 m 32 ls [.int r7]) rfl ?_
        refine lv_istore (lv' := [(6, .int r7), (0, .ref (G.2.2.2 + o)), (1, .int a1), (2, .int a2), (3, .int x3), (4, .int x4), (5, .int x5)]) hx hb dX11_nextWhere_32 hl (by decide) rfl (fun ls hl => ?_)
        refine lv_iload hx hb dX11_nextWhere_34 (lv_at hl 0 rfl) ?_
        refine lv_iload_n hx hb dX11_nextWhere_36 rfl (lv_at hl 2 rfl) ?_
        refine z_br (lv_icmp_lt (tgt := 52) hx hb dX11_nextWhere_37 (by decide)) h (fun h => ?_) (fun h => ?_)
        · exact B52 x3 x4 x5 r7 _ _ _ h hW hS (lv_sub hl [1, 2, 3, 4, 5, 6, 0] rfl)
        · refine lv_iload hx hb dX11_nextWhere_40 (lv_at hl 0 rfl) ?_
          refine lv_iload_n hx hb dX11_nextWhere_42 rfl (lv_at hl 2 rfl) ?_
          refine z_brn (lv_icmp_ne (tgt := 56) hx hb dX11_nextWhere_43 (by decide)) h (fun h => ?_) (fun h => ?_)
          · exact B56 x3 x4 x5 r7 _ _ _ h hW hS (lv_sub hl [1, 2, 3, 4, 5, 6, 0] rfl)
          · refine lv_iload hx hb dX11_nextWhere_46 (lv_at hl 6 rfl) ?_
            refine lv_iload_n hx hb dX11_nextWhere_48 rfl (lv_at hl 3 rfl) ?_
            refine z_br (lv_icmp_le (tgt := 56) hx hb dX11_nextWhere_49 (by decide)) h (fun h => ?_) (fun h => ?_)
            · exact B56 x3 x4 x5 r7 _ _ _ h hW hS (lv_sub hl [1, 2, 3, 4, 5, 6, 0] rfl)
            · exact B52 x3 x4 x5 r7 _ _ _ h hW hS (lv_sub hl [1, 2, 3, 4, 5, 6, 0] rfl)
  refine lv_iconst (v := (-1)) hx hb dX11_nextWhere_0 (by decide) ?_
  refine lv_istore_n (lv' := [(3, .int ((-1))), (0, .ref (G.2.2.2 + o)), (1, .int a1), (2, .int a2)]) hx hb dX11_nextWhere_1 rfl hl (by decide) rfl (fun ls hl => ?_)
  refine lv_iconst (v := (-1)) hx hb dX11_nextWhere_2 (by decide) ?_
  refine lv_istore (lv' := [(4, .int ((-1))), (3, .int ((-1))), (0, .ref (G.2.2.2 + o)), (1, .int a1), (2, .int a2)]) hx hb dX11_nextWhere_3 hl (by decide) rfl (fun ls hl => ?_)
  refine lv_iconst (v := (nI 0)) hx hb dX11_nextWhere_5 (by decide) ?_
  refine lv_istore (lv' := [(5, .int ((nI 0))), (4, .int ((-1))), (3, .int ((-1))), (0, .ref (G.2.2.2 + o)), (1, .int a1), (2, .int a2)]) hx hb dX11_nextWhere_6 hl (by decide) rfl (fun ls hl => ?_)
  exact B8 N (-1 : Int32) (-1 : Int32) (nI 0) _ _ _ h hW hS (lv_sub hl [3, 4, 5, 2, 1, 0] rfl)
def f_X11_where_42 (N : Nat) (st : zS) (o : Nat) (a1 : Int32)  : Nat → Int32 → Int32 → Int32 → Option Int32
  | 0, _, _, _ => none
  | n42 + 1, x2, x3, x4 => (if a1 < x4 then (some x3) else (if zTg st o ∈ [21] then (Option.bind (f_X11_nextWhere N st o x2 x3) (fun r8 => (Option.bind (zR st o 0) (fun b9 => (if zTg st b9 ∈ [12] then (Option.bind (f_X2_signAt N st b9 r8) (fun r12 => ((f_X11_where_42 N st o a1 n42) r12 r8 (x4 + (nI 1))))) else none))))) else none))
def f_X11_where (N : Nat) (st : zS) (o : Nat) (a1 : Int32) : Option Int32 := (if a1 < 0 then (some (-1 : Int32)) else (if zTg st o ∈ [21] then (Option.bind (zR st o 0) (fun b2 => (if zTg st b2 ∈ [12] then (Option.bind (zR st b2 2) (fun b4 => (if zTg st b4 ∈ [16] then (if (zM st b4 1) ≤ a1 then (some (-1 : Int32)) else (if a1 < (zM st b4 0) then (f_X11_where_42 N st o a1 N (nI 101) (-1 : Int32) (nI 0)) else (some (-1 : Int32)))) else none))) else none))) else none))
set_option maxHeartbeats 1000000 in
set_option maxRecDepth 100000 in
theorem c_X11_where (l : Launch) (G : zG) (N : Nat) (st : zS) (o : Nat) (a1 : Int32) {r : Int32} (h : f_X11_where N st o a1 = some r) : zMet l G yX11_where cX11_where 5 (some .int) 6 0 0 [.ref (G.2.2.2 + o), .int a1] st (some (.int r)) st := by
  refine zMet_of (by decide +kernel) ?_
  intro p e s m args below meth c X
  obtain ⟨hx, hb, hr, hml, hown, hq, hlk, hK, -, hin, hW, hS⟩ := X
  have hown : s.vm.findClass RX11 = some m.cls := hown
  refine z_ent (by exact Nat.le_of_ble_eq_true rfl) (fun ls hl => ?_)
  have hl : lv_has ls 5 [(0, .ref (G.2.2.2 + o)), (1, .int a1)] := hl
  unfold f_X11_where at h
  have B42 : ∀ (n42 : Nat) (x2 : Int32) (x3 : Int32) (x4 : Int32) (H : Heap) (locs : List Loc) (ls : Array Slot), f_X11_where_42 N st o a1 n42 x2 x3 x4 = some r → zWd G st H → va_S (zA G) s.heap H locs → lv_has ls 5 [(0, .ref (G.2.2.2 + o)), (1, .int a1), (2, .int x2), (3, .int x3), (4, .int x4)] → W p l e (zRm 6 0 0) s m args below meth c H locs 0 0 (MQ below (zQ G (some (.int r)) st) args s 0 0 (zA G)) (F0 m 42 ls []) := by
    intro n42
    induction n42 with
    | zero =>
      intro x2 x3 x4 H locs ls h
      unfold f_X11_where_42 at h
      cases h
    | succ n42 ih42 =>
      intro x2 x3 x4 H locs ls h hW hS hl
      unfold f_X11_where_42 at h
      refine lv_iload hx hb dX11_where_42 (lv_at hl 4 rfl) ?_
      refine lv_iload_n hx hb dX11_where_44 rfl (lv_at hl 1 rfl) ?_
      refine z_br (lv_icmp_gt (tgt := 70) hx hb dX11_where_45 (by decide)) h (fun h => ?_) (fun h => ?_)
      · refine lv_iload_n hx hb dX11_where_70 rfl (lv_at hl 3 rfl) ?_
        obtain rfl := Option.some.inj h
        exact z_ri hx hb hr hlk hW hS (Nat.le_of_ble_eq_true rfl) (Nat.le_of_ble_eq_true rfl) dX11_where_71
      · refine lv_aload_n hx hb dX11_where_48 rfl (lv_at hl 0 rfl) ?_
        refine lv_iload_n hx hb dX11_where_49 rfl (lv_at hl 2 rfl) ?_
        refine lv_iload_n hx hb dX11_where_50 rfl (lv_at hl 3 rfl) ?_
        obtain ⟨t6, h⟩ := zc_at h
        obtain ⟨r8, c7, h⟩ := zd_at h
        refine z_cV hx hb hq hml hown hK hW hS 11 [.int x2, .int x3] [] rfl (List.mem_singleton.mp t6) (c_X11_nextWhere l G N st o x2 x3 c7) (zi zm838) (zi zm839) (zi zm840) (zi zm2) (zi zm841) cal_X11_nextWhere rfl rfl hl.1 rfl (Nat.le_of_ble_eq_true rfl) (zR_ok (by omega) (by decide)) ⟨(Nat.le_of_ble_eq_true rfl), (Nat.le_of_ble_eq_true rfl)⟩ dX11_where_51 (fun H locs hW hS => ?_)
        refine W.eq (g2 := F0 m 54 ls [.int r8]) rfl ?_
        refine lv_istore_n (lv' := [(3, .int r8), (0, .ref (G.2.2.2 + o)), (1, .int a1), (2, .int x2), (4, .int x4)]) hx hb dX11_where_54 rfl hl (by decide) rfl (fun ls hl => ?_)
        refine lv_aload_n hx hb dX11_where_55 rfl (lv_at hl 1 rfl) ?_
        obtain ⟨b9, hb9, h⟩ := zd_at h
        refine z_gR hx hb hq hown hK hW fs_RX11_12 t6 hb9 dX11_where_56 ?_
        refine lv_iload_n hx hb dX11_where_59 rfl (lv_at hl 0 rfl) ?_
        obtain ⟨t10, h⟩ := zc_at h
        obtain ⟨r12, c11, h⟩ := zd_at h
        refine z_cV hx hb hq hml hown hK hW hS 2 [.int r8] [] rfl (List.mem_singleton.mp t10) (c_X2_signAt l G N st b9 r8 c11) (zi zm592) (zi zm593) (zi zm594) (zi zm14) (zi zm595) cal_X2_signAt rfl rfl hl.1 rfl (Nat.le_of_ble_eq_true rfl) (zR_ok (by omega) (by decide)) ⟨(Nat.le_of_ble_eq_true rfl), (Nat.le_of_ble_eq_true rfl)⟩ dX11_where_60 (fun H locs hW hS => ?_)
        refine W.eq (g2 := F0 m 63 ls [.int r12]) rfl ?_
        refine lv_istore_n (lv' := [(2, .int r12), (3, .int r8), (0, .ref (G.2.2.2 + o)), (1, .int a1), (4, .int x4)]) hx hb dX11_where_63 rfl hl (by decide) rfl (fun ls hl => ?_)
        refine lv_iinc (v := (x4 + (nI 1))) (lv' := [(4, .int ((x4 + (nI 1)))), (2, .int r12), (3, .int r8), (0, .ref (G.2.2.2 + o)), (1, .int a1)]) hx hb dX11_where_64 hl (k := 4) rfl rfl (by decide) rfl (fun ls hl => ?_)
        refine lv_goto (tgt := 42) hx hb dX11_where_67 (by decide) ?_
        exact ih42 r12 r8 (x4 + (nI 1)) _ _ _ h hW hS (lv_sub hl [3, 4, 1, 2, 0] rfl)
  refine lv_iload_n hx hb dX11_where_0 rfl (lv_at hl 1 rfl) ?_
  refine z_br (lv_if_lt (tgt := 32) hx hb dX11_where_1 (by decide)) h (fun h => ?_) (fun h => ?_)
  · refine lv_iconst (v := (-1)) hx hb dX11_where_32 (by decide) ?_
    obtain rfl := Option.some.inj h
    exact z_ri hx hb hr hlk hW hS (Nat.le_of_ble_eq_true rfl) (Nat.le_of_ble_eq_true rfl) dX11_where_33
  · refine lv_iload_n hx hb dX11_where_4 rfl (lv_at hl 1 rfl) ?_
    refine lv_aload_n hx hb dX11_where_5 rfl (lv_at hl 0 rfl) ?_
    obtain ⟨t1, h⟩ := zc_at h
    obtain ⟨b2, hb2, h⟩ := zd_at h
    refine z_gR hx hb hq hown hK hW fs_RX11_12 t1 hb2 dX11_where_6 ?_
    obtain ⟨t3, h⟩ := zc_at h
    obtain ⟨b4, hb4, h⟩ := zd_at h
    refine z_gR hx hb hq hown hK hW fs_RX11_56 t3 hb4 dX11_where_9 ?_
    obtain ⟨t5, h⟩ := zc_at h
    refine z_gI hx hb hq hown hK hW fs_RX11_143 t5 dX11_where_12 ?_
    refine z_br (lv_icmp_ge (tgt := 32) hx hb dX11_where_15 (by decide)) h (fun h => ?_) (fun h => ?_)
    · refine lv_iconst (v := (-1)) hx hb dX11_where_32 (by decide) ?_
      obtain rfl := Option.some.inj h
      exact z_ri hx hb hr hlk hW hS (Nat.le_of_ble_eq_true rfl) (Nat.le_of_ble_eq_true rfl) dX11_where_33
    · refine lv_iload_n hx hb dX11_where_18 rfl (lv_at hl 1 rfl) ?_
      refine lv_aload_n hx hb dX11_where_19 rfl (lv_at hl 0 rfl) ?_
      refine z_gR hx hb hq hown hK hW fs_RX11_12 t1 hb2 dX11_where_20 ?_
      refine z_gR hx hb hq hown hK hW fs_RX11_56 t3 hb4 dX11_where_23 ?_
      refine z_gI hx hb hq hown hK hW fs_RX11_140 t5 dX11_where_26 ?_
      refine z_br (lv_icmp_lt (tgt := 34) hx hb dX11_where_29 (by decide)) h (fun h => ?_) (fun h => ?_)
      · refine lv_bipush (v := (nI 101)) hx hb dX11_where_34 (by decide) ?_
        refine lv_istore_n (lv' := [(2, .int ((nI 101))), (0, .ref (G.2.2.2 + o)), (1, .int a1)]) hx hb dX11_where_36 rfl hl (by decide) rfl (fun ls hl => ?_)
        refine lv_iconst (v := (-1)) hx hb dX11_where_37 (by decide) ?_
        refine lv_istore_n (lv' := [(3, .int ((-1))), (2, .int ((nI 101))), (0, .ref (G.2.2.2 + o)), (1, .int a1)]) hx hb dX11_where_38 rfl hl (by decide) rfl (fun ls hl => ?_)
        refine lv_iconst (v := (nI 0)) hx hb dX11_where_39 (by decide) ?_
        refine lv_istore (lv' := [(4, .int ((nI 0))), (3, .int ((-1))), (2, .int ((nI 101))), (0, .ref (G.2.2.2 + o)), (1, .int a1)]) hx hb dX11_where_40 hl (by decide) rfl (fun ls hl => ?_)
        exact B42 N (nI 101) (-1 : Int32) (nI 0) _ _ _ h hW hS (lv_sub hl [3, 4, 2, 1, 0] rfl)
      · refine lv_iconst (v := (-1)) hx hb dX11_where_32 (by decide) ?_
        obtain rfl := Option.some.inj h
        exact z_ri hx hb hr hlk hW hS (Nat.le_of_ble_eq_true rfl) (Nat.le_of_ble_eq_true rfl) dX11_where_33
def f_X11_left_76 (N : Nat) (st : zS) (o : Nat) (k40 : Int32 → Int32 → Option Int32) (x1 : Int32) (x2 : Int32) : Option Int32 := (k40 x1 (x2 + (nI 1)))
def f_X11_left_40 (N : Nat) (st : zS) (o : Nat)  : Nat → Int32 → Int32 → Option Int32
  | 0, _, _ => none
  | n40 + 1, x1, x2 => (if zTg st o ∈ [21] then (Option.bind (zR st o 0) (fun b14 => (if zTg st b14 ∈ [12] then (Option.bind (f_X2_placeCount st b14) (fun r17 => (if r17 ≤ x2 then (some x1) else (Option.bind (zR st b14 5) (fun b18 => (Option.bind (f_X2_placeAt st b14 x2) (fun r20 => (if zTg st b18 ∈ [15] then (Option.bind (f_X5_get st b18 r20) (fun r23 => (if r23 = (-1 : Int32) then (f_X11_left_76 N st o (f_X11_left_40 N st o n40) x1 x2) else (f_X11_left_76 N st o (f_X11_left_40 N st o n40) (x1 + (-1)) x2)))) else none)))))))) else none))) else none)
def f_X11_left (N : Nat) (st : zS) (o : Nat) : Option Int32 := (if zTg st o ∈ [21] then (Option.bind (zR st o 0) (fun b2 => (if zTg st b2 ∈ [12] then (Option.bind (zR st b2 2) (fun b4 => (if zTg st b4 ∈ [16] then (if (zM st b4 2) = 0 then (Option.bind (zR st b2 5) (fun b6 => (if zTg st b6 ∈ [15] then (Option.bind (f_X5_size st b6) (fun r9 => (Option.bind (f_X5_timesOf N st b6 (-1 : Int32)) (fun r11 => (zl (r9 - r11) (fun v12 => (f_X11_left_40 N st o N v12 (nI 0)))))))) else none))) else (some (nI 0))) else none))) else none))) else none)
set_option maxHeartbeats 1000000 in
set_option maxRecDepth 100000 in
theorem c_X11_left (l : Launch) (G : zG) (N : Nat) (st : zS) (o : Nat) {r : Int32} (h : f_X11_left N st o = some r) : zMet l G yX11_left cX11_left 3 (some .int) 2 0 0 [.ref (G.2.2.2 + o)] st (some (.int r)) st := by
  refine zMet_of (by decide +kernel) ?_
  intro p e s m args below meth c X
  obtain ⟨hx, hb, hr, hml, hown, hq, hlk, hK, -, hin, hW, hS⟩ := X
  have hown : s.vm.findClass RX11 = some m.cls := hown
  refine z_ent (by exact Nat.le_of_ble_eq_true rfl) (fun ls hl => ?_)
  have hl : lv_has ls 3 [(0, .ref (G.2.2.2 + o))] := hl
  unfold f_X11_left at h
  have B40 : ∀ (n40 : Nat) (x1 : Int32) (x2 : Int32) (H : Heap) (locs : List Loc) (ls : Array Slot), f_X11_left_40 N st o n40 x1 x2 = some r → zWd G st H → va_S (zA G) s.heap H locs → lv_has ls 3 [(0, .ref (G.2.2.2 + o)), (1, .int x1), (2, .int x2)] → W p l e (zRm 2 0 0) s m args below meth c H locs 0 0 (MQ below (zQ G (some (.int r)) st) args s 0 0 (zA G)) (F0 m 40 ls []) := by
    intro n40
    induction n40 with
    | zero =>
      intro x1 x2 H locs ls h
      unfold f_X11_left_40 at h
      cases h
    | succ n40 ih40 =>
      have B76 : ∀ (x1 : Int32) (x2 : Int32) (H : Heap) (locs : List Loc) (ls : Array Slot), f_X11_left_76 N st o (f_X11_left_40 N st o n40) x1 x2 = some r → zWd G st H → va_S (zA G) s.heap H locs → lv_has ls 3 [(0, .ref (G.2.2.2 + o)), (1, .int x1), (2, .int x2)] → W p l e (zRm 2 0 0) s m args below meth c H locs 0 0 (MQ below (zQ G (some (.int r)) st) args s 0 0 (zA G)) (F0 m 76 ls []) := by
        intro x1 x2 H locs ls h hW hS hl
        unfold f_X11_left_76 at h
        refine lv_iinc (v := (x2 + (nI 1))) (lv' := [(2, .int ((x2 + (nI 1)))), (0, .ref (G.2.2.2 + o)), (1, .int x1)]) hx hb dX11_left_76 hl (k := 2) rfl rfl (by decide) rfl (fun ls hl => ?_)
        refine lv_goto (tgt := 40) hx hb dX11_left_79 (by decide) ?_
        exact ih40 x1 (x2 + (nI 1)) _ _ _ h hW hS (lv_sub hl [1, 2, 0] rfl)
      intro x1 x2 H locs ls h hW hS hl
      unfold f_X11_left_40 at h
      refine lv_iload_n hx hb dX11_left_40 rfl (lv_at hl 2 rfl) ?_
      refine lv_aload_n hx hb dX11_left_41 rfl (lv_at hl 0 rfl) ?_
      obtain ⟨t13, h⟩ := zc_at h
      obtain ⟨b14, hb14, h⟩ := zd_at h
      refine z_gR hx hb hq hown hK hW fs_RX11_12 t13 hb14 dX11_left_42 ?_
      obtain ⟨t15, h⟩ := zc_at h
      obtain ⟨r17, c16, h⟩ := zd_at h
      refine z_cV hx hb hq hml hown hK hW hS 2 [] [.int x2] rfl (List.mem_singleton.mp t15) (c_X2_placeCount l G st b14 c16) (zi zm643) (zi zm644) (zi zm645) (zi zm14) (zi zm646) cal_X2_placeCount rfl rfl hl.1 rfl (Nat.le_of_ble_eq_true rfl) (zR_ok (by omega) (by decide)) ⟨(Nat.le_of_ble_eq_true rfl), (Nat.le_of_ble_eq_true rfl)⟩ dX11_left_45 (fun H locs hW hS => ?_)
      refine W.eq (g2 := F0 m 48 ls [.int r17, .int x2]) rfl ?_
      refine z_br (lv_icmp_ge (tgt := 82) hx hb dX11_left_48 (by decide)) h (fun h => ?_) (fun h => ?_)
      · refine lv_iload_n hx hb dX11_left_82 rfl (lv_at hl 1 rfl) ?_
        obtain rfl := Option.some.inj h
        exact z_ri hx hb hr hlk hW hS (Nat.le_of_ble_eq_true rfl) (Nat.le_of_ble_eq_true rfl) dX11_left_83
      · refine lv_aload_n hx hb dX11_left_51 rfl (lv_at hl 0 rfl) ?_
        refine z_gR hx hb hq hown hK hW fs_RX11_12 t13 hb14 dX11_left_52 ?_
        obtain ⟨b18, hb18, h⟩ := zd_at h
        refine z_gR hx hb hq hown hK hW fs_RX11_89 t15 hb18 dX11_left_55 ?_
        refine lv_aload_n hx hb dX11_left_58 rfl (lv_at hl 0 rfl) ?_
        refine z_gR hx hb hq hown hK hW fs_RX11_12 t13 hb14 dX11_left_59 ?_
        refine lv_iload_n hx hb dX11_left_62 rfl (lv_at hl 2 rfl) ?_
        obtain ⟨r20, c19, h⟩ := zd_at h
        refine z_cV hx hb hq hml hown hK hW hS 2 [.int x2] [.ref (G.2.2.2 + b18)] rfl (List.mem_singleton.mp t15) (c_X2_placeAt l G st b14 x2 c19) (zi zm651) (zi zm652) (zi zm653) (zi zm14) (zi zm654) cal_X2_placeAt rfl rfl hl.1 rfl (Nat.le_of_ble_eq_true rfl) (zR_ok (by omega) (by decide)) ⟨(Nat.le_of_ble_eq_true rfl), (Nat.le_of_ble_eq_true rfl)⟩ dX11_left_63 (fun H locs hW hS => ?_)
        refine W.eq (g2 := F0 m 66 ls [.int r20, .ref (G.2.2.2 + b18)]) rfl ?_
        obtain ⟨t21, h⟩ := zc_at h
        obtain ⟨r23, c22, h⟩ := zd_at h
        refine z_cV hx hb hq hml hown hK hW hS 5 [.int r20] [] rfl (List.mem_singleton.mp t21) (c_X5_get l G st b18 r20 c22) (zi zm619) (zi zm109) (zi zm110) (zi zm32) (zi zm111) cal_X5_get rfl rfl hl.1 rfl (Nat.le_of_ble_eq_true rfl) (zR_ok (by omega) (by decide)) ⟨(Nat.le_of_ble_eq_true rfl), (Nat.le_of_ble_eq_true rfl)⟩ dX11_left_66 (fun H locs hW hS => ?_)
        refine W.eq (g2 := F0 m 69 ls [.int r23]) rfl ?_
        refine lv_iconst (v := (-1)) hx hb dX11_left_69 (by decide) ?_
        refine z_br (lv_icmp_eq (tgt := 76) hx hb dX11_left_70 (by decide)) h (fun h => ?_) (fun h => ?_)
        · exact B76 x1 x2 _ _ _ h hW hS (lv_sub hl [0, 1, 2] rfl)
        · refine lv_iinc (v := (x1 + (-1))) (lv' := [(1, .int ((x1 + (-1)))), (0, .ref (G.2.2.2 + o)), (2, .int x2)]) hx hb dX11_left_73 hl (k := 1) rfl rfl (by decide) rfl (fun ls hl => ?_)
          exact B76 (x1 + (-1)) x2 _ _ _ h hW hS (lv_sub hl [1, 0, 2] rfl)
  refine lv_aload_n hx hb dX11_left_0 rfl (lv_at hl 0 rfl) ?_
  obtain ⟨t1, h⟩ := zc_at h
  obtain ⟨b2, hb2, h⟩ := zd_at h
  refine z_gR hx hb hq hown hK hW fs_RX11_12 t1 hb2 dX11_left_1 ?_
  obtain ⟨t3, h⟩ := zc_at h
  obtain ⟨b4, hb4, h⟩ := zd_at h
  refine z_gR hx hb hq hown hK hW fs_RX11_56 t3 hb4 dX11_left_4 ?_
  obtain ⟨t5, h⟩ := zc_at h
  refine z_gI hx hb hq hown hK hW fs_RX11_146 t5 dX11_left_7 ?_
  refine z_br (lv_if_eq (tgt := 15) hx hb dX11_left_10 (by decide)) h (fun h => ?_) (fun h => ?_)
  · refine lv_aload_n hx hb dX11_left_15 rfl (lv_at hl 0 rfl) ?_
    refine z_gR hx hb hq hown hK hW fs_RX11_12 t1 hb2 dX11_left_16 ?_
    obtain ⟨b6, hb6, h⟩ := zd_at h
    refine z_gR hx hb hq hown hK hW fs_RX11_89 t3 hb6 dX11_left_19 ?_
    obtain ⟨t7, h⟩ := zc_at h
    obtain ⟨r9, c8, h⟩ := zd_at h
    refine z_cV hx hb hq hml hown hK hW hS 5 [] [] rfl (List.mem_singleton.mp t7) (c_X5_size l G st b6 c8) (zi zm82) (zi zm83) (zi zm84) (zi zm32) (zi zm85) cal_X5_size rfl rfl hl.1 rfl (Nat.le_of_ble_eq_true rfl) (zR_ok (by omega) (by decide)) ⟨(Nat.le_of_ble_eq_true rfl), (Nat.le_of_ble_eq_true rfl)⟩ dX11_left_22 (fun H locs hW hS => ?_)
    refine W.eq (g2 := F0 m 25 ls [.int r9]) rfl ?_
    refine lv_aload_n hx hb dX11_left_25 rfl (lv_at hl 0 rfl) ?_
    refine z_gR hx hb hq hown hK hW fs_RX11_12 t1 hb2 dX11_left_26 ?_
    refine z_gR hx hb hq hown hK hW fs_RX11_89 t3 hb6 dX11_left_29 ?_
    refine lv_iconst (v := (-1)) hx hb dX11_left_32 (by decide) ?_
    obtain ⟨r11, c10, h⟩ := zd_at h
    refine z_cV hx hb hq hml hown hK hW hS 5 [.int ((-1))] [.int r9] rfl (List.mem_singleton.mp t7) (c_X5_timesOf l G N st b6 (-1 : Int32) c10) (zi zm421) (zi zm422) (zi zm423) (zi zm32) (zi zm424) cal_X5_timesOf rfl rfl hl.1 rfl (Nat.le_of_ble_eq_true rfl) (zR_ok (by omega) (by decide)) ⟨(Nat.le_of_ble_eq_true rfl), (Nat.le_of_ble_eq_true rfl)⟩ dX11_left_33 (fun H locs hW hS => ?_)
    refine W.eq (g2 := F0 m 36 ls [.int r11, .int r9]) rfl ?_
    refine lv_isub hx hb dX11_left_36 ?_
    refine lv_topi (fun v12 ev12 => ?_)
    have h := zl_at ev12 h
    refine lv_istore_n (lv' := [(1, .int v12), (0, .ref (G.2.2.2 + o))]) hx hb dX11_left_37 rfl hl (by decide) rfl (fun ls hl => ?_)
    refine lv_iconst (v := (nI 0)) hx hb dX11_left_38 (by decide) ?_
    refine lv_istore_n (lv' := [(2, .int ((nI 0))), (1, .int v12), (0, .ref (G.2.2.2 + o))]) hx hb dX11_left_39 rfl hl (by decide) rfl (fun ls hl => ?_)
    exact B40 N v12 (nI 0) _ _ _ h hW hS (lv_sub hl [2, 1, 0] rfl)
  · refine lv_iconst (v := (nI 0)) hx hb dX11_left_13 (by decide) ?_
    obtain rfl := Option.some.inj h
    exact z_ri hx hb hr hlk hW hS (Nat.le_of_ble_eq_true rfl) (Nat.le_of_ble_eq_true rfl) dX11_left_14
def f_X11_longest_105 (N : Nat) (st : zS) (o : Nat) (a1 : Int32) (k19 : Int32 → Int32 → Int32 → Int32 → Option Int32) (x2 : Int32) (x3 : Int32) (x4 : Int32) (x5 : Int32) : Option Int32 := (k19 x2 x3 x4 (x5 + (nI 1)))
def f_X11_longest_80 (N : Nat) (st : zS) (o : Nat) (a1 : Int32) (k19 : Int32 → Int32 → Int32 → Int32 → Option Int32) (x2 : Int32) (x3 : Int32) (x5 : Int32) (x6 : Int32) (y0 : Int32) : Option Int32 := (if x6 = (-1 : Int32) then (f_X11_longest_105 N st o a1 k19 x2 x3 y0 x5) else (if y0 ≤ x2 then (f_X11_longest_105 N st o a1 k19 x2 x3 y0 x5) else (zl ((x5 - y0) + (nI 1)) (fun v12 => (f_X11_longest_105 N st o a1 k19 y0 v12 y0 x5)))))
def f_X11_longest_79 (N : Nat) (st : zS) (o : Nat) (a1 : Int32) (k19 : Int32 → Int32 → Int32 → Int32 → Option Int32) (x2 : Int32) (x3 : Int32) (x5 : Int32) (x6 : Int32) : Option Int32 := (f_X11_longest_80 N st o a1 k19 x2 x3 x5 x6 (nI 1))
def f_X11_longest_19 (N : Nat) (st : zS) (o : Nat) (a1 : Int32)  : Nat → Int32 → Int32 → Int32 → Int32 → Option Int32
  | 0, _, _, _, _ => none
  | n19 + 1, x2, x3, x4, x5 => (if zTg st o ∈ [21] then (Option.bind (zR st o 0) (fun b4 => (if zTg st b4 ∈ [12] then (Option.bind (zR st b4 5) (fun b6 => (if zTg st b6 ∈ [15] then (Option.bind (f_X5_size st b6) (fun r9 => (if r9 ≤ x5 then (if x2 = 0 then (some (-5 : Int32)) else (if a1 = 0 then (some x2) else (some x3))) else (Option.bind (f_X5_get st b6 x5) (fun r11 => (if x5 ≤ 0 then (f_X11_longest_79 N st o a1 (f_X11_longest_19 N st o a1 n19) x2 x3 x5 r11) else (Option.bind (f_X5_get st b6 (x5 - (nI 1))) (fun r14 => (if r14 = r11 then (f_X11_longest_80 N st o a1 (f_X11_longest_19 N st o a1 n19) x2 x3 x5 r11 (x4 + (nI 1))) else (f_X11_longest_79 N st o a1 (f_X11_longest_19 N st o a1 n19) x2 x3 x5 r11)))))))))) else none))) else none))) else none)
def f_X11_longest (N : Nat) (st : zS) (o : Nat) (a1 : Int32) : Option Int32 := (Option.bind (f_X11_isPart a1) (fun r2 => (if r2 = 0 then (some (-1 : Int32)) else (f_X11_longest_19 N st o a1 N (nI 0) (nI 0) (nI 0) (nI 0)))))
set_option maxHeartbeats 1000000 in
set_option maxRecDepth 100000 in
theorem c_X11_longest (l : Launch) (G : zG) (N : Nat) (st : zS) (o : Nat) (a1 : Int32) {r : Int32} (h : f_X11_longest N st o a1 = some r) : zMet l G yX11_longest cX11_longest 7 (some .int) 1 0 0 [.ref (G.2.2.2 + o), .int a1] st (some (.int r)) st := by
  refine zMet_of (by decide +kernel) ?_
  intro p e s m args below meth c X
  obtain ⟨hx, hb, hr, hml, hown, hq, hlk, hK, -, hin, hW, hS⟩ := X
  have hown : s.vm.findClass RX11 = some m.cls := hown
  refine z_ent (by exact Nat.le_of_ble_eq_true rfl) (fun ls hl => ?_)
  have hl : lv_has ls 7 [(0, .ref (G.2.2.2 + o)), (1, .int a1)] := hl
  unfold f_X11_longest at h
  have B19 : ∀ (n19 : Nat) (x2 : Int32) (x3 : Int32) (x4 : Int32) (x5 : Int32) (H : Heap) (locs : List Loc) (ls : Array Slot), f_X11_longest_19 N st o a1 n19 x2 x3 x4 x5 = some r → zWd G st H → va_S (zA G) s.heap H locs → lv_has ls 7 [(0, .ref (G.2.2.2 + o)), (1, .int a1), (2, .int x2), (3, .int x3), (4, .int x4), (5, .int x5)] → W p l e (zRm 1 0 0) s m args below meth c H locs 0 0 (MQ below (zQ G (some (.int r)) st) args s 0 0 (zA G)) (F0 m 19 ls []) := by
    intro n19
    induction n19 with
    | zero =>
      intro x2 x3 x4 x5 H locs ls h
      unfold f_X11_longest_19 at h
      cases h
    | succ n19 ih19 =>
      have B105 : ∀ (x2 : Int32) (x3 : Int32) (x4 : Int32) (x5 : Int32) (H : Heap) (locs : List Loc) (ls : Array Slot), f_X11_longest_105 N st o a1 (f_X11_longest_19 N st o a1 n19) x2 x3 x4 x5 = some r → zWd G st H → va_S (zA G) s.heap H locs → lv_has ls 7 [(0, .ref (G.2.2.2 + o)), (1, .int a1), (2, .int x2), (3, .int x3), (4, .int x4), (5, .int x5)] → W p l e (zRm 1 0 0) s m args below meth c H locs 0 0 (MQ below (zQ G (some (.int r)) st) args s 0 0 (zA G)) (F0 m 105 ls []) := by
        intro x2 x3 x4 x5 H locs ls h hW hS hl
        unfold f_X11_longest_105 at h
        refine lv_iinc (v := (x5 + (nI 1))) (lv' := [(5, .int ((x5 + (nI 1)))), (0, .ref (G.2.2.2 + o)), (1, .int a1), (2, .int x2), (3, .int x3), (4, .int x4)]) hx hb dX11_longest_105 hl (k := 5) rfl rfl (by decide) rfl (fun ls hl => ?_)
        refine lv_goto (tgt := 19) hx hb dX11_longest_108 (by decide) ?_
        exact ih19 x2 x3 x4 (x5 + (nI 1)) _ _ _ h hW hS (lv_sub hl [1, 2, 3, 4, 5, 0] rfl)
      have B80 : ∀ (x2 : Int32) (x3 : Int32) (x5 : Int32) (x6 : Int32) (y0 : Int32) (H : Heap) (locs : List Loc) (ls : Array Slot), f_X11_longest_80 N st o a1 (f_X11_longest_19 N st o a1 n19) x2 x3 x5 x6 y0 = some r → zWd G st H → va_S (zA G) s.heap H locs → lv_has ls 7 [(0, .ref (G.2.2.2 + o)), (1, .int a1), (2, .int x2), (3, .int x3), (5, .int x5), (6, .int x6)] → W p l e (zRm 1 0 0) s m args below meth c H locs 0 0 (MQ below (zQ G (some (.int r)) st) args s 0 0 (zA G)) (F0 m 80 ls [.int y0]) := by
        intro x2 x3 x5 x6 y0 H locs ls h hW hS hl
        unfold f_X11_longest_80 at h
        refine lv_istore (lv' := [(4, .int y0), (0, .ref (G.2.2.2 + o)), (1, .int a1), (2, .int x2), (3, .int x3), (5, .int x5), (6, .int x6)]) hx hb dX11_longest_80 hl (by decide) rfl (fun ls hl => ?_)
        refine lv_iload hx hb dX11_longest_82 (lv_at hl 6 rfl) ?_
        refine lv_iconst (v := (-1)) hx hb dX11_longest_84 (by decide) ?_
        refine z_br (lv_icmp_eq (tgt := 105) hx hb dX11_longest_85 (by decide)) h (fun h => ?_) (fun h => ?_)
        · exact B105 x2 x3 y0 x5 _ _ _ h hW hS (lv_sub hl [1, 2, 3, 4, 0, 5] rfl)
        · refine lv_iload hx hb dX11_longest_88 (lv_at hl 0 rfl) ?_
          refine lv_iload_n hx hb dX11_longest_90 rfl (lv_at hl 3 rfl) ?_
          refine z_br (lv_icmp_le (tgt := 105) hx hb dX11_longest_91 (by decide)) h (fun h => ?_) (fun h => ?_)
          · exact B105 x2 x3 y0 x5 _ _ _ h hW hS (lv_sub hl [1, 2, 3, 4, 0, 5] rfl)
          · refine lv_iload hx hb dX11_longest_94 (lv_at hl 0 rfl) ?_
            refine lv_istore_n (lv' := [(2, .int y0), (4, .int y0), (0, .ref (G.2.2.2 + o)), (1, .int a1), (3, .int x3), (5, .int x5), (6, .int x6)]) hx hb dX11_longest_96 rfl hl (by decide) rfl (fun ls hl => ?_)
            refine lv_iload hx hb dX11_longest_97 (lv_at hl 5 rfl) ?_
            refine lv_iload hx hb dX11_longest_99 (lv_at hl 1 rfl) ?_
            refine lv_isub hx hb dX11_longest_101 ?_
            refine lv_iconst (v := (nI 1)) hx hb dX11_longest_102 (by decide) ?_
            refine lv_iadd hx hb dX11_longest_103 ?_
            refine lv_topi (fun v12 ev12 => ?_)
            have h := zl_at ev12 h
            refine lv_istore_n (lv' := [(3, .int v12), (2, .int y0), (4, .int y0), (0, .ref (G.2.2.2 + o)), (1, .int a1), (5, .int x5), (6, .int x6)]) hx hb dX11_longest_104 rfl hl (by decide) rfl (fun ls hl => ?_)
            exact B105 y0 v12 y0 x5 _ _ _ h hW hS (lv_sub hl [3, 4, 1, 0, 2, 5] rfl)
      have B79 : ∀ (x2 : Int32) (x3 : Int32) (x5 : Int32) (x6 : Int32) (H : Heap) (locs : List Loc) (ls : Array Slot), f_X11_longest_79 N st o a1 (f_X11_longest_19 N st o a1 n19) x2 x3 x5 x6 = some r → zWd G st H → va_S (zA G) s.heap H locs → lv_has ls 7 [(0, .ref (G.2.2.2 + o)), (1, .int a1), (2, .int x2), (3, .int x3), (5, .int x5), (6, .int x6)] → W p l e (zRm 1 0 0) s m args below meth c H locs 0 0 (MQ below (zQ G (some (.int r)) st) args s 0 0 (zA G)) (F0 m 79 ls []) := by
        intro x2 x3 x5 x6 H locs ls h hW hS hl
        unfold f_X11_longest_79 at h
        refine lv_iconst (v := (nI 1)) hx hb dX11_longest_79 (by decide) ?_
        exact B80 x2 x3 x5 x6 (nI 1) _ _ _ h hW hS (lv_sub hl [0, 1, 2, 3, 4, 5] rfl)
      intro x2 x3 x4 x5 H locs ls h hW hS hl
      unfold f_X11_longest_19 at h
      refine lv_iload hx hb dX11_longest_19 (lv_at hl 5 rfl) ?_
      refine lv_aload_n hx hb dX11_longest_21 rfl (lv_at hl 0 rfl) ?_
      obtain ⟨t3, h⟩ := zc_at h
      obtain ⟨b4, hb4, h⟩ := zd_at h
      refine z_gR hx hb hq hown hK hW fs_RX11_12 t3 hb4 dX11_longest_22 ?_
      obtain ⟨t5, h⟩ := zc_at h
      obtain ⟨b6, hb6, h⟩ := zd_at h
      refine z_gR hx hb hq hown hK hW fs_RX11_89 t5 hb6 dX11_longest_25 ?_
      obtain ⟨t7, h⟩ := zc_at h
      obtain ⟨r9, c8, h⟩ := zd_at h
      refine z_cV hx hb hq hml hown hK hW hS 5 [] [.int x5] rfl (List.mem_singleton.mp t7) (c_X5_size l G st b6 c8) (zi zm82) (zi zm83) (zi zm84) (zi zm32) (zi zm85) cal_X5_size rfl rfl hl.1 rfl (Nat.le_of_ble_eq_true rfl) (zR_ok (by omega) (by decide)) ⟨(Nat.le_of_ble_eq_true rfl), (Nat.le_of_ble_eq_true rfl)⟩ dX11_longest_28 (fun H locs hW hS => ?_)
      refine W.eq (g2 := F0 m 31 ls [.int r9, .int x5]) rfl ?_
      refine z_br (lv_icmp_ge (tgt := 111) hx hb dX11_longest_31 (by decide)) h (fun h => ?_) (fun h => ?_)
      · refine lv_iload_n hx hb dX11_longest_111 rfl (lv_at hl 2 rfl) ?_
        refine z_brn (lv_if_ne (tgt := 118) hx hb dX11_longest_112 (by decide)) h (fun h => ?_) (fun h => ?_)
        · refine lv_iload_n hx hb dX11_longest_118 rfl (lv_at hl 1 rfl) ?_
          refine z_brn (lv_if_ne (tgt := 126) hx hb dX11_longest_119 (by decide)) h (fun h => ?_) (fun h => ?_)
          · refine lv_iload_n hx hb dX11_longest_126 rfl (lv_at hl 3 rfl) ?_
            obtain rfl := Option.some.inj h
            exact z_ri hx hb hr hlk hW hS (Nat.le_of_ble_eq_true rfl) (Nat.le_of_ble_eq_true rfl) dX11_longest_127
          · refine lv_iload_n hx hb dX11_longest_122 rfl (lv_at hl 2 rfl) ?_
            refine lv_goto (tgt := 127) hx hb dX11_longest_123 (by decide) ?_
            obtain rfl := Option.some.inj h
            exact z_ri hx hb hr hlk hW hS (Nat.le_of_ble_eq_true rfl) (Nat.le_of_ble_eq_true rfl) dX11_longest_127
        · refine lv_bipush (v := (-5)) hx hb dX11_longest_115 (by decide) ?_
          obtain rfl := Option.some.inj h
          exact z_ri hx hb hr hlk hW hS (Nat.le_of_ble_eq_true rfl) (Nat.le_of_ble_eq_true rfl) dX11_longest_117
      · refine lv_aload_n hx hb dX11_longest_34 rfl (lv_at hl 0 rfl) ?_
        refine z_gR hx hb hq hown hK hW fs_RX11_12 t3 hb4 dX11_longest_35 ?_
        refine z_gR hx hb hq hown hK hW fs_RX11_89 t5 hb6 dX11_longest_38 ?_
        refine lv_iload hx hb dX11_longest_41 (lv_at hl 5 rfl) ?_
        obtain ⟨r11, c10, h⟩ := zd_at h
        refine z_cV hx hb hq hml hown hK hW hS 5 [.int x5] [] rfl (List.mem_singleton.mp t7) (c_X5_get l G st b6 x5 c10) (zi zm619) (zi zm109) (zi zm110) (zi zm32) (zi zm111) cal_X5_get rfl rfl hl.1 rfl (Nat.le_of_ble_eq_true rfl) (zR_ok (by omega) (by decide)) ⟨(Nat.le_of_ble_eq_true rfl), (Nat.le_of_ble_eq_true rfl)⟩ dX11_longest_43 (fun H locs hW hS => ?_)
        refine W.eq (g2 := F0 m 46 ls [.int r11]) rfl ?_
        refine lv_istore (lv' := [(6, .int r11), (0, .ref (G.2.2.2 + o)), (1, .int a1), (2, .int x2), (3, .int x3), (4, .int x4), (5, .int x5)]) hx hb dX11_longest_46 hl (by decide) rfl (fun ls hl => ?_)
        refine lv_iload hx hb dX11_longest_48 (lv_at hl 6 rfl) ?_
        refine z_br (lv_if_le (tgt := 79) hx hb dX11_longest_50 (by decide)) h (fun h => ?_) (fun h => ?_)
        · exact B79 x2 x3 x5 r11 _ _ _ h hW hS (lv_sub hl [1, 2, 3, 4, 6, 0] rfl)
        · refine lv_aload_n hx hb dX11_longest_53 rfl (lv_at hl 1 rfl) ?_
          refine z_gR hx hb hq hown hK hW fs_RX11_12 t3 hb4 dX11_longest_54 ?_
          refine z_gR hx hb hq hown hK hW fs_RX11_89 t5 hb6 dX11_longest_57 ?_
          refine lv_iload hx hb dX11_longest_60 (lv_at hl 6 rfl) ?_
          refine lv_iconst (v := (nI 1)) hx hb dX11_longest_62 (by decide) ?_
          refine lv_isub hx hb dX11_longest_63 ?_
          obtain ⟨r14, c13, h⟩ := zd_at h
          refine z_cV hx hb hq hml hown hK hW hS 5 [.int ((x5 - (nI 1)))] [] rfl (List.mem_singleton.mp t7) (c_X5_get l G st b6 (x5 - (nI 1)) c13) (zi zm619) (zi zm109) (zi zm110) (zi zm32) (zi zm111) cal_X5_get rfl rfl hl.1 rfl (Nat.le_of_ble_eq_true rfl) (zR_ok (by omega) (by decide)) ⟨(Nat.le_of_ble_eq_true rfl), (Nat.le_of_ble_eq_true rfl)⟩ dX11_longest_64 (fun H locs hW hS => ?_)
          refine W.eq (g2 := F0 m 67 ls [.int r14]) rfl ?_
          refine lv_iload hx hb dX11_longest_67 (lv_at hl 0 rfl) ?_
          refine z_brn (lv_icmp_ne (tgt := 79) hx hb dX11_longest_69 (by decide)) h (fun h => ?_) (fun h => ?_)
          · exact B79 x2 x3 x5 r11 _ _ _ h hW hS (lv_sub hl [1, 2, 3, 4, 6, 0] rfl)
          · refine lv_iload hx hb dX11_longest_72 (lv_at hl 5 rfl) ?_
            refine lv_iconst (v := (nI 1)) hx hb dX11_longest_74 (by decide) ?_
            refine lv_iadd hx hb dX11_longest_75 ?_
            refine lv_goto (tgt := 80) hx hb dX11_longest_76 (by decide) ?_
            exact B80 x2 x3 x5 r11 (x4 + (nI 1)) _ _ _ h hW hS (lv_sub hl [1, 2, 3, 4, 6, 0] rfl)
  refine lv_iload_n hx hb dX11_longest_0 rfl (lv_at hl 1 rfl) ?_
  obtain ⟨r2, c1, h⟩ := zd_at h
  refine z_cS hx hb hq hml hown hK hW hS [.int a1] [] (c_X11_isPart l G st a1 c1) (zi zm589) (zi zm590) (zi zm2) (zi zm591) cal_X11_isPart rfl hl.1 rfl (Nat.le_of_ble_eq_true rfl) (zR_ok (by omega) (by decide)) ⟨(Nat.le_of_ble_eq_true rfl), (Nat.le_of_ble_eq_true rfl)⟩ dX11_longest_1 (fun H locs hW hS => ?_)
  refine W.eq (g2 := F0 m 4 ls [.int r2]) rfl ?_
  refine z_brn (lv_if_ne (tgt := 9) hx hb dX11_longest_4 (by decide)) h (fun h => ?_) (fun h => ?_)
  · refine lv_iconst (v := (nI 0)) hx hb dX11_longest_9 (by decide) ?_
    refine lv_istore_n (lv' := [(2, .int ((nI 0))), (0, .ref (G.2.2.2 + o)), (1, .int a1)]) hx hb dX11_longest_10 rfl hl (by decide) rfl (fun ls hl => ?_)
    refine lv_iconst (v := (nI 0)) hx hb dX11_longest_11 (by decide) ?_
    refine lv_istore_n (lv' := [(3, .int ((nI 0))), (2, .int ((nI 0))), (0, .ref (G.2.2.2 + o)), (1, .int a1)]) hx hb dX11_longest_12 rfl hl (by decide) rfl (fun ls hl => ?_)
    refine lv_iconst (v := (nI 0)) hx hb dX11_longest_13 (by decide) ?_
    refine lv_istore (lv' := [(4, .int ((nI 0))), (3, .int ((nI 0))), (2, .int ((nI 0))), (0, .ref (G.2.2.2 + o)), (1, .int a1)]) hx hb dX11_longest_14 hl (by decide) rfl (fun ls hl => ?_)
    refine lv_iconst (v := (nI 0)) hx hb dX11_longest_16 (by decide) ?_
    refine lv_istore (lv' := [(5, .int ((nI 0))), (4, .int ((nI 0))), (3, .int ((nI 0))), (2, .int ((nI 0))), (0, .ref (G.2.2.2 + o)), (1, .int a1)]) hx hb dX11_longest_17 hl (by decide) rfl (fun ls hl => ?_)
    exact B19 N (nI 0) (nI 0) (nI 0) (nI 0) _ _ _ h hW hS (lv_sub hl [4, 5, 3, 2, 1, 0] rfl)
  · refine lv_iconst (v := (-1)) hx hb dX11_longest_7 (by decide) ?_
    obtain rfl := Option.some.inj h
    exact z_ri hx hb hr hlk hW hS (Nat.le_of_ble_eq_true rfl) (Nat.le_of_ble_eq_true rfl) dX11_longest_8
def f_X11_show (st : zS) (o : Nat) (a1 : Int32) : Option (zS × Int32) := (if a1 = (-1 : Int32) then (if zTg st o ∈ [21] then (Option.bind (zR st o 0) (fun b21 => (if zTg st b21 ∈ [12] then (Option.bind (zR st b21 9) (fun b23 => (if zTg st b23 ∈ [15] then (Option.bind (f_X5_clear st b23) (fun st26 => (some (st26, (nI 0))))) else none))) else none))) else none) else (if zTg st o ∈ [21] then (Option.bind (zR st o 0) (fun b2 => (if zTg st b2 ∈ [12] then (Option.bind (zR st b2 5) (fun b4 => (if zTg st b4 ∈ [15] then (Option.bind (f_X5_hasPlace st b4 a1) (fun r7 => (if r7 = 0 then (some (st, (-1 : Int32))) else (Option.bind (zR st b2 9) (fun b8 => (if zTg st b8 ∈ [15] then (zb (f_X5_add st b8 a1) (fun st11 r12 => (if r12 = 0 then (some (st11, (-4 : Int32))) else (if zTg st11 o ∈ [21] then (Option.bind (zR st11 o 0) (fun b14 => (if zTg st11 b14 ∈ [12] then (Option.bind (zR st11 b14 9) (fun b16 => (if zTg st11 b16 ∈ [15] then (Option.bind (f_X5_size st11 b16) (fun r19 => (some (st11, r19)))) else none))) else none))) else none)))) else none)))))) else none))) else none))) else none))
set_option maxHeartbeats 1000000 in
set_option maxRecDepth 100000 in
theorem c_X11_show (l : Launch) (G : zG) (st : zS) (o : Nat) (a1 : Int32) {st' : zS} {r : Int32} (h : f_X11_show st o a1 = some (st', r)) : zMet l G yX11_show cX11_show 2 (some .int) 1 0 0 [.ref (G.2.2.2 + o), .int a1] st (some (.int r)) st' := by
  refine zMet_of (by decide +kernel) ?_
  intro p e s m args below meth c X
  obtain ⟨hx, hb, hr, hml, hown, hq, hlk, hK, -, hin, hW, hS⟩ := X
  have hown : s.vm.findClass RX11 = some m.cls := hown
  refine z_ent (by exact Nat.le_of_ble_eq_true rfl) (fun ls hl => ?_)
  have hl : lv_has ls 2 [(0, .ref (G.2.2.2 + o)), (1, .int a1)] := hl
  unfold f_X11_show at h
  refine lv_iload_n hx hb dX11_show_0 rfl (lv_at hl 1 rfl) ?_
  refine lv_iconst (v := (-1)) hx hb dX11_show_1 (by decide) ?_
  refine z_brn (lv_icmp_ne (tgt := 17) hx hb dX11_show_2 (by decide)) h (fun h => ?_) (fun h => ?_)
  · refine lv_aload_n hx hb dX11_show_17 rfl (lv_at hl 0 rfl) ?_
    obtain ⟨t1, h⟩ := zc_at h
    obtain ⟨b2, hb2, h⟩ := zd_at h
    refine z_gR hx hb hq hown hK hW fs_RX11_12 t1 hb2 dX11_show_18 ?_
    obtain ⟨t3, h⟩ := zc_at h
    obtain ⟨b4, hb4, h⟩ := zd_at h
    refine z_gR hx hb hq hown hK hW fs_RX11_89 t3 hb4 dX11_show_21 ?_
    refine lv_iload_n hx hb dX11_show_24 rfl (lv_at hl 1 rfl) ?_
    obtain ⟨t5, h⟩ := zc_at h
    obtain ⟨r7, c6, h⟩ := zd_at h
    refine z_cV hx hb hq hml hown hK hW hS 5 [.int a1] [] rfl (List.mem_singleton.mp t5) (c_X5_hasPlace l G st b4 a1 c6) (zi zm585) (zi zm586) (zi zm587) (zi zm32) (zi zm588) cal_X5_hasPlace rfl rfl hl.1 rfl (Nat.le_of_ble_eq_true rfl) (zR_ok (by omega) (by decide)) ⟨(Nat.le_of_ble_eq_true rfl), (Nat.le_of_ble_eq_true rfl)⟩ dX11_show_25 (fun H locs hW hS => ?_)
    refine W.eq (g2 := F0 m 28 ls [.int r7]) rfl ?_
    refine z_brn (lv_if_ne (tgt := 33) hx hb dX11_show_28 (by decide)) h (fun h => ?_) (fun h => ?_)
    · refine lv_aload_n hx hb dX11_show_33 rfl (lv_at hl 0 rfl) ?_
      refine z_gR hx hb hq hown hK hW fs_RX11_12 t1 hb2 dX11_show_34 ?_
      obtain ⟨b8, hb8, h⟩ := zd_at h
      refine z_gR hx hb hq hown hK hW fs_RX11_125 t3 hb8 dX11_show_37 ?_
      refine lv_iload_n hx hb dX11_show_40 rfl (lv_at hl 1 rfl) ?_
      obtain ⟨t9, h⟩ := zc_at h
      obtain ⟨st11, r12, c10, h⟩ := zb_at h
      refine z_cV hx hb hq hml hown hK hW hS 5 [.int a1] [] rfl (List.mem_singleton.mp t9) (c_X5_add l G st b8 a1 c10) (zi zm77) (zi zm78) (zi zm79) (zi zm32) (zi zm80) cal_X5_add rfl rfl hl.1 rfl (Nat.le_of_ble_eq_true rfl) (zR_ok (by omega) (by decide)) ⟨(Nat.le_of_ble_eq_true rfl), (Nat.le_of_ble_eq_true rfl)⟩ dX11_show_41 (fun H locs hW hS => ?_)
      refine W.eq (g2 := F0 m 44 ls [.int r12]) rfl ?_
      refine z_br (lv_if_eq (tgt := 60) hx hb dX11_show_44 (by decide)) h (fun h => ?_) (fun h => ?_)
      · refine lv_bipush (v := (-4)) hx hb dX11_show_60 (by decide) ?_
        obtain ⟨rfl, rfl⟩ := Prod.mk.inj (Option.some.inj h)
        exact z_ri hx hb hr hlk hW hS (Nat.le_of_ble_eq_true rfl) (Nat.le_of_ble_eq_true rfl) dX11_show_62
      · refine lv_aload_n hx hb dX11_show_47 rfl (lv_at hl 0 rfl) ?_
        obtain ⟨t13, h⟩ := zc_at h
        obtain ⟨b14, hb14, h⟩ := zd_at h
        refine z_gR hx hb hq hown hK hW fs_RX11_12 t13 hb14 dX11_show_48 ?_
        obtain ⟨t15, h⟩ := zc_at h
        obtain ⟨b16, hb16, h⟩ := zd_at h
        refine z_gR hx hb hq hown hK hW fs_RX11_125 t15 hb16 dX11_show_51 ?_
        obtain ⟨t17, h⟩ := zc_at h
        obtain ⟨r19, c18, h⟩ := zd_at h
        refine z_cV hx hb hq hml hown hK hW hS 5 [] [] rfl (List.mem_singleton.mp t17) (c_X5_size l G st11 b16 c18) (zi zm82) (zi zm83) (zi zm84) (zi zm32) (zi zm85) cal_X5_size rfl rfl hl.1 rfl (Nat.le_of_ble_eq_true rfl) (zR_ok (by omega) (by decide)) ⟨(Nat.le_of_ble_eq_true rfl), (Nat.le_of_ble_eq_true rfl)⟩ dX11_show_54 (fun H locs hW hS => ?_)
        refine W.eq (g2 := F0 m 57 ls [.int r19]) rfl ?_
        refine lv_goto (tgt := 62) hx hb dX11_show_57 (by decide) ?_
        obtain ⟨rfl, rfl⟩ := Prod.mk.inj (Option.some.inj h)
        exact z_ri hx hb hr hlk hW hS (Nat.le_of_ble_eq_true rfl) (Nat.le_of_ble_eq_true rfl) dX11_show_62
    · refine lv_iconst (v := (-1)) hx hb dX11_show_31 (by decide) ?_
      obtain ⟨rfl, rfl⟩ := Prod.mk.inj (Option.some.inj h)
      exact z_ri hx hb hr hlk hW hS (Nat.le_of_ble_eq_true rfl) (Nat.le_of_ble_eq_true rfl) dX11_show_32
  · refine lv_aload_n hx hb dX11_show_5 rfl (lv_at hl 0 rfl) ?_
    obtain ⟨t20, h⟩ := zc_at h
    obtain ⟨b21, hb21, h⟩ := zd_at h
    refine z_gR hx hb hq hown hK hW fs_RX11_12 t20 hb21 dX11_show_6 ?_
    obtain ⟨t22, h⟩ := zc_at h
    obtain ⟨b23, hb23, h⟩ := zd_at h
    refine z_gR hx hb hq hown hK hW fs_RX11_125 t22 hb23 dX11_show_9 ?_
    obtain ⟨t24, h⟩ := zc_at h
    obtain ⟨st26, c25, h⟩ := zd_at h
    refine z_cV hx hb hq hml hown hK hW hS 5 [] [] rfl (List.mem_singleton.mp t24) (c_X5_clear l G st b23 c25) (zi zm273) (zi zm274) (zi zm275) (zi zm32) (zi zm276) cal_X5_clear rfl rfl hl.1 rfl (Nat.le_of_ble_eq_true rfl) (zR_ok (by omega) (by decide)) ⟨(Nat.le_of_ble_eq_true rfl), (Nat.le_of_ble_eq_true rfl)⟩ dX11_show_12 (fun H locs hW hS => ?_)
    refine W.eq (g2 := F0 m 15 ls []) rfl ?_
    refine lv_iconst (v := (nI 0)) hx hb dX11_show_15 (by decide) ?_
    obtain ⟨rfl, rfl⟩ := Prod.mk.inj (Option.some.inj h)
    exact z_ri hx hb hr hlk hW hS (Nat.le_of_ble_eq_true rfl) (Nat.le_of_ble_eq_true rfl) dX11_show_16
def f_X11_couldBeBy_2 (N : Nat) (st : zS) (o : Nat) (a1 : Int32)  : Nat → Int32 → Option Int32
  | 0, _ => none
  | n2 + 1, x2 => (if zTg st o ∈ [21] then (Option.bind (zR st o 0) (fun b2 => (if zTg st b2 ∈ [12] then (Option.bind (zR st b2 9) (fun b4 => (if zTg st b4 ∈ [15] then (Option.bind (f_X5_size st b4) (fun r7 => (if r7 ≤ x2 then (some (nI 1)) else (Option.bind (f_X5_get st b4 x2) (fun r9 => (Option.bind (f_X2_signIf N st b2 r9 r9 a1) (fun r11 => (if r11 = 0 then (some (nI 0)) else ((f_X11_couldBeBy_2 N st o a1 n2) (x2 + (nI 1))))))))))) else none))) else none))) else none)
def f_X11_couldBeBy (N : Nat) (st : zS) (o : Nat) (a1 : Int32) : Option Int32 := (f_X11_couldBeBy_2 N st o a1 N (nI 0))
set_option maxHeartbeats 1000000 in
set_option maxRecDepth 100000 in
theorem c_X11_couldBeBy (l : Launch) (G : zG) (N : Nat) (st : zS) (o : Nat) (a1 : Int32) {r : Int32} (h : f_X11_couldBeBy N st o a1 = some r) : zMet l G yX11_couldBeBy cX11_couldBeBy 4 (some .boolean) 4 0 0 [.ref (G.2.2.2 + o), .int a1] st (some (.int r)) st := by
  refine zMet_of (by decide +kernel) ?_
  intro p e s m args below meth c X
  obtain ⟨hx, hb, hr, hml, hown, hq, hlk, hK, -, hin, hW, hS⟩ := X
  have hown : s.vm.findClass RX11 = some m.cls := hown
  refine z_ent (by exact Nat.le_of_ble_eq_true rfl) (fun ls hl => ?_)
  have hl : lv_has ls 4 [(0, .ref (G.2.2.2 + o)), (1, .int a1)] := hl
  unfold f_X11_couldBeBy at h
  have B2 : ∀ (n2 : Nat) (x2 : Int32) (H : Heap) (locs : List Loc) (ls : Array Slot), f_X11_couldBeBy_2 N st o a1 n2 x2 = some r → zWd G st H → va_S (zA G) s.heap H locs → lv_has ls 4 [(0, .ref (G.2.2.2 + o)), (1, .int a1), (2, .int x2)] → W p l e (zRm 4 0 0) s m args below meth c H locs 0 0 (MQ below (zQ G (some (.int r)) st) args s 0 0 (zA G)) (F0 m 2 ls []) := by
    intro n2
    induction n2 with
    | zero =>
      intro x2 H locs ls h
      unfold f_X11_couldBeBy_2 at h
      cases h
    | succ n2 ih2 =>
      intro x2 H locs ls h hW hS hl
      unfold f_X11_couldBeBy_2 at h
      refine lv_iload_n hx hb dX11_couldBeBy_2 rfl (lv_at hl 2 rfl) ?_
      refine lv_aload_n hx hb dX11_couldBeBy_3 rfl (lv_at hl 0 rfl) ?_
      obtain ⟨t1, h⟩ := zc_at h
      obtain ⟨b2, hb2, h⟩ := zd_at h
      refine z_gR hx hb hq hown hK hW fs_RX11_12 t1 hb2 dX11_couldBeBy_4 ?_
      obtain ⟨t3, h⟩ := zc_at h
      obtain ⟨b4, hb4, h⟩ := zd_at h
      refine z_gR hx hb hq hown hK hW fs_RX11_125 t3 hb4 dX11_couldBeBy_7 ?_
      obtain ⟨t5, h⟩ := zc_at h
      obtain ⟨r7, c6, h⟩ := zd_at h
      refine z_cV hx hb hq hml hown hK hW hS 5 [] [.int x2] rfl (List.mem_singleton.mp t5) (c_X5_size l G st b4 c6) (zi zm82) (zi zm83) (zi zm84) (zi zm32) (zi zm85) cal_X5_size rfl rfl hl.1 rfl (Nat.le_of_ble_eq_true rfl) (zR_ok (by omega) (by decide)) ⟨(Nat.le_of_ble_eq_true rfl), (Nat.le_of_ble_eq_true rfl)⟩ dX11_couldBeBy_10 (fun H locs hW hS => ?_)
      refine W.eq (g2 := F0 m 13 ls [.int r7, .int x2]) rfl ?_
      refine z_br (lv_icmp_ge (tgt := 49) hx hb dX11_couldBeBy_13 (by decide)) h (fun h => ?_) (fun h => ?_)
      · refine lv_iconst (v := (nI 1)) hx hb dX11_couldBeBy_49 (by decide) ?_
        obtain rfl := Option.some.inj h
        exact z_rz hx hb hr hlk rfl hW hS (Nat.le_of_ble_eq_true rfl) (Nat.le_of_ble_eq_true rfl) dX11_couldBeBy_50
      · refine lv_aload_n hx hb dX11_couldBeBy_16 rfl (lv_at hl 0 rfl) ?_
        refine z_gR hx hb hq hown hK hW fs_RX11_12 t1 hb2 dX11_couldBeBy_17 ?_
        refine z_gR hx hb hq hown hK hW fs_RX11_125 t3 hb4 dX11_couldBeBy_20 ?_
        refine lv_iload_n hx hb dX11_couldBeBy_23 rfl (lv_at hl 2 rfl) ?_
        obtain ⟨r9, c8, h⟩ := zd_at h
        refine z_cV hx hb hq hml hown hK hW hS 5 [.int x2] [] rfl (List.mem_singleton.mp t5) (c_X5_get l G st b4 x2 c8) (zi zm619) (zi zm109) (zi zm110) (zi zm32) (zi zm111) cal_X5_get rfl rfl hl.1 rfl (Nat.le_of_ble_eq_true rfl) (zR_ok (by omega) (by decide)) ⟨(Nat.le_of_ble_eq_true rfl), (Nat.le_of_ble_eq_true rfl)⟩ dX11_couldBeBy_24 (fun H locs hW hS => ?_)
        refine W.eq (g2 := F0 m 27 ls [.int r9]) rfl ?_
        refine lv_istore_n (lv' := [(3, .int r9), (0, .ref (G.2.2.2 + o)), (1, .int a1), (2, .int x2)]) hx hb dX11_couldBeBy_27 rfl hl (by decide) rfl (fun ls hl => ?_)
        refine lv_aload_n hx hb dX11_couldBeBy_28 rfl (lv_at hl 1 rfl) ?_
        refine z_gR hx hb hq hown hK hW fs_RX11_12 t1 hb2 dX11_couldBeBy_29 ?_
        refine lv_iload_n hx hb dX11_couldBeBy_32 rfl (lv_at hl 0 rfl) ?_
        refine lv_iload_n hx hb dX11_couldBeBy_33 rfl (lv_at hl 0 rfl) ?_
        refine lv_iload_n hx hb dX11_couldBeBy_34 rfl (lv_at hl 2 rfl) ?_
        obtain ⟨r11, c10, h⟩ := zd_at h
        refine z_cV hx hb hq hml hown hK hW hS 2 [.int r9, .int r9, .int a1] [] rfl (List.mem_singleton.mp t3) (c_X2_signIf l G N st b2 r9 r9 a1 c10) (zi zm878) (zi zm597) (zi zm598) (zi zm14) (zi zm599) cal_X2_signIf rfl rfl hl.1 rfl (Nat.le_of_ble_eq_true rfl) (zR_ok (by omega) (by decide)) ⟨(Nat.le_of_ble_eq_true rfl), (Nat.le_of_ble_eq_true rfl)⟩ dX11_couldBeBy_35 (fun H locs hW hS => ?_)
        refine W.eq (g2 := F0 m 38 ls [.int r11]) rfl ?_
        refine z_brn (lv_if_ne (tgt := 43) hx hb dX11_couldBeBy_38 (by decide)) h (fun h => ?_) (fun h => ?_)
        · refine lv_iinc (v := (x2 + (nI 1))) (lv' := [(2, .int ((x2 + (nI 1)))), (3, .int r9), (0, .ref (G.2.2.2 + o)), (1, .int a1)]) hx hb dX11_couldBeBy_43 hl (k := 3) rfl rfl (by decide) rfl (fun ls hl => ?_)
          refine lv_goto (tgt := 2) hx hb dX11_couldBeBy_46 (by decide) ?_
          exact ih2 (x2 + (nI 1)) _ _ _ h hW hS (lv_sub hl [2, 3, 0] rfl)
        · refine lv_iconst (v := (nI 0)) hx hb dX11_couldBeBy_41 (by decide) ?_
          obtain rfl := Option.some.inj h
          exact z_rz hx hb hr hlk rfl hW hS (Nat.le_of_ble_eq_true rfl) (Nat.le_of_ble_eq_true rfl) dX11_couldBeBy_42
  refine lv_iconst (v := (nI 0)) hx hb dX11_couldBeBy_0 (by decide) ?_
  refine lv_istore_n (lv' := [(2, .int ((nI 0))), (0, .ref (G.2.2.2 + o)), (1, .int a1)]) hx hb dX11_couldBeBy_1 rfl hl (by decide) rfl (fun ls hl => ?_)
  exact B2 N (nI 0) _ _ _ h hW hS (lv_sub hl [1, 2, 0] rfl)
def f_X11_whose_29 (N : Nat) (st : zS) (o : Nat) (k4 : Int32 → Int32 → Option Int32) (x1 : Int32) (x2 : Int32) : Option Int32 := (k4 x1 (x2 + (nI 1)))
def f_X11_whose_4 (N : Nat) (st : zS) (o : Nat)  : Nat → Int32 → Int32 → Option Int32
  | 0, _, _ => none
  | n4 + 1, x1, x2 => (if zTg st o ∈ [21] then (Option.bind (zR st o 0) (fun b2 => (if zTg st b2 ∈ [12] then (Option.bind (f_X2_wayCount st b2) (fun r5 => (if r5 ≤ x2 then (some x1) else (Option.bind (f_X11_couldBeBy N st o x2) (fun r7 => (if r7 = 0 then (f_X11_whose_29 N st o (f_X11_whose_4 N st o n4) x1 x2) else (zl (x1 ||| ((nI 1) <<< (x2 &&& 31))) (fun v8 => (f_X11_whose_29 N st o (f_X11_whose_4 N st o n4) v8 x2))))))))) else none))) else none)
def f_X11_whose (N : Nat) (st : zS) (o : Nat) : Option Int32 := (f_X11_whose_4 N st o N (nI 0) (nI 0))
set_option maxHeartbeats 1000000 in
set_option maxRecDepth 100000 in
theorem c_X11_whose (l : Launch) (G : zG) (N : Nat) (st : zS) (o : Nat) {r : Int32} (h : f_X11_whose N st o = some r) : zMet l G yX11_whose cX11_whose 3 (some .int) 5 0 0 [.ref (G.2.2.2 + o)] st (some (.int r)) st := by
  refine zMet_of (by decide +kernel) ?_
  intro p e s m args below meth c X
  obtain ⟨hx, hb, hr, hml, hown, hq, hlk, hK, -, hin, hW, hS⟩ := X
  have hown : s.vm.findClass RX11 = some m.cls := hown
  refine z_ent (by exact Nat.le_of_ble_eq_true rfl) (fun ls hl => ?_)
  have hl : lv_has ls 3 [(0, .ref (G.2.2.2 + o))] := hl
  unfold f_X11_whose at h
  have B4 : ∀ (n4 : Nat) (x1 : Int32) (x2 : Int32) (H : Heap) (locs : List Loc) (ls : Array Slot), f_X11_whose_4 N st o n4 x1 x2 = some r → zWd G st H → va_S (zA G) s.heap H locs → lv_has ls 3 [(0, .ref (G.2.2.2 + o)), (1, .int x1), (2, .int x2)] → W p l e (zRm 5 0 0) s m args below meth c H locs 0 0 (MQ below (zQ G (some (.int r)) st) args s 0 0 (zA G)) (F0 m 4 ls []) := by
    intro n4
    induction n4 with
    | zero =>
      intro x1 x2 H locs ls h
      unfold f_X11_whose_4 at h
      cases h
    | succ n4 ih4 =>
      have B29 : ∀ (x1 : Int32) (x2 : Int32) (H : Heap) (locs : List Loc) (ls : Array Slot), f_X11_whose_29 N st o (f_X11_whose_4 N st o n4) x1 x2 = some r → zWd G st H → va_S (zA G) s.heap H locs → lv_has ls 3 [(0, .ref (G.2.2.2 + o)), (1, .int x1), (2, .int x2)] → W p l e (zRm 5 0 0) s m args below meth c H locs 0 0 (MQ below (zQ G (some (.int r)) st) args s 0 0 (zA G)) (F0 m 29 ls []) := by
        intro x1 x2 H locs ls h hW hS hl
        unfold f_X11_whose_29 at h
        refine lv_iinc (v := (x2 + (nI 1))) (lv' := [(2, .int ((x2 + (nI 1)))), (0, .ref (G.2.2.2 + o)), (1, .int x1)]) hx hb dX11_whose_29 hl (k := 2) rfl rfl (by decide) rfl (fun ls hl => ?_)
        refine lv_goto (tgt := 4) hx hb dX11_whose_32 (by decide) ?_
        exact ih4 x1 (x2 + (nI 1)) _ _ _ h hW hS (lv_sub hl [1, 2, 0] rfl)
      intro x1 x2 H locs ls h hW hS hl
      unfold f_X11_whose_4 at h
      refine lv_iload_n hx hb dX11_whose_4 rfl (lv_at hl 2 rfl) ?_
      refine lv_aload_n hx hb dX11_whose_5 rfl (lv_at hl 0 rfl) ?_
      obtain ⟨t1, h⟩ := zc_at h
      obtain ⟨b2, hb2, h⟩ := zd_at h
      refine z_gR hx hb hq hown hK hW fs_RX11_12 t1 hb2 dX11_whose_6 ?_
      obtain ⟨t3, h⟩ := zc_at h
      obtain ⟨r5, c4, h⟩ := zd_at h
      refine z_cV hx hb hq hml hown hK hW hS 2 [] [.int x2] rfl (List.mem_singleton.mp t3) (c_X2_wayCount l G st b2 c4) (zi zm339) (zi zm340) (zi zm341) (zi zm14) (zi zm342) cal_X2_wayCount rfl rfl hl.1 rfl (Nat.le_of_ble_eq_true rfl) (zR_ok (by omega) (by decide)) ⟨(Nat.le_of_ble_eq_true rfl), (Nat.le_of_ble_eq_true rfl)⟩ dX11_whose_9 (fun H locs hW hS => ?_)
      refine W.eq (g2 := F0 m 12 ls [.int r5, .int x2]) rfl ?_
      refine z_br (lv_icmp_ge (tgt := 35) hx hb dX11_whose_12 (by decide)) h (fun h => ?_) (fun h => ?_)
      · refine lv_iload_n hx hb dX11_whose_35 rfl (lv_at hl 1 rfl) ?_
        obtain rfl := Option.some.inj h
        exact z_ri hx hb hr hlk hW hS (Nat.le_of_ble_eq_true rfl) (Nat.le_of_ble_eq_true rfl) dX11_whose_36
      · refine lv_aload_n hx hb dX11_whose_15 rfl (lv_at hl 0 rfl) ?_
        refine lv_iload_n hx hb dX11_whose_16 rfl (lv_at hl 2 rfl) ?_
        obtain ⟨r7, c6, h⟩ := zd_at h
        refine z_cV hx hb hq hml hown hK hW hS 11 [.int x2] [] rfl (List.mem_singleton.mp t1) (c_X11_couldBeBy l G N st o x2 c6) (zi zm874) (zi zm875) (zi zm876) (zi zm2) (zi zm877) cal_X11_couldBeBy rfl rfl hl.1 rfl (Nat.le_of_ble_eq_true rfl) (zR_ok (by omega) (by decide)) ⟨(Nat.le_of_ble_eq_true rfl), (Nat.le_of_ble_eq_true rfl)⟩ dX11_whose_17 (fun H locs hW hS => ?_)
        refine W.eq (g2 := F0 m 20 ls [.int r7]) rfl ?_
        refine z_br (lv_if_eq (tgt := 29) hx hb dX11_whose_20 (by decide)) h (fun h => ?_) (fun h => ?_)
        · exact B29 x1 x2 _ _ _ h hW hS (lv_sub hl [0, 1, 2] rfl)
        · refine lv_iload_n hx hb dX11_whose_23 rfl (lv_at hl 1 rfl) ?_
          refine lv_iconst (v := (nI 1)) hx hb dX11_whose_24 (by decide) ?_
          refine lv_iload_n hx hb dX11_whose_25 rfl (lv_at hl 2 rfl) ?_
          refine lv_ishl hx hb dX11_whose_26 ?_
          refine lv_ior hx hb dX11_whose_27 ?_
          refine lv_topi (fun v8 ev8 => ?_)
          have h := zl_at ev8 h
          refine lv_istore_n (lv' := [(1, .int v8), (0, .ref (G.2.2.2 + o)), (2, .int x2)]) hx hb dX11_whose_28 rfl hl (by decide) rfl (fun ls hl => ?_)
          exact B29 v8 x2 _ _ _ h hW hS (lv_sub hl [1, 0, 2] rfl)
  refine lv_iconst (v := (nI 0)) hx hb dX11_whose_0 (by decide) ?_
  refine lv_istore_n (lv' := [(1, .int ((nI 0))), (0, .ref (G.2.2.2 + o))]) hx hb dX11_whose_1 rfl hl (by decide) rfl (fun ls hl => ?_)
  refine lv_iconst (v := (nI 0)) hx hb dX11_whose_2 (by decide) ?_
  refine lv_istore_n (lv' := [(2, .int ((nI 0))), (1, .int ((nI 0))), (0, .ref (G.2.2.2 + o))]) hx hb dX11_whose_3 rfl hl (by decide) rfl (fun ls hl => ?_)
  exact B4 N (nI 0) (nI 0) _ _ _ h hW hS (lv_sub hl [2, 1, 0] rfl)
def f_X11_wanted (st : zS) (o : Nat) (a1 : Int32) : Option (zS × Int32) := (if a1 = (-1 : Int32) then (if zTg st o ∈ [21] then (Option.bind (zR st o 0) (fun b17 => (if zTg st b17 ∈ [12] then (Option.bind (zR st b17 10) (fun b19 => (if zTg st b19 ∈ [15] then (Option.bind (f_X5_clear st b19) (fun st22 => (some (st22, (nI 0))))) else none))) else none))) else none) else (if a1 < 0 then (some (st, (-2 : Int32))) else (if a1 ≤ (nI 40) then (if zTg st o ∈ [21] then (Option.bind (zR st o 0) (fun b2 => (if zTg st b2 ∈ [12] then (Option.bind (zR st b2 10) (fun b4 => (if zTg st b4 ∈ [15] then (zb (f_X5_add st b4 a1) (fun st7 r8 => (if r8 = 0 then (some (st7, (-4 : Int32))) else (if zTg st7 o ∈ [21] then (Option.bind (zR st7 o 0) (fun b10 => (if zTg st7 b10 ∈ [12] then (Option.bind (zR st7 b10 10) (fun b12 => (if zTg st7 b12 ∈ [15] then (Option.bind (f_X5_size st7 b12) (fun r15 => (some (st7, r15)))) else none))) else none))) else none)))) else none))) else none))) else none) else (some (st, (-2 : Int32))))))
set_option maxHeartbeats 1000000 in
set_option maxRecDepth 100000 in
theorem c_X11_wanted (l : Launch) (G : zG) (st : zS) (o : Nat) (a1 : Int32) {st' : zS} {r : Int32} (h : f_X11_wanted st o a1 = some (st', r)) : zMet l G yX11_wanted cX11_wanted 2 (some .int) 1 0 0 [.ref (G.2.2.2 + o), .int a1] st (some (.int r)) st' := by
  refine zMet_of (by decide +kernel) ?_
  intro p e s m args below meth c X
  obtain ⟨hx, hb, hr, hml, hown, hq, hlk, hK, -, hin, hW, hS⟩ := X
  have hown : s.vm.findClass RX11 = some m.cls := hown
  refine z_ent (by exact Nat.le_of_ble_eq_true rfl) (fun ls hl => ?_)
  have hl : lv_has ls 2 [(0, .ref (G.2.2.2 + o)), (1, .int a1)] := hl
  unfold f_X11_wanted at h
  refine lv_iload_n hx hb dX11_wanted_0 rfl (lv_at hl 1 rfl) ?_
  refine lv_iconst (v := (-1)) hx hb dX11_wanted_1 (by decide) ?_
  refine z_brn (lv_icmp_ne (tgt := 17) hx hb dX11_wanted_2 (by decide)) h (fun h => ?_) (fun h => ?_)
  · refine lv_iload_n hx hb dX11_wanted_17 rfl (lv_at hl 1 rfl) ?_
    refine z_br (lv_if_lt (tgt := 27) hx hb dX11_wanted_18 (by decide)) h (fun h => ?_) (fun h => ?_)
    · refine lv_bipush (v := (-2)) hx hb dX11_wanted_27 (by decide) ?_
      obtain ⟨rfl, rfl⟩ := Prod.mk.inj (Option.some.inj h)
      exact z_ri hx hb hr hlk hW hS (Nat.le_of_ble_eq_true rfl) (Nat.le_of_ble_eq_true rfl) dX11_wanted_29
    · refine lv_iload_n hx hb dX11_wanted_21 rfl (lv_at hl 1 rfl) ?_
      refine lv_bipush (v := (nI 40)) hx hb dX11_wanted_22 (by decide) ?_
      refine z_br (lv_icmp_le (tgt := 30) hx hb dX11_wanted_24 (by decide)) h (fun h => ?_) (fun h => ?_)
      · refine lv_aload_n hx hb dX11_wanted_30 rfl (lv_at hl 0 rfl) ?_
        obtain ⟨t1, h⟩ := zc_at h
        obtain ⟨b2, hb2, h⟩ := zd_at h
        refine z_gR hx hb hq hown hK hW fs_RX11_12 t1 hb2 dX11_wanted_31 ?_
        obtain ⟨t3, h⟩ := zc_at h
        obtain ⟨b4, hb4, h⟩ := zd_at h
        refine z_gR hx hb hq hown hK hW fs_RX11_204 t3 hb4 dX11_wanted_34 ?_
        refine lv_iload_n hx hb dX11_wanted_37 rfl (lv_at hl 1 rfl) ?_
        obtain ⟨t5, h⟩ := zc_at h
        obtain ⟨st7, r8, c6, h⟩ := zb_at h
        refine z_cV hx hb hq hml hown hK hW hS 5 [.int a1] [] rfl (List.mem_singleton.mp t5) (c_X5_add l G st b4 a1 c6) (zi zm77) (zi zm78) (zi zm79) (zi zm32) (zi zm80) cal_X5_add rfl rfl hl.1 rfl (Nat.le_of_ble_eq_true rfl) (zR_ok (by omega) (by decide)) ⟨(Nat.le_of_ble_eq_true rfl), (Nat.le_of_ble_eq_true rfl)⟩ dX11_wanted_38 (fun H locs hW hS => ?_)
        refine W.eq (g2 := F0 m 41 ls [.int r8]) rfl ?_
        refine z_br (lv_if_eq (tgt := 57) hx hb dX11_wanted_41 (by decide)) h (fun h => ?_) (fun h => ?_)
        · refine lv_bipush (v := (-4)) hx hb dX11_wanted_57 (by decide) ?_
          obtain ⟨rfl, rfl⟩ := Prod.mk.inj (Option.some.inj h)
          exact z_ri hx hb hr hlk hW hS (Nat.le_of_ble_eq_true rfl) (Nat.le_of_ble_eq_true rfl) dX11_wanted_59
        · refine lv_aload_n hx hb dX11_wanted_44 rfl (lv_at hl 0 rfl) ?_
          obtain ⟨t9, h⟩ := zc_at h
          obtain ⟨b10, hb10, h⟩ := zd_at h
          refine z_gR hx hb hq hown hK hW fs_RX11_12 t9 hb10 dX11_wanted_45 ?_
          obtain ⟨t11, h⟩ := zc_at h
          obtain ⟨b12, hb12, h⟩ := zd_at h
          refine z_gR hx hb hq hown hK hW fs_RX11_204 t11 hb12 dX11_wanted_48 ?_
          obtain ⟨t13, h⟩ := zc_at h
          obtain ⟨r15, c14, h⟩ := zd_at h
          refine z_cV hx hb hq hml hown hK hW hS 5 [] [] rfl (List.mem_singleton.mp t13) (c_X5_size l G st7 b12 c14) (zi zm82) (zi zm83) (zi zm84) (zi zm32) (zi zm85) cal_X5_size rfl rfl hl.1 rfl (Nat.le_of_ble_eq_true rfl) (zR_ok (by omega) (by decide)) ⟨(Nat.le_of_ble_eq_true rfl), (Nat.le_of_ble_eq_true rfl)⟩ dX11_wanted_51 (fun H locs hW hS => ?_)
          refine W.eq (g2 := F0 m 54 ls [.int r15]) rfl ?_
          refine lv_goto (tgt := 59) hx hb dX11_wanted_54 (by decide) ?_
          obtain ⟨rfl, rfl⟩ := Prod.mk.inj (Option.some.inj h)
          exact z_ri hx hb hr hlk hW hS (Nat.le_of_ble_eq_true rfl) (Nat.le_of_ble_eq_true rfl) dX11_wanted_59
      · refine lv_bipush (v := (-2)) hx hb dX11_wanted_27 (by decide) ?_
        obtain ⟨rfl, rfl⟩ := Prod.mk.inj (Option.some.inj h)
        exact z_ri hx hb hr hlk hW hS (Nat.le_of_ble_eq_true rfl) (Nat.le_of_ble_eq_true rfl) dX11_wanted_29
  · refine lv_aload_n hx hb dX11_wanted_5 rfl (lv_at hl 0 rfl) ?_
    obtain ⟨t16, h⟩ := zc_at h
    obtain ⟨b17, hb17, h⟩ := zd_at h
    refine z_gR hx hb hq hown hK hW fs_RX11_12 t16 hb17 dX11_wanted_6 ?_
    obtain ⟨t18, h⟩ := zc_at h
    obtain ⟨b19, hb19, h⟩ := zd_at h
    refine z_gR hx hb hq hown hK hW fs_RX11_204 t18 hb19 dX11_wanted_9 ?_
    obtain ⟨t20, h⟩ := zc_at h
    obtain ⟨st22, c21, h⟩ := zd_at h
    refine z_cV hx hb hq hml hown hK hW hS 5 [] [] rfl (List.mem_singleton.mp t20) (c_X5_clear l G st b19 c21) (zi zm273) (zi zm274) (zi zm275) (zi zm32) (zi zm276) cal_X5_clear rfl rfl hl.1 rfl (Nat.le_of_ble_eq_true rfl) (zR_ok (by omega) (by decide)) ⟨(Nat.le_of_ble_eq_true rfl), (Nat.le_of_ble_eq_true rfl)⟩ dX11_wanted_12 (fun H locs hW hS => ?_)
    refine W.eq (g2 := F0 m 15 ls []) rfl ?_
    refine lv_iconst (v := (nI 0)) hx hb dX11_wanted_15 (by decide) ?_
    obtain ⟨rfl, rfl⟩ := Prod.mk.inj (Option.some.inj h)
    exact z_ri hx hb hr hlk hW hS (Nat.le_of_ble_eq_true rfl) (Nat.le_of_ble_eq_true rfl) dX11_wanted_16
def f_X11_isCost (a0 : Int32) : Option Int32 := (if a0 < 0 then (some (nI 0)) else (if (nI 99) < a0 then (some (nI 0)) else (some (nI 1))))
set_option maxHeartbeats 1000000 in
set_option maxRecDepth 100000 in
theorem c_X11_isCost (l : Launch) (G : zG) (st : zS) (a0 : Int32) {r : Int32} (h : f_X11_isCost a0 = some r) : zMet l G yX11_isCost cX11_isCost 1 (some .boolean) 0 0 0 [.int a0] st (some (.int r)) st := by
  refine zMet_of (by decide +kernel) ?_
  intro p e s m args below meth c X
  obtain ⟨hx, hb, hr, hml, hown, hq, hlk, hK, -, hin, hW, hS⟩ := X
  have hown : s.vm.findClass RX11 = some m.cls := hown
  refine z_ent (by exact Nat.le_of_ble_eq_true rfl) (fun ls hl => ?_)
  have hl : lv_has ls 1 [(0, .int a0)] := hl
  unfold f_X11_isCost at h
  refine lv_iload_n hx hb dX11_isCost_0 rfl (lv_at hl 0 rfl) ?_
  refine z_br (lv_if_lt (tgt := 14) hx hb dX11_isCost_1 (by decide)) h (fun h => ?_) (fun h => ?_)
  · refine lv_iconst (v := (nI 0)) hx hb dX11_isCost_14 (by decide) ?_
    obtain rfl := Option.some.inj h
    exact z_rz hx hb hr hlk rfl hW hS (Nat.le_of_ble_eq_true rfl) (Nat.le_of_ble_eq_true rfl) dX11_isCost_15
  · refine lv_iload_n hx hb dX11_isCost_4 rfl (lv_at hl 0 rfl) ?_
    refine lv_bipush (v := (nI 99)) hx hb dX11_isCost_5 (by decide) ?_
    refine z_br (lv_icmp_gt (tgt := 14) hx hb dX11_isCost_7 (by decide)) h (fun h => ?_) (fun h => ?_)
    · refine lv_iconst (v := (nI 0)) hx hb dX11_isCost_14 (by decide) ?_
      obtain rfl := Option.some.inj h
      exact z_rz hx hb hr hlk rfl hW hS (Nat.le_of_ble_eq_true rfl) (Nat.le_of_ble_eq_true rfl) dX11_isCost_15
    · refine lv_iconst (v := (nI 1)) hx hb dX11_isCost_10 (by decide) ?_
      refine lv_goto (tgt := 15) hx hb dX11_isCost_11 (by decide) ?_
      obtain rfl := Option.some.inj h
      exact z_rz hx hb hr hlk rfl hW hS (Nat.le_of_ble_eq_true rfl) (Nat.le_of_ble_eq_true rfl) dX11_isCost_15
def f_X11_costOfStock_56 (N : Nat) (st : zS) (o : Nat) (a1 : Int32) (a2 : Int32) (a3 : Int32) (k6 : Int32 → Int32 → Option Int32) (x5 : Int32) (y0 : Int32) (y1 : Int32) : Option Int32 := (zl (y1 + y0) (fun v11 => (k6 v11 (x5 + (nI 1)))))
def f_X11_costOfStock_6 (N : Nat) (st : zS) (o : Nat) (a1 : Int32) (a2 : Int32) (a3 : Int32)  : Nat → Int32 → Int32 → Option Int32
  | 0, _, _ => none
  | n6 + 1, x4, x5 => (if zTg st o ∈ [21] then (Option.bind (zR st o 0) (fun b2 => (if zTg st b2 ∈ [12] then (Option.bind (zR st b2 10) (fun b4 => (if zTg st b4 ∈ [15] then (Option.bind (f_X5_size st b4) (fun r7 => (if r7 ≤ x5 then (some x4) else (Option.bind (f_X5_get st b4 x5) (fun r9 => (zl (a1 - r9) (fun v10 => (if v10 ≤ 0 then (f_X11_costOfStock_56 N st o a1 a2 a3 (f_X11_costOfStock_6 N st o a1 a2 a3 n6) x5 ((-v10) * a3) x4) else (f_X11_costOfStock_56 N st o a1 a2 a3 (f_X11_costOfStock_6 N st o a1 a2 a3 n6) x5 (v10 * a2) x4))))))))) else none))) else none))) else none)
def f_X11_costOfStock (N : Nat) (st : zS) (o : Nat) (a1 : Int32) (a2 : Int32) (a3 : Int32) : Option Int32 := (f_X11_costOfStock_6 N st o a1 a2 a3 N (nI 0) (nI 0))
set_option maxHeartbeats 1000000 in
set_option maxRecDepth 100000 in
theorem c_X11_costOfStock (l : Launch) (G : zG) (N : Nat) (st : zS) (o : Nat) (a1 : Int32) (a2 : Int32) (a3 : Int32) {r : Int32} (h : f_X11_costOfStock N st o a1 a2 a3 = some r) : zMet l G yX11_costOfStock cX11_costOfStock 7 (some .int) 1 0 0 [.ref (G.2.2.2 + o), .int a1, .int a2, .int a3] st (some (.int r)) st := by
  refine zMet_of (by decide +kernel) ?_
  intro p e s m args below meth c X
  obtain ⟨hx, hb, hr, hml, hown, hq, hlk, hK, -, hin, hW, hS⟩ := X
  have hown : s.vm.findClass RX11 = some m.cls := hown
  refine z_ent (by exact Nat.le_of_ble_eq_true rfl) (fun ls hl => ?_)
  have hl : lv_has ls 7 [(0, .ref (G.2.2.2 + o)), (1, .int a1), (2, .int a2), (3, .int a3)] := hl
  unfold f_X11_costOfStock at h
  have B6 : ∀ (n6 : Nat) (x4 : Int32) (x5 : Int32) (H : Heap) (locs : List Loc) (ls : Array Slot), f_X11_costOfStock_6 N st o a1 a2 a3 n6 x4 x5 = some r → zWd G st H → va_S (zA G) s.heap H locs → lv_has ls 7 [(0, .ref (G.2.2.2 + o)), (1, .int a1), (2, .int a2), (3, .int a3), (4, .int x4), (5, .int x5)] → W p l e (zRm 1 0 0) s m args below meth c H locs 0 0 (MQ below (zQ G (some (.int r)) st) args s 0 0 (zA G)) (F0 m 6 ls []) := by
    intro n6
    induction n6 with
    | zero =>
      intro x4 x5 H locs ls h
      unfold f_X11_costOfStock_6 at h
      cases h
    | succ n6 ih6 =>
      have B56 : ∀ (x5 : Int32) (y0 : Int32) (y1 : Int32) (H : Heap) (locs : List Loc) (ls : Array Slot), f_X11_costOfStock_56 N st o a1 a2 a3 (f_X11_costOfStock_6 N st o a1 a2 a3 n6) x5 y0 y1 = some r → zWd G st H → va_S (zA G) s.heap H locs → lv_has ls 7 [(0, .ref (G.2.2.2 + o)), (1, .int a1), (2, .int a2), (3, .int a3), (5, .int x5)] → W p l e (zRm 1 0 0) s m args below meth c H locs 0 0 (MQ below (zQ G (some (.int r)) st) args s 0 0 (zA G)) (F0 m 56 ls [.int y0, .int y1]) := by
        intro x5 y0 y1 H locs ls h hW hS hl
        unfold f_X11_costOfStock_56 at h
        refine lv_iadd hx hb dX11_costOfStock_56 ?_
        refine lv_topi (fun v11 ev11 => ?_)
        have h := zl_at ev11 h
        refine lv_istore (lv' := [(4, .int v11), (0, .ref (G.2.2.2 + o)), (1, .int a1), (2, .int a2), (3, .int a3), (5, .int x5)]) hx hb dX11_costOfStock_57 hl (by decide) rfl (fun ls hl => ?_)
        refine lv_iinc (v := (x5 + (nI 1))) (lv' := [(5, .int ((x5 + (nI 1)))), (4, .int v11), (0, .ref (G.2.2.2 + o)), (1, .int a1), (2, .int a2), (3, .int a3)]) hx hb dX11_costOfStock_59 hl (k := 5) rfl rfl (by decide) rfl (fun ls hl => ?_)
        refine lv_goto (tgt := 6) hx hb dX11_costOfStock_62 (by decide) ?_
        exact ih6 v11 (x5 + (nI 1)) _ _ _ h hW hS (lv_sub hl [2, 3, 4, 5, 1, 0] rfl)
      intro x4 x5 H locs ls h hW hS hl
      unfold f_X11_costOfStock_6 at h
      refine lv_iload hx hb dX11_costOfStock_6 (lv_at hl 5 rfl) ?_
      refine lv_aload_n hx hb dX11_costOfStock_8 rfl (lv_at hl 0 rfl) ?_
      obtain ⟨t1, h⟩ := zc_at h
      obtain ⟨b2, hb2, h⟩ := zd_at h
      refine z_gR hx hb hq hown hK hW fs_RX11_12 t1 hb2 dX11_costOfStock_9 ?_
      obtain ⟨t3, h⟩ := zc_at h
      obtain ⟨b4, hb4, h⟩ := zd_at h
      refine z_gR hx hb hq hown hK hW fs_RX11_204 t3 hb4 dX11_costOfStock_12 ?_
      obtain ⟨t5, h⟩ := zc_at h
      obtain ⟨r7, c6, h⟩ := zd_at h
      refine z_cV hx hb hq hml hown hK hW hS 5 [] [.int x5] rfl (List.mem_singleton.mp t5) (c_X5_size l G st b4 c6) (zi zm82) (zi zm83) (zi zm84) (zi zm32) (zi zm85) cal_X5_size rfl rfl hl.1 rfl (Nat.le_of_ble_eq_true rfl) (zR_ok (by omega) (by decide)) ⟨(Nat.le_of_ble_eq_true rfl), (Nat.le_of_ble_eq_true rfl)⟩ dX11_costOfStock_15 (fun H locs hW hS => ?_)
      refine W.eq (g2 := F0 m 18 ls [.int r7, .int x5]) rfl ?_
      refine z_br (lv_icmp_ge (tgt := 65) hx hb dX11_costOfStock_18 (by decide)) h (fun h => ?_) (fun h => ?_)
      · refine lv_iload hx hb dX11_costOfStock_65 (lv_at hl 4 rfl) ?_
        obtain rfl := Option.some.inj h
        exact z_ri hx hb hr hlk hW hS (Nat.le_of_ble_eq_true rfl) (Nat.le_of_ble_eq_true rfl) dX11_costOfStock_67
      · refine lv_iload_n hx hb dX11_costOfStock_21 rfl (lv_at hl 1 rfl) ?_
        refine lv_aload_n hx hb dX11_costOfStock_22 rfl (lv_at hl 0 rfl) ?_
        refine z_gR hx hb hq hown hK hW fs_RX11_12 t1 hb2 dX11_costOfStock_23 ?_
        refine z_gR hx hb hq hown hK hW fs_RX11_204 t3 hb4 dX11_costOfStock_26 ?_
        refine lv_iload hx hb dX11_costOfStock_29 (lv_at hl 5 rfl) ?_
        obtain ⟨r9, c8, h⟩ := zd_at h
        refine z_cV hx hb hq hml hown hK hW hS 5 [.int x5] [.int a1] rfl (List.mem_singleton.mp t5) (c_X5_get l G st b4 x5 c8) (zi zm619) (zi zm109) (zi zm110) (zi zm32) (zi zm111) cal_X5_get rfl rfl hl.1 rfl (Nat.le_of_ble_eq_true rfl) (zR_ok (by omega) (by decide)) ⟨(Nat.le_of_ble_eq_true rfl), (Nat.le_of_ble_eq_true rfl)⟩ dX11_costOfStock_31 (fun H locs hW hS => ?_)
        refine W.eq (g2 := F0 m 34 ls [.int r9, .int a1]) rfl ?_
        refine lv_isub hx hb dX11_costOfStock_34 ?_
        refine lv_topi (fun v10 ev10 => ?_)
        have h := zl_at ev10 h
        refine lv_istore (lv' := [(6, .int v10), (0, .ref (G.2.2.2 + o)), (1, .int a1), (2, .int a2), (3, .int a3), (4, .int x4), (5, .int x5)]) hx hb dX11_costOfStock_35 hl (by decide) rfl (fun ls hl => ?_)
        refine lv_iload hx hb dX11_costOfStock_37 (lv_at hl 5 rfl) ?_
        refine lv_iload hx hb dX11_costOfStock_39 (lv_at hl 0 rfl) ?_
        refine z_br (lv_if_le (tgt := 51) hx hb dX11_costOfStock_41 (by decide)) h (fun h => ?_) (fun h => ?_)
        · refine lv_iload hx hb dX11_costOfStock_51 (lv_at hl 0 rfl) ?_
          refine lv_ineg hx hb dX11_costOfStock_53 ?_
          refine lv_iload_n hx hb dX11_costOfStock_54 rfl (lv_at hl 4 rfl) ?_
          refine lv_imul hx hb dX11_costOfStock_55 ?_
          exact B56 x5 ((-v10) * a3) x4 _ _ _ h hW hS (lv_sub hl [1, 2, 3, 4, 6] rfl)
        · refine lv_iload hx hb dX11_costOfStock_44 (lv_at hl 0 rfl) ?_
          refine lv_iload_n hx hb dX11_costOfStock_46 rfl (lv_at hl 3 rfl) ?_
          refine lv_imul hx hb dX11_costOfStock_47 ?_
          refine lv_goto (tgt := 56) hx hb dX11_costOfStock_48 (by decide) ?_
          exact B56 x5 (v10 * a2) x4 _ _ _ h hW hS (lv_sub hl [1, 2, 3, 4, 6] rfl)
  refine lv_iconst (v := (nI 0)) hx hb dX11_costOfStock_0 (by decide) ?_
  refine lv_istore (lv' := [(4, .int ((nI 0))), (0, .ref (G.2.2.2 + o)), (1, .int a1), (2, .int a2), (3, .int a3)]) hx hb dX11_costOfStock_1 hl (by decide) rfl (fun ls hl => ?_)
  refine lv_iconst (v := (nI 0)) hx hb dX11_costOfStock_3 (by decide) ?_
  refine lv_istore (lv' := [(5, .int ((nI 0))), (4, .int ((nI 0))), (0, .ref (G.2.2.2 + o)), (1, .int a1), (2, .int a2), (3, .int a3)]) hx hb dX11_costOfStock_4 hl (by decide) rfl (fun ls hl => ?_)
  exact B6 N (nI 0) (nI 0) _ _ _ h hW hS (lv_sub hl [2, 3, 4, 5, 1, 0] rfl)
def f_X11_bestStock_33 (N : Nat) (st : zS) (o : Nat) (a1 : Int32) (a2 : Int32) (k5 : Int32 → Int32 → Option Int32) (x3 : Int32) (x4 : Int32) : Option Int32 := (k5 x3 (x4 + (nI 1)))
def f_X11_bestStock_5 (N : Nat) (st : zS) (o : Nat) (a1 : Int32) (a2 : Int32)  : Nat → Int32 → Int32 → Option Int32
  | 0, _, _ => none
  | n5 + 1, x3, x4 => (if (nI 40) < x4 then (some x3) else (if zTg st o ∈ [21] then (Option.bind (f_X11_costOfStock N st o x4 a1 a2) (fun r3 => (Option.bind (f_X11_costOfStock N st o x3 a1 a2) (fun r5 => (if r5 ≤ r3 then (f_X11_bestStock_33 N st o a1 a2 (f_X11_bestStock_5 N st o a1 a2 n5) x3 x4) else (f_X11_bestStock_33 N st o a1 a2 (f_X11_bestStock_5 N st o a1 a2 n5) x4 x4)))))) else none))
def f_X11_bestStock (N : Nat) (st : zS) (o : Nat) (a1 : Int32) (a2 : Int32) : Option Int32 := (f_X11_bestStock_5 N st o a1 a2 N (nI 0) (nI 1))
set_option maxHeartbeats 1000000 in
set_option maxRecDepth 100000 in
theorem c_X11_bestStock (l : Launch) (G : zG) (N : Nat) (st : zS) (o : Nat) (a1 : Int32) (a2 : Int32) {r : Int32} (h : f_X11_bestStock N st o a1 a2 = some r) : zMet l G yX11_bestStock cX11_bestStock 5 (some .int) 2 0 0 [.ref (G.2.2.2 + o), .int a1, .int a2] st (some (.int r)) st := by
  refine zMet_of (by decide +kernel) ?_
  intro p e s m args below meth c X
  obtain ⟨hx, hb, hr, hml, hown, hq, hlk, hK, -, hin, hW, hS⟩ := X
  have hown : s.vm.findClass RX11 = some m.cls := hown
  refine z_ent (by exact Nat.le_of_ble_eq_true rfl) (fun ls hl => ?_)
  have hl : lv_has ls 5 [(0, .ref (G.2.2.2 + o)), (1, .int a1), (2, .int a2)] := hl
  unfold f_X11_bestStock at h
  have B5 : ∀ (n5 : Nat) (x3 : Int32) (x4 : Int32) (H : Heap) (locs : List Loc) (ls : Array Slot), f_X11_bestStock_5 N st o a1 a2 n5 x3 x4 = some r → zWd G st H → va_S (zA G) s.heap H locs → lv_has ls 5 [(0, .ref (G.2.2.2 + o)), (1, .int a1), (2, .int a2), (3, .int x3), (4, .int x4)] → W p l e (zRm 2 0 0) s m args below meth c H locs 0 0 (MQ below (zQ G (some (.int r)) st) args s 0 0 (zA G)) (F0 m 5 ls []) := by
    intro n5
    induction n5 with
    | zero =>
      intro x3 x4 H locs ls h
      unfold f_X11_bestStock_5 at h
      cases h
    | succ n5 ih5 =>
      have B33 : ∀ (x3 : Int32) (x4 : Int32) (H : Heap) (locs : List Loc) (ls : Array Slot), f_X11_bestStock_33 N st o a1 a2 (f_X11_bestStock_5 N st o a1 a2 n5) x3 x4 = some r → zWd G st H → va_S (zA G) s.heap H locs → lv_has ls 5 [(0, .ref (G.2.2.2 + o)), (1, .int a1), (2, .int a2), (3, .int x3), (4, .int x4)] → W p l e (zRm 2 0 0) s m args below meth c H locs 0 0 (MQ below (zQ G (some (.int r)) st) args s 0 0 (zA G)) (F0 m 33 ls []) := by
        intro x3 x4 H locs ls h hW hS hl
        unfold f_X11_bestStock_33 at h
        refine lv_iinc (v := (x4 + (nI 1))) (lv' := [(4, .int ((x4 + (nI 1)))), (0, .ref (G.2.2.2 + o)), (1, .int a1), (2, .int a2), (3, .int x3)]) hx hb dX11_bestStock_33 hl (k := 4) rfl rfl (by decide) rfl (fun ls hl => ?_)
        refine lv_goto (tgt := 5) hx hb dX11_bestStock_36 (by decide) ?_
        exact ih5 x3 (x4 + (nI 1)) _ _ _ h hW hS (lv_sub hl [1, 2, 3, 4, 0] rfl)
      intro x3 x4 H locs ls h hW hS hl
      unfold f_X11_bestStock_5 at h
      refine lv_iload hx hb dX11_bestStock_5 (lv_at hl 4 rfl) ?_
      refine lv_bipush (v := (nI 40)) hx hb dX11_bestStock_7 (by decide) ?_
      refine z_br (lv_icmp_gt (tgt := 39) hx hb dX11_bestStock_9 (by decide)) h (fun h => ?_) (fun h => ?_)
      · refine lv_iload_n hx hb dX11_bestStock_39 rfl (lv_at hl 3 rfl) ?_
        obtain rfl := Option.some.inj h
        exact z_ri hx hb hr hlk hW hS (Nat.le_of_ble_eq_true rfl) (Nat.le_of_ble_eq_true rfl) dX11_bestStock_40
      · refine lv_aload_n hx hb dX11_bestStock_12 rfl (lv_at hl 0 rfl) ?_
        refine lv_iload hx hb dX11_bestStock_13 (lv_at hl 4 rfl) ?_
        refine lv_iload_n hx hb dX11_bestStock_15 rfl (lv_at hl 1 rfl) ?_
        refine lv_iload_n hx hb dX11_bestStock_16 rfl (lv_at hl 2 rfl) ?_
        obtain ⟨t1, h⟩ := zc_at h
        obtain ⟨r3, c2, h⟩ := zd_at h
        refine z_cV hx hb hq hml hown hK hW hS 11 [.int x4, .int a1, .int a2] [] rfl (List.mem_singleton.mp t1) (c_X11_costOfStock l G N st o x4 a1 a2 c2) (zi zm907) (zi zm908) (zi zm909) (zi zm2) (zi zm910) cal_X11_costOfStock rfl rfl hl.1 rfl (Nat.le_of_ble_eq_true rfl) (zR_ok (by omega) (by decide)) ⟨(Nat.le_of_ble_eq_true rfl), (Nat.le_of_ble_eq_true rfl)⟩ dX11_bestStock_17 (fun H locs hW hS => ?_)
        refine W.eq (g2 := F0 m 20 ls [.int r3]) rfl ?_
        refine lv_aload_n hx hb dX11_bestStock_20 rfl (lv_at hl 0 rfl) ?_
        refine lv_iload_n hx hb dX11_bestStock_21 rfl (lv_at hl 3 rfl) ?_
        refine lv_iload_n hx hb dX11_bestStock_22 rfl (lv_at hl 1 rfl) ?_
        refine lv_iload_n hx hb dX11_bestStock_23 rfl (lv_at hl 2 rfl) ?_
        obtain ⟨r5, c4, h⟩ := zd_at h
        refine z_cV hx hb hq hml hown hK hW hS 11 [.int x3, .int a1, .int a2] [.int r3] rfl (List.mem_singleton.mp t1) (c_X11_costOfStock l G N st o x3 a1 a2 c4) (zi zm907) (zi zm908) (zi zm909) (zi zm2) (zi zm910) cal_X11_costOfStock rfl rfl hl.1 rfl (Nat.le_of_ble_eq_true rfl) (zR_ok (by omega) (by decide)) ⟨(Nat.le_of_ble_eq_true rfl), (Nat.le_of_ble_eq_true rfl)⟩ dX11_bestStock_24 (fun H locs hW hS => ?_)
        refine W.eq (g2 := F0 m 27 ls [.int r5, .int r3]) rfl ?_
        refine z_br (lv_icmp_ge (tgt := 33) hx hb dX11_bestStock_27 (by decide)) h (fun h => ?_) (fun h => ?_)
        · exact B33 x3 x4 _ _ _ h hW hS (lv_sub hl [0, 1, 2, 3, 4] rfl)
        · refine lv_iload hx hb dX11_bestStock_30 (lv_at hl 4 rfl) ?_
          refine lv_istore_n (lv' := [(3, .int x4), (0, .ref (G.2.2.2 + o)), (1, .int a1), (2, .int a2), (4, .int x4)]) hx hb dX11_bestStock_32 rfl hl (by decide) rfl (fun ls hl => ?_)
          exact B33 x4 x4 _ _ _ h hW hS (lv_sub hl [1, 2, 3, 0, 4] rfl)
  refine lv_iconst (v := (nI 0)) hx hb dX11_bestStock_0 (by decide) ?_
  refine lv_istore_n (lv' := [(3, .int ((nI 0))), (0, .ref (G.2.2.2 + o)), (1, .int a1), (2, .int a2)]) hx hb dX11_bestStock_1 rfl hl (by decide) rfl (fun ls hl => ?_)
  refine lv_iconst (v := (nI 1)) hx hb dX11_bestStock_2 (by decide) ?_
  refine lv_istore (lv' := [(4, .int ((nI 1))), (3, .int ((nI 0))), (0, .ref (G.2.2.2 + o)), (1, .int a1), (2, .int a2)]) hx hb dX11_bestStock_3 hl (by decide) rfl (fun ls hl => ?_)
  exact B5 N (nI 0) (nI 1) _ _ _ h hW hS (lv_sub hl [2, 3, 4, 1, 0] rfl)
def f_X11_stock (N : Nat) (st : zS) (o : Nat) (a1 : Int32) (a2 : Int32) : Option Int32 := (Option.bind (f_X11_isCost a1) (fun r2 => (if r2 = 0 then (some (-2 : Int32)) else (Option.bind (f_X11_isCost a2) (fun r4 => (if r4 = 0 then (some (-2 : Int32)) else (if zTg st o ∈ [21] then (Option.bind (zR st o 0) (fun b6 => (if zTg st b6 ∈ [12] then (Option.bind (zR st b6 10) (fun b8 => (if zTg st b8 ∈ [15] then (Option.bind (f_X5_size st b8) (fun r11 => (if r11 = 0 then (some (-5 : Int32)) else (Option.bind (f_X11_bestStock N st o a1 a2) (fun r13 => (some r13)))))) else none))) else none))) else none)))))))
set_option maxHeartbeats 1000000 in
set_option maxRecDepth 100000 in
theorem c_X11_stock (l : Launch) (G : zG) (N : Nat) (st : zS) (o : Nat) (a1 : Int32) (a2 : Int32) {r : Int32} (h : f_X11_stock N st o a1 a2 = some r) : zMet l G yX11_stock cX11_stock 3 (some .int) 3 0 0 [.ref (G.2.2.2 + o), .int a1, .int a2] st (some (.int r)) st := by
  refine zMet_of (by decide +kernel) ?_
  intro p e s m args below meth c X
  obtain ⟨hx, hb, hr, hml, hown, hq, hlk, hK, -, hin, hW, hS⟩ := X
  have hown : s.vm.findClass RX11 = some m.cls := hown
  refine z_ent (by exact Nat.le_of_ble_eq_true rfl) (fun ls hl => ?_)
  have hl : lv_has ls 3 [(0, .ref (G.2.2.2 + o)), (1, .int a1), (2, .int a2)] := hl
  unfold f_X11_stock at h
  refine lv_iload_n hx hb dX11_stock_0 rfl (lv_at hl 1 rfl) ?_
  obtain ⟨r2, c1, h⟩ := zd_at h
  refine z_cS hx hb hq hml hown hK hW hS [.int a1] [] (c_X11_isCost l G st a1 c1) (zi zm900) (zi zm901) (zi zm2) (zi zm902) cal_X11_isCost rfl hl.1 rfl (Nat.le_of_ble_eq_true rfl) (zR_ok (by omega) (by decide)) ⟨(Nat.le_of_ble_eq_true rfl), (Nat.le_of_ble_eq_true rfl)⟩ dX11_stock_1 (fun H locs hW hS => ?_)
  refine W.eq (g2 := F0 m 4 ls [.int r2]) rfl ?_
  refine z_br (lv_if_eq (tgt := 14) hx hb dX11_stock_4 (by decide)) h (fun h => ?_) (fun h => ?_)
  · refine lv_bipush (v := (-2)) hx hb dX11_stock_14 (by decide) ?_
    obtain rfl := Option.some.inj h
    exact z_ri hx hb hr hlk hW hS (Nat.le_of_ble_eq_true rfl) (Nat.le_of_ble_eq_true rfl) dX11_stock_16
  · refine lv_iload_n hx hb dX11_stock_7 rfl (lv_at hl 2 rfl) ?_
    obtain ⟨r4, c3, h⟩ := zd_at h
    refine z_cS hx hb hq hml hown hK hW hS [.int a2] [] (c_X11_isCost l G st a2 c3) (zi zm900) (zi zm901) (zi zm2) (zi zm902) cal_X11_isCost rfl hl.1 rfl (Nat.le_of_ble_eq_true rfl) (zR_ok (by omega) (by decide)) ⟨(Nat.le_of_ble_eq_true rfl), (Nat.le_of_ble_eq_true rfl)⟩ dX11_stock_8 (fun H locs hW hS => ?_)
    refine W.eq (g2 := F0 m 11 ls [.int r4]) rfl ?_
    refine z_brn (lv_if_ne (tgt := 17) hx hb dX11_stock_11 (by decide)) h (fun h => ?_) (fun h => ?_)
    · refine lv_aload_n hx hb dX11_stock_17 rfl (lv_at hl 0 rfl) ?_
      obtain ⟨t5, h⟩ := zc_at h
      obtain ⟨b6, hb6, h⟩ := zd_at h
      refine z_gR hx hb hq hown hK hW fs_RX11_12 t5 hb6 dX11_stock_18 ?_
      obtain ⟨t7, h⟩ := zc_at h
      obtain ⟨b8, hb8, h⟩ := zd_at h
      refine z_gR hx hb hq hown hK hW fs_RX11_204 t7 hb8 dX11_stock_21 ?_
      obtain ⟨t9, h⟩ := zc_at h
      obtain ⟨r11, c10, h⟩ := zd_at h
      refine z_cV hx hb hq hml hown hK hW hS 5 [] [] rfl (List.mem_singleton.mp t9) (c_X5_size l G st b8 c10) (zi zm82) (zi zm83) (zi zm84) (zi zm32) (zi zm85) cal_X5_size rfl rfl hl.1 rfl (Nat.le_of_ble_eq_true rfl) (zR_ok (by omega) (by decide)) ⟨(Nat.le_of_ble_eq_true rfl), (Nat.le_of_ble_eq_true rfl)⟩ dX11_stock_24 (fun H locs hW hS => ?_)
      refine W.eq (g2 := F0 m 27 ls [.int r11]) rfl ?_
      refine z_brn (lv_if_ne (tgt := 35) hx hb dX11_stock_27 (by decide)) h (fun h => ?_) (fun h => ?_)
      · refine lv_aload_n hx hb dX11_stock_35 rfl (lv_at hl 0 rfl) ?_
        refine lv_iload_n hx hb dX11_stock_36 rfl (lv_at hl 1 rfl) ?_
        refine lv_iload_n hx hb dX11_stock_37 rfl (lv_at hl 2 rfl) ?_
        obtain ⟨r13, c12, h⟩ := zd_at h
        refine z_cV hx hb hq hml hown hK hW hS 11 [.int a1, .int a2] [] rfl (List.mem_singleton.mp t5) (c_X11_bestStock l G N st o a1 a2 c12) (zi zm903) (zi zm904) (zi zm905) (zi zm2) (zi zm906) cal_X11_bestStock rfl rfl hl.1 rfl (Nat.le_of_ble_eq_true rfl) (zR_ok (by omega) (by decide)) ⟨(Nat.le_of_ble_eq_true rfl), (Nat.le_of_ble_eq_true rfl)⟩ dX11_stock_38 (fun H locs hW hS => ?_)
        refine W.eq (g2 := F0 m 41 ls [.int r13]) rfl ?_
        obtain rfl := Option.some.inj h
        exact z_ri hx hb hr hlk hW hS (Nat.le_of_ble_eq_true rfl) (Nat.le_of_ble_eq_true rfl) dX11_stock_41
      · refine lv_bipush (v := (-5)) hx hb dX11_stock_30 (by decide) ?_
        refine lv_goto (tgt := 41) hx hb dX11_stock_32 (by decide) ?_
        obtain rfl := Option.some.inj h
        exact z_ri hx hb hr hlk hW hS (Nat.le_of_ble_eq_true rfl) (Nat.le_of_ble_eq_true rfl) dX11_stock_41
    · refine lv_bipush (v := (-2)) hx hb dX11_stock_14 (by decide) ?_
      obtain rfl := Option.some.inj h
      exact z_ri hx hb hr hlk hW hS (Nat.le_of_ble_eq_true rfl) (Nat.le_of_ble_eq_true rfl) dX11_stock_16
def f_X11_mean (N : Nat) (st : zS) (o : Nat) (a1 : Int32) (a2 : Int32) (a3 : Int32) : Option Int64 := (Option.bind (f_X11_isCost a1) (fun r2 => (if r2 = 0 then (some (-9223372036854775808 : Int64)) else (Option.bind (f_X11_isCost a2) (fun r4 => (if r4 = 0 then (some (-9223372036854775808 : Int64)) else (if zTg st o ∈ [21] then (Option.bind (zR st o 0) (fun b6 => (if zTg st b6 ∈ [12] then (Option.bind (zR st b6 10) (fun b8 => (if zTg st b8 ∈ [15] then (Option.bind (f_X5_size st b8) (fun r11 => (if r11 = 0 then (some (-9223372036854775808 : Int64)) else (Option.bind (f_X11_bestStock N st o a1 a2) (fun r13 => (Option.bind (f_X11_costOfStock N st o r13 a1 a2) (fun r15 => (Option.bind (f_X5_size st b8) (fun r17 => (Option.bind (f_X11_lowest N ((r15).toInt64) ((r17).toInt64) a3) (fun r19 => (some r19)))))))))))) else none))) else none))) else none)))))))
set_option maxHeartbeats 1000000 in
set_option maxRecDepth 100000 in
theorem c_X11_mean (l : Launch) (G : zG) (N : Nat) (st : zS) (o : Nat) (a1 : Int32) (a2 : Int32) (a3 : Int32) {r : Int64} (h : f_X11_mean N st o a1 a2 a3 = some r) : zMet l G yX11_mean cX11_mean 4 (some .long) 3 0 0 [.ref (G.2.2.2 + o), .int a1, .int a2, .int a3] st (some (.long r)) st := by
  refine zMet_of (by decide +kernel) ?_
  intro p e s m args below meth c X
  obtain ⟨hx, hb, hr, hml, hown, hq, hlk, hK, -, hin, hW, hS⟩ := X
  have hown : s.vm.findClass RX11 = some m.cls := hown
  refine z_ent (by exact Nat.le_of_ble_eq_true rfl) (fun ls hl => ?_)
  have hl : lv_has ls 4 [(0, .ref (G.2.2.2 + o)), (1, .int a1), (2, .int a2), (3, .int a3)] := hl
  unfold f_X11_mean at h
  refine lv_iload_n hx hb dX11_mean_0 rfl (lv_at hl 1 rfl) ?_
  obtain ⟨r2, c1, h⟩ := zd_at h
  refine z_cS hx hb hq hml hown hK hW hS [.int a1] [] (c_X11_isCost l G st a1 c1) (zi zm900) (zi zm901) (zi zm2) (zi zm902) cal_X11_isCost rfl hl.1 rfl (Nat.le_of_ble_eq_true rfl) (zR_ok (by omega) (by decide)) ⟨(Nat.le_of_ble_eq_true rfl), (Nat.le_of_ble_eq_true rfl)⟩ dX11_mean_1 (fun H locs hW hS => ?_)
  refine W.eq (g2 := F0 m 4 ls [.int r2]) rfl ?_
  refine z_br (lv_if_eq (tgt := 27) hx hb dX11_mean_4 (by decide)) h (fun h => ?_) (fun h => ?_)
  · refine lv_ldc2 (v := (-9223372036854775808)) hx hb hown (hq _ (zi zm729)) dX11_mean_27 ?_
    obtain rfl := Option.some.inj h
    exact z_rl hx hb hr hlk hW hS (Nat.le_of_ble_eq_true rfl) (Nat.le_of_ble_eq_true rfl) dX11_mean_30
  · refine lv_iload_n hx hb dX11_mean_7 rfl (lv_at hl 2 rfl) ?_
    obtain ⟨r4, c3, h⟩ := zd_at h
    refine z_cS hx hb hq hml hown hK hW hS [.int a2] [] (c_X11_isCost l G st a2 c3) (zi zm900) (zi zm901) (zi zm2) (zi zm902) cal_X11_isCost rfl hl.1 rfl (Nat.le_of_ble_eq_true rfl) (zR_ok (by omega) (by decide)) ⟨(Nat.le_of_ble_eq_true rfl), (Nat.le_of_ble_eq_true rfl)⟩ dX11_mean_8 (fun H locs hW hS => ?_)
    refine W.eq (g2 := F0 m 11 ls [.int r4]) rfl ?_
    refine z_br (lv_if_eq (tgt := 27) hx hb dX11_mean_11 (by decide)) h (fun h => ?_) (fun h => ?_)
    · refine lv_ldc2 (v := (-9223372036854775808)) hx hb hown (hq _ (zi zm729)) dX11_mean_27 ?_
      obtain rfl := Option.some.inj h
      exact z_rl hx hb hr hlk hW hS (Nat.le_of_ble_eq_true rfl) (Nat.le_of_ble_eq_true rfl) dX11_mean_30
    · refine lv_aload_n hx hb dX11_mean_14 rfl (lv_at hl 0 rfl) ?_
      obtain ⟨t5, h⟩ := zc_at h
      obtain ⟨b6, hb6, h⟩ := zd_at h
      refine z_gR hx hb hq hown hK hW fs_RX11_12 t5 hb6 dX11_mean_15 ?_
      obtain ⟨t7, h⟩ := zc_at h
      obtain ⟨b8, hb8, h⟩ := zd_at h
      refine z_gR hx hb hq hown hK hW fs_RX11_204 t7 hb8 dX11_mean_18 ?_
      obtain ⟨t9, h⟩ := zc_at h
      obtain ⟨r11, c10, h⟩ := zd_at h
      refine z_cV hx hb hq hml hown hK hW hS 5 [] [] rfl (List.mem_singleton.mp t9) (c_X5_size l G st b8 c10) (zi zm82) (zi zm83) (zi zm84) (zi zm32) (zi zm85) cal_X5_size rfl rfl hl.1 rfl (Nat.le_of_ble_eq_true rfl) (zR_ok (by omega) (by decide)) ⟨(Nat.le_of_ble_eq_true rfl), (Nat.le_of_ble_eq_true rfl)⟩ dX11_mean_21 (fun H locs hW hS => ?_)
      refine W.eq (g2 := F0 m 24 ls [.int r11]) rfl ?_
      refine z_brn (lv_if_ne (tgt := 31) hx hb dX11_mean_24 (by decide)) h (fun h => ?_) (fun h => ?_)
      · refine lv_aload_n hx hb dX11_mean_31 rfl (lv_at hl 0 rfl) ?_
        refine lv_aload_n hx hb dX11_mean_32 rfl (lv_at hl 0 rfl) ?_
        refine lv_iload_n hx hb dX11_mean_33 rfl (lv_at hl 1 rfl) ?_
        refine lv_iload_n hx hb dX11_mean_34 rfl (lv_at hl 2 rfl) ?_
        obtain ⟨r13, c12, h⟩ := zd_at h
        refine z_cV hx hb hq hml hown hK hW hS 11 [.int a1, .int a2] [.ref (G.2.2.2 + o)] rfl (List.mem_singleton.mp t5) (c_X11_bestStock l G N st o a1 a2 c12) (zi zm903) (zi zm904) (zi zm905) (zi zm2) (zi zm906) cal_X11_bestStock rfl rfl hl.1 rfl (Nat.le_of_ble_eq_true rfl) (zR_ok (by omega) (by decide)) ⟨(Nat.le_of_ble_eq_true rfl), (Nat.le_of_ble_eq_true rfl)⟩ dX11_mean_35 (fun H locs hW hS => ?_)
        refine W.eq (g2 := F0 m 38 ls [.int r13, .ref (G.2.2.2 + o)]) rfl ?_
        refine lv_iload_n hx hb dX11_mean_38 rfl (lv_at hl 1 rfl) ?_
        refine lv_iload_n hx hb dX11_mean_39 rfl (lv_at hl 2 rfl) ?_
        obtain ⟨r15, c14, h⟩ := zd_at h
        refine z_cV hx hb hq hml hown hK hW hS 11 [.int r13, .int a1, .int a2] [] rfl (List.mem_singleton.mp t5) (c_X11_costOfStock l G N st o r13 a1 a2 c14) (zi zm907) (zi zm908) (zi zm909) (zi zm2) (zi zm910) cal_X11_costOfStock rfl rfl hl.1 rfl (Nat.le_of_ble_eq_true rfl) (zR_ok (by omega) (by decide)) ⟨(Nat.le_of_ble_eq_true rfl), (Nat.le_of_ble_eq_true rfl)⟩ dX11_mean_40 (fun H locs hW hS => ?_)
        refine W.eq (g2 := F0 m 43 ls [.int r15]) rfl ?_
        refine lv_i2l (v := (r15).toInt64) hx hb dX11_mean_43 rfl ?_
        refine lv_aload_n hx hb dX11_mean_44 rfl (lv_at hl 0 rfl) ?_
        refine z_gR hx hb hq hown hK hW fs_RX11_12 t5 hb6 dX11_mean_45 ?_
        refine z_gR hx hb hq hown hK hW fs_RX11_204 t7 hb8 dX11_mean_48 ?_
        obtain ⟨r17, c16, h⟩ := zd_at h
        refine z_cV hx hb hq hml hown hK hW hS 5 [] [.long ((r15).toInt64)] rfl (List.mem_singleton.mp t9) (c_X5_size l G st b8 c16) (zi zm82) (zi zm83) (zi zm84) (zi zm32) (zi zm85) cal_X5_size rfl rfl hl.1 rfl (Nat.le_of_ble_eq_true rfl) (zR_ok (by omega) (by decide)) ⟨(Nat.le_of_ble_eq_true rfl), (Nat.le_of_ble_eq_true rfl)⟩ dX11_mean_51 (fun H locs hW hS => ?_)
        refine W.eq (g2 := F0 m 54 ls [.int r17, .long ((r15).toInt64)]) rfl ?_
        refine lv_i2l (v := (r17).toInt64) hx hb dX11_mean_54 rfl ?_
        refine lv_iload_n hx hb dX11_mean_55 rfl (lv_at hl 3 rfl) ?_
        obtain ⟨r19, c18, h⟩ := zd_at h
        refine z_cS hx hb hq hml hown hK hW hS [.long ((r15).toInt64), .long ((r17).toInt64), .int a3] [] (c_X11_lowest l G N st ((r15).toInt64) ((r17).toInt64) a3 c18) (zi zm726) (zi zm727) (zi zm2) (zi zm728) cal_X11_lowest rfl hl.1 rfl (Nat.le_of_ble_eq_true rfl) (zR_ok (by omega) (by decide)) ⟨(Nat.le_of_ble_eq_true rfl), (Nat.le_of_ble_eq_true rfl)⟩ dX11_mean_56 (fun H locs hW hS => ?_)
        refine W.eq (g2 := F0 m 59 ls [.long (r19)]) rfl ?_
        obtain rfl := Option.some.inj h
        exact z_rl hx hb hr hlk hW hS (Nat.le_of_ble_eq_true rfl) (Nat.le_of_ble_eq_true rfl) dX11_mean_59
      · refine lv_ldc2 (v := (-9223372036854775808)) hx hb hown (hq _ (zi zm729)) dX11_mean_27 ?_
        obtain rfl := Option.some.inj h
        exact z_rl hx hb hr hlk hW hS (Nat.le_of_ble_eq_true rfl) (Nat.le_of_ble_eq_true rfl) dX11_mean_30
def f_X11_isEntry (a0 : Int32) : Option Int32 := (if a0 < (-99 : Int32) then (some (nI 0)) else (if (nI 99) < a0 then (some (nI 0)) else (some (nI 1))))
set_option maxHeartbeats 1000000 in
set_option maxRecDepth 100000 in
theorem c_X11_isEntry (l : Launch) (G : zG) (st : zS) (a0 : Int32) {r : Int32} (h : f_X11_isEntry a0 = some r) : zMet l G yX11_isEntry cX11_isEntry 1 (some .boolean) 0 0 0 [.int a0] st (some (.int r)) st := by
  refine zMet_of (by decide +kernel) ?_
  intro p e s m args below meth c X
  obtain ⟨hx, hb, hr, hml, hown, hq, hlk, hK, -, hin, hW, hS⟩ := X
  have hown : s.vm.findClass RX11 = some m.cls := hown
  refine z_ent (by exact Nat.le_of_ble_eq_true rfl) (fun ls hl => ?_)
  have hl : lv_has ls 1 [(0, .int a0)] := hl
  unfold f_X11_isEntry at h
  refine lv_iload_n hx hb dX11_isEntry_0 rfl (lv_at hl 0 rfl) ?_
  refine lv_bipush (v := (-99)) hx hb dX11_isEntry_1 (by decide) ?_
  refine z_br (lv_icmp_lt (tgt := 16) hx hb dX11_isEntry_3 (by decide)) h (fun h => ?_) (fun h => ?_)
  · refine lv_iconst (v := (nI 0)) hx hb dX11_isEntry_16 (by decide) ?_
    obtain rfl := Option.some.inj h
    exact z_rz hx hb hr hlk rfl hW hS (Nat.le_of_ble_eq_true rfl) (Nat.le_of_ble_eq_true rfl) dX11_isEntry_17
  · refine lv_iload_n hx hb dX11_isEntry_6 rfl (lv_at hl 0 rfl) ?_
    refine lv_bipush (v := (nI 99)) hx hb dX11_isEntry_7 (by decide) ?_
    refine z_br (lv_icmp_gt (tgt := 16) hx hb dX11_isEntry_9 (by decide)) h (fun h => ?_) (fun h => ?_)
    · refine lv_iconst (v := (nI 0)) hx hb dX11_isEntry_16 (by decide) ?_
      obtain rfl := Option.some.inj h
      exact z_rz hx hb hr hlk rfl hW hS (Nat.le_of_ble_eq_true rfl) (Nat.le_of_ble_eq_true rfl) dX11_isEntry_17
    · refine lv_iconst (v := (nI 1)) hx hb dX11_isEntry_12 (by decide) ?_
      refine lv_goto (tgt := 17) hx hb dX11_isEntry_13 (by decide) ?_
      obtain rfl := Option.some.inj h
      exact z_rz hx hb hr hlk rfl hW hS (Nat.le_of_ble_eq_true rfl) (Nat.le_of_ble_eq_true rfl) dX11_isEntry_17
def f_X11_table (N : Nat) (o : Nat) (a1 : Int32) (a2 : Int32) (a3 : Int32) (a4 : Int32) (a5 : Int32) : Option Int64 := (Option.bind (f_X11_isEntry a1) (fun r2 => (if r2 = 0 then (some (-9223372036854775808 : Int64)) else (Option.bind (f_X11_isEntry a2) (fun r4 => (if r4 = 0 then (some (-9223372036854775808 : Int64)) else (Option.bind (f_X11_isEntry a3) (fun r6 => (if r6 = 0 then (some (-9223372036854775808 : Int64)) else (Option.bind (f_X11_isEntry a4) (fun r8 => (if r8 = 0 then (some (-9223372036854775808 : Int64)) else (zl (if (if a2 < a1 then a2 else a1) < (if a4 < a3 then a4 else a3) then (if a4 < a3 then a4 else a3) else (if a2 < a1 then a2 else a1)) (fun v9 => (zl (if (if a2 < a4 then a4 else a2) < (if a1 < a3 then a3 else a1) then (if a2 < a4 then a4 else a2) else (if a1 < a3 then a3 else a1)) (fun v10 => (if v9 = v10 then (Option.bind (f_X11_lowest N ((v9).toInt64) (lN 1) a5) (fun r14 => (some r14))) else (Option.bind (f_X11_lowest N ((((a1 * a4) - (a2 * a3))).toInt64) (((((a1 + a4) - a2) - a3)).toInt64) a5) (fun r12 => (some r12))))))))))))))))))))
set_option maxHeartbeats 1000000 in
set_option maxRecDepth 100000 in
theorem c_X11_table (l : Launch) (G : zG) (N : Nat) (st : zS) (o : Nat) (a1 : Int32) (a2 : Int32) (a3 : Int32) (a4 : Int32) (a5 : Int32) {r : Int64} (h : f_X11_table N o a1 a2 a3 a4 a5 = some r) : zMet l G yX11_table cX11_table 8 (some .long) 2 0 0 [.ref (G.2.2.2 + o), .int a1, .int a2, .int a3, .int a4, .int a5] st (some (.long r)) st := by
  refine zMet_of (by decide +kernel) ?_
  intro p e s m args below meth c X
  obtain ⟨hx, hb, hr, hml, hown, hq, hlk, hK, -, hin, hW, hS⟩ := X
  have hown : s.vm.findClass RX11 = some m.cls := hown
  refine z_ent (by exact Nat.le_of_ble_eq_true rfl) (fun ls hl => ?_)
  have hl : lv_has ls 8 [(0, .ref (G.2.2.2 + o)), (1, .int a1), (2, .int a2), (3, .int a3), (4, .int a4), (5, .int a5)] := hl
  unfold f_X11_table at h
  refine lv_iload_n hx hb dX11_table_0 rfl (lv_at hl 1 rfl) ?_
  obtain ⟨r2, c1, h⟩ := zd_at h
  refine z_cS hx hb hq hml hown hK hW hS [.int a1] [] (c_X11_isEntry l G st a1 c1) (zi zm933) (zi zm934) (zi zm2) (zi zm935) cal_X11_isEntry rfl hl.1 rfl (Nat.le_of_ble_eq_true rfl) (zR_ok (by omega) (by decide)) ⟨(Nat.le_of_ble_eq_true rfl), (Nat.le_of_ble_eq_true rfl)⟩ dX11_table_1 (fun H locs hW hS => ?_)
  refine W.eq (g2 := F0 m 4 ls [.int r2]) rfl ?_
  refine z_br (lv_if_eq (tgt := 29) hx hb dX11_table_4 (by decide)) h (fun h => ?_) (fun h => ?_)
  · refine lv_ldc2 (v := (-9223372036854775808)) hx hb hown (hq _ (zi zm729)) dX11_table_29 ?_
    obtain rfl := Option.some.inj h
    exact z_rl hx hb hr hlk hW hS (Nat.le_of_ble_eq_true rfl) (Nat.le_of_ble_eq_true rfl) dX11_table_32
  · refine lv_iload_n hx hb dX11_table_7 rfl (lv_at hl 2 rfl) ?_
    obtain ⟨r4, c3, h⟩ := zd_at h
    refine z_cS hx hb hq hml hown hK hW hS [.int a2] [] (c_X11_isEntry l G st a2 c3) (zi zm933) (zi zm934) (zi zm2) (zi zm935) cal_X11_isEntry rfl hl.1 rfl (Nat.le_of_ble_eq_true rfl) (zR_ok (by omega) (by decide)) ⟨(Nat.le_of_ble_eq_true rfl), (Nat.le_of_ble_eq_true rfl)⟩ dX11_table_8 (fun H locs hW hS => ?_)
    refine W.eq (g2 := F0 m 11 ls [.int r4]) rfl ?_
    refine z_br (lv_if_eq (tgt := 29) hx hb dX11_table_11 (by decide)) h (fun h => ?_) (fun h => ?_)
    · refine lv_ldc2 (v := (-9223372036854775808)) hx hb hown (hq _ (zi zm729)) dX11_table_29 ?_
      obtain rfl := Option.some.inj h
      exact z_rl hx hb hr hlk hW hS (Nat.le_of_ble_eq_true rfl) (Nat.le_of_ble_eq_true rfl) dX11_table_32
    · refine lv_iload_n hx hb dX11_table_14 rfl (lv_at hl 3 rfl) ?_
      obtain ⟨r6, c5, h⟩ := zd_at h
      refine z_cS hx hb hq hml hown hK hW hS [.int a3] [] (c_X11_isEntry l G st a3 c5) (zi zm933) (zi zm934) (zi zm2) (zi zm935) cal_X11_isEntry rfl hl.1 rfl (Nat.le_of_ble_eq_true rfl) (zR_ok (by omega) (by decide)) ⟨(Nat.le_of_ble_eq_true rfl), (Nat.le_of_ble_eq_true rfl)⟩ dX11_table_15 (fun H locs hW hS => ?_)
      refine W.eq (g2 := F0 m 18 ls [.int r6]) rfl ?_
      refine z_br (lv_if_eq (tgt := 29) hx hb dX11_table_18 (by decide)) h (fun h => ?_) (fun h => ?_)
      · refine lv_ldc2 (v := (-9223372036854775808)) hx hb hown (hq _ (zi zm729)) dX11_table_29 ?_
        obtain rfl := Option.some.inj h
        exact z_rl hx hb hr hlk hW hS (Nat.le_of_ble_eq_true rfl) (Nat.le_of_ble_eq_true rfl) dX11_table_32
      · refine lv_iload hx hb dX11_table_21 (lv_at hl 4 rfl) ?_
        obtain ⟨r8, c7, h⟩ := zd_at h
        refine z_cS hx hb hq hml hown hK hW hS [.int a4] [] (c_X11_isEntry l G st a4 c7) (zi zm933) (zi zm934) (zi zm2) (zi zm935) cal_X11_isEntry rfl hl.1 rfl (Nat.le_of_ble_eq_true rfl) (zR_ok (by omega) (by decide)) ⟨(Nat.le_of_ble_eq_true rfl), (Nat.le_of_ble_eq_true rfl)⟩ dX11_table_23 (fun H locs hW hS => ?_)
        refine W.eq (g2 := F0 m 26 ls [.int r8]) rfl ?_
        refine z_brn (lv_if_ne (tgt := 33) hx hb dX11_table_26 (by decide)) h (fun h => ?_) (fun h => ?_)
        · refine lv_iload_n hx hb dX11_table_33 rfl (lv_at hl 1 rfl) ?_
          refine lv_iload_n hx hb dX11_table_34 rfl (lv_at hl 2 rfl) ?_
          refine va_mmin hx hb (hml.trans hl.1.symm) hown (hq _ (zi zm775)) (hq _ (zi zm117)) (hq _ (zi zm53)) (hq _ (zi zm118)) (Nat.le_of_ble_eq_true rfl) (by show _ ≤ 60 * _; exact (Nat.le_of_ble_eq_true rfl)) (Nat.le_of_ble_eq_true rfl) (Nat.le_of_ble_eq_true rfl) dX11_table_35 ?_
          refine lv_iload_n hx hb dX11_table_38 rfl (lv_at hl 3 rfl) ?_
          refine lv_iload hx hb dX11_table_39 (lv_at hl 4 rfl) ?_
          refine va_mmin hx hb (hml.trans hl.1.symm) hown (hq _ (zi zm775)) (hq _ (zi zm117)) (hq _ (zi zm53)) (hq _ (zi zm118)) (Nat.le_of_ble_eq_true rfl) (by show _ ≤ 60 * _; exact (Nat.le_of_ble_eq_true rfl)) (Nat.le_of_ble_eq_true rfl) (Nat.le_of_ble_eq_true rfl) dX11_table_41 ?_
          refine va_mmax hx hb (hml.trans hl.1.symm) hown (hq _ (zi zm932)) (hq _ (zi zm52)) (hq _ (zi zm53)) (hq _ (zi zm54)) (Nat.le_of_ble_eq_true rfl) (by show _ ≤ 60 * _; exact (Nat.le_of_ble_eq_true rfl)) (Nat.le_of_ble_eq_true rfl) (Nat.le_of_ble_eq_true rfl) dX11_table_44 ?_
          refine lv_topi (fun v9 ev9 => ?_)
          have h := zl_at ev9 h
          refine lv_istore (lv' := [(6, .int v9), (0, .ref (G.2.2.2 + o)), (1, .int a1), (2, .int a2), (3, .int a3), (4, .int a4), (5, .int a5)]) hx hb dX11_table_47 hl (by decide) rfl (fun ls hl => ?_)
          refine lv_iload_n hx hb dX11_table_49 rfl (lv_at hl 2 rfl) ?_
          refine lv_iload_n hx hb dX11_table_50 rfl (lv_at hl 4 rfl) ?_
          refine va_mmax hx hb (hml.trans hl.1.symm) hown (hq _ (zi zm932)) (hq _ (zi zm52)) (hq _ (zi zm53)) (hq _ (zi zm54)) (Nat.le_of_ble_eq_true rfl) (by show _ ≤ 60 * _; exact (Nat.le_of_ble_eq_true rfl)) (Nat.le_of_ble_eq_true rfl) (Nat.le_of_ble_eq_true rfl) dX11_table_51 ?_
          refine lv_iload_n hx hb dX11_table_54 rfl (lv_at hl 3 rfl) ?_
          refine lv_iload hx hb dX11_table_55 (lv_at hl 5 rfl) ?_
          refine va_mmax hx hb (hml.trans hl.1.symm) hown (hq _ (zi zm932)) (hq _ (zi zm52)) (hq _ (zi zm53)) (hq _ (zi zm54)) (Nat.le_of_ble_eq_true rfl) (by show _ ≤ 60 * _; exact (Nat.le_of_ble_eq_true rfl)) (Nat.le_of_ble_eq_true rfl) (Nat.le_of_ble_eq_true rfl) dX11_table_57 ?_
          refine va_mmin hx hb (hml.trans hl.1.symm) hown (hq _ (zi zm775)) (hq _ (zi zm117)) (hq _ (zi zm53)) (hq _ (zi zm118)) (Nat.le_of_ble_eq_true rfl) (by show _ ≤ 60 * _; exact (Nat.le_of_ble_eq_true rfl)) (Nat.le_of_ble_eq_true rfl) (Nat.le_of_ble_eq_true rfl) dX11_table_60 ?_
          refine lv_topi (fun v10 ev10 => ?_)
          have h := zl_at ev10 h
          refine lv_istore (lv' := [(7, .int v10), (6, .int v9), (0, .ref (G.2.2.2 + o)), (1, .int a1), (2, .int a2), (3, .int a3), (4, .int a4), (5, .int a5)]) hx hb dX11_table_63 hl (by decide) rfl (fun ls hl => ?_)
          refine lv_iload hx hb dX11_table_65 (lv_at hl 1 rfl) ?_
          refine lv_iload hx hb dX11_table_67 (lv_at hl 0 rfl) ?_
          refine z_brn (lv_icmp_ne (tgt := 82) hx hb dX11_table_69 (by decide)) h (fun h => ?_) (fun h => ?_)
          · refine lv_iload_n hx hb dX11_table_82 rfl (lv_at hl 3 rfl) ?_
            refine lv_iload hx hb dX11_table_83 (lv_at hl 6 rfl) ?_
            refine lv_imul hx hb dX11_table_85 ?_
            refine lv_iload_n hx hb dX11_table_86 rfl (lv_at hl 4 rfl) ?_
            refine lv_iload_n hx hb dX11_table_87 rfl (lv_at hl 5 rfl) ?_
            refine lv_imul hx hb dX11_table_88 ?_
            refine lv_isub hx hb dX11_table_89 ?_
            refine lv_i2l (v := (((a1 * a4) - (a2 * a3))).toInt64) hx hb dX11_table_90 rfl ?_
            refine lv_iload_n hx hb dX11_table_91 rfl (lv_at hl 3 rfl) ?_
            refine lv_iload hx hb dX11_table_92 (lv_at hl 6 rfl) ?_
            refine lv_iadd hx hb dX11_table_94 ?_
            refine lv_iload_n hx hb dX11_table_95 rfl (lv_at hl 4 rfl) ?_
            refine lv_isub hx hb dX11_table_96 ?_
            refine lv_iload_n hx hb dX11_table_97 rfl (lv_at hl 5 rfl) ?_
            refine lv_isub hx hb dX11_table_98 ?_
            refine lv_i2l (v := ((((a1 + a4) - a2) - a3)).toInt64) hx hb dX11_table_99 rfl ?_
            refine lv_iload hx hb dX11_table_100 (lv_at hl 7 rfl) ?_
            obtain ⟨r12, c11, h⟩ := zd_at h
            refine z_cS hx hb hq hml hown hK hW hS [.long ((((a1 * a4) - (a2 * a3))).toInt64), .long (((((a1 + a4) - a2) - a3)).toInt64), .int a5] [] (c_X11_lowest l G N st ((((a1 * a4) - (a2 * a3))).toInt64) (((((a1 + a4) - a2) - a3)).toInt64) a5 c11) (zi zm726) (zi zm727) (zi zm2) (zi zm728) cal_X11_lowest rfl hl.1 rfl (Nat.le_of_ble_eq_true rfl) (zR_ok (by omega) (by decide)) ⟨(Nat.le_of_ble_eq_true rfl), (Nat.le_of_ble_eq_true rfl)⟩ dX11_table_102 (fun H locs hW hS => ?_)
            refine W.eq (g2 := F0 m 105 ls [.long (r12)]) rfl ?_
            obtain rfl := Option.some.inj h
            exact z_rl hx hb hr hlk hW hS (Nat.le_of_ble_eq_true rfl) (Nat.le_of_ble_eq_true rfl) dX11_table_105
          · refine lv_iload hx hb dX11_table_72 (lv_at hl 1 rfl) ?_
            refine lv_i2l (v := (v9).toInt64) hx hb dX11_table_74 rfl ?_
            refine lv_lconst (v := (lN 1)) hx hb dX11_table_75 (by decide) ?_
            refine lv_iload hx hb dX11_table_76 (lv_at hl 7 rfl) ?_
            obtain ⟨r14, c13, h⟩ := zd_at h
            refine z_cS hx hb hq hml hown hK hW hS [.long ((v9).toInt64), .long ((lN 1)), .int a5] [] (c_X11_lowest l G N st ((v9).toInt64) (lN 1) a5 c13) (zi zm726) (zi zm727) (zi zm2) (zi zm728) cal_X11_lowest rfl hl.1 rfl (Nat.le_of_ble_eq_true rfl) (zR_ok (by omega) (by decide)) ⟨(Nat.le_of_ble_eq_true rfl), (Nat.le_of_ble_eq_true rfl)⟩ dX11_table_78 (fun H locs hW hS => ?_)
            refine W.eq (g2 := F0 m 81 ls [.long (r14)]) rfl ?_
            obtain rfl := Option.some.inj h
            exact z_rl hx hb hr hlk hW hS (Nat.le_of_ble_eq_true rfl) (Nat.le_of_ble_eq_true rfl) dX11_table_81
        · refine lv_ldc2 (v := (-9223372036854775808)) hx hb hown (hq _ (zi zm729)) dX11_table_29 ?_
          obtain rfl := Option.some.inj h
          exact z_rl hx hb hr hlk hW hS (Nat.le_of_ble_eq_true rfl) (Nat.le_of_ble_eq_true rfl) dX11_table_32
def f_X11_book_88 (o : Nat) (a1 : Int32) (a2 : Int32)  (st : zS) (y0 : Int32) : Option (zS × Int32) := (if y0 = 0 then (some (st, (-4 : Int32))) else (if zTg st o ∈ [21] then (Option.bind (zR st o 0) (fun b12 => (if zTg st b12 ∈ [12] then (Option.bind (zR st b12 11) (fun b14 => (if zTg st b14 ∈ [15] then (Option.bind (f_X5_size st b14) (fun r17 => (some (st, r17)))) else none))) else none))) else none))
def f_X11_book_87 (o : Nat) (a1 : Int32) (a2 : Int32)  (st : zS) : Option (zS × Int32) := (f_X11_book_88 o a1 a2 st (nI 0))
def f_X11_book_45 (o : Nat) (a1 : Int32) (a2 : Int32)  (st : zS) : Option (zS × Int32) := (Option.bind (f_X11_isPlace a1) (fun r2 => (if r2 = 0 then (some (st, (-2 : Int32))) else (if zTg st o ∈ [21] then (Option.bind (zR st o 0) (fun b4 => (if zTg st b4 ∈ [12] then (Option.bind (zR st b4 11) (fun b6 => (if zTg st b6 ∈ [15] then (zb (f_X5_add st b6 a1) (fun st9 r10 => (if r10 = 0 then (f_X11_book_87 o a1 a2 st9) else (if zTg st9 o ∈ [21] then (Option.bind (zR st9 o 0) (fun b19 => (if zTg st9 b19 ∈ [12] then (Option.bind (zR st9 b19 12) (fun b21 => (if zTg st9 b21 ∈ [15] then (zb (f_X5_add st9 b21 a2) (fun st24 r25 => (if r25 = 0 then (f_X11_book_87 o a1 a2 st24) else (f_X11_book_88 o a1 a2 st24 (nI 1))))) else none))) else none))) else none)))) else none))) else none))) else none))))
def f_X11_book (st : zS) (o : Nat) (a1 : Int32) (a2 : Int32) : Option (zS × Int32) := (if a1 = (-1 : Int32) then (if zTg st o ∈ [21] then (Option.bind (zR st o 0) (fun b33 => (if zTg st b33 ∈ [12] then (Option.bind (zR st b33 11) (fun b35 => (if zTg st b35 ∈ [15] then (Option.bind (f_X5_clear st b35) (fun st38 => (if zTg st38 o ∈ [21] then (Option.bind (zR st38 o 0) (fun b40 => (if zTg st38 b40 ∈ [12] then (Option.bind (zR st38 b40 12) (fun b42 => (if zTg st38 b42 ∈ [15] then (Option.bind (f_X5_clear st38 b42) (fun st45 => (some (st45, (nI 0))))) else none))) else none))) else none))) else none))) else none))) else none) else (if a2 = (-1 : Int32) then (f_X11_book_45 o a1 a2 st) else (if zTg st o ∈ [21] then (Option.bind (zR st o 0) (fun b27 => (if zTg st b27 ∈ [12] then (Option.bind (f_X2_wayOf st b27 a2) (fun r30 => (zo r30 (some (st, (-1 : Int32))) (fun q31 => (f_X11_book_45 o a1 a2 st))))) else none))) else none)))
set_option maxHeartbeats 1000000 in
set_option maxRecDepth 100000 in
theorem c_X11_book (l : Launch) (G : zG) (st : zS) (o : Nat) (a1 : Int32) (a2 : Int32) {st' : zS} {r : Int32} (h : f_X11_book st o a1 a2 = some (st', r)) : zMet l G yX11_book cX11_book 4 (some .int) 1 0 0 [.ref (G.2.2.2 + o), .int a1, .int a2] st (some (.int r)) st' := by
  refine zMet_of (by decide +kernel) ?_
  intro p e s m args below meth c X
  obtain ⟨hx, hb, hr, hml, hown, hq, hlk, hK, -, hin, hW, hS⟩ := X
  have hown : s.vm.findClass RX11 = some m.cls := hown
  refine z_ent (by exact Nat.le_of_ble_eq_true rfl) (fun ls hl => ?_)
  have hl : lv_has ls 4 [(0, .ref (G.2.2.2 + o)), (1, .int a1), (2, .int a2)] := hl
  unfold f_X11_book at h
  have B88 : ∀ (st : zS) (y0 : Int32) (H : Heap) (locs : List Loc) (ls : Array Slot), f_X11_book_88 o a1 a2 st y0 = some (st', r) → zWd G st H → va_S (zA G) s.heap H locs → lv_has ls 4 [(0, .ref (G.2.2.2 + o))] → W p l e (zRm 1 0 0) s m args below meth c H locs 0 0 (MQ below (zQ G (some (.int r)) st') args s 0 0 (zA G)) (F0 m 88 ls [.int y0]) := by
    intro st y0 H locs ls h hW hS hl
    unfold f_X11_book_88 at h
    refine lv_istore_n (lv' := [(3, .int y0), (0, .ref (G.2.2.2 + o))]) hx hb dX11_book_88 rfl hl (by decide) rfl (fun ls hl => ?_)
    refine lv_iload_n hx hb dX11_book_89 rfl (lv_at hl 0 rfl) ?_
    refine z_br (lv_if_eq (tgt := 106) hx hb dX11_book_90 (by decide)) h (fun h => ?_) (fun h => ?_)
    · refine lv_bipush (v := (-4)) hx hb dX11_book_106 (by decide) ?_
      obtain ⟨rfl, rfl⟩ := Prod.mk.inj (Option.some.inj h)
      exact z_ri hx hb hr hlk hW hS (Nat.le_of_ble_eq_true rfl) (Nat.le_of_ble_eq_true rfl) dX11_book_108
    · refine lv_aload_n hx hb dX11_book_93 rfl (lv_at hl 1 rfl) ?_
      obtain ⟨t11, h⟩ := zc_at h
      obtain ⟨b12, hb12, h⟩ := zd_at h
      refine z_gR hx hb hq hown hK hW fs_RX11_12 t11 hb12 dX11_book_94 ?_
      obtain ⟨t13, h⟩ := zc_at h
      obtain ⟨b14, hb14, h⟩ := zd_at h
      refine z_gR hx hb hq hown hK hW fs_RX11_222 t13 hb14 dX11_book_97 ?_
      obtain ⟨t15, h⟩ := zc_at h
      obtain ⟨r17, c16, h⟩ := zd_at h
      refine z_cV hx hb hq hml hown hK hW hS 5 [] [] rfl (List.mem_singleton.mp t15) (c_X5_size l G st b14 c16) (zi zm82) (zi zm83) (zi zm84) (zi zm32) (zi zm85) cal_X5_size rfl rfl hl.1 rfl (Nat.le_of_ble_eq_true rfl) (zR_ok (by omega) (by decide)) ⟨(Nat.le_of_ble_eq_true rfl), (Nat.le_of_ble_eq_true rfl)⟩ dX11_book_100 (fun H locs hW hS => ?_)
      refine W.eq (g2 := F0 m 103 ls [.int r17]) rfl ?_
      refine lv_goto (tgt := 108) hx hb dX11_book_103 (by decide) ?_
      obtain ⟨rfl, rfl⟩ := Prod.mk.inj (Option.some.inj h)
      exact z_ri hx hb hr hlk hW hS (Nat.le_of_ble_eq_true rfl) (Nat.le_of_ble_eq_true rfl) dX11_book_108
  have B87 : ∀ (st : zS) (H : Heap) (locs : List Loc) (ls : Array Slot), f_X11_book_87 o a1 a2 st = some (st', r) → zWd G st H → va_S (zA G) s.heap H locs → lv_has ls 4 [(0, .ref (G.2.2.2 + o))] → W p l e (zRm 1 0 0) s m args below meth c H locs 0 0 (MQ below (zQ G (some (.int r)) st') args s 0 0 (zA G)) (F0 m 87 ls []) := by
    intro st H locs ls h hW hS hl
    unfold f_X11_book_87 at h
    refine lv_iconst (v := (nI 0)) hx hb dX11_book_87 (by decide) ?_
    exact B88 st (nI 0) _ _ _ h hW hS (lv_sub hl [0] rfl)
  have B45 : ∀ (st : zS) (H : Heap) (locs : List Loc) (ls : Array Slot), f_X11_book_45 o a1 a2 st = some (st', r) → zWd G st H → va_S (zA G) s.heap H locs → lv_has ls 4 [(0, .ref (G.2.2.2 + o)), (1, .int a1), (2, .int a2)] → W p l e (zRm 1 0 0) s m args below meth c H locs 0 0 (MQ below (zQ G (some (.int r)) st') args s 0 0 (zA G)) (F0 m 45 ls []) := by
    intro st H locs ls h hW hS hl
    unfold f_X11_book_45 at h
    refine lv_iload_n hx hb dX11_book_45 rfl (lv_at hl 1 rfl) ?_
    obtain ⟨r2, c1, h⟩ := zd_at h
    refine z_cS hx hb hq hml hown hK hW hS [.int a1] [] (c_X11_isPlace l G st a1 c1) (zi zm696) (zi zm697) (zi zm2) (zi zm698) cal_X11_isPlace rfl hl.1 rfl (Nat.le_of_ble_eq_true rfl) (zR_ok (by omega) (by decide)) ⟨(Nat.le_of_ble_eq_true rfl), (Nat.le_of_ble_eq_true rfl)⟩ dX11_book_46 (fun H locs hW hS => ?_)
    refine W.eq (g2 := F0 m 49 ls [.int r2]) rfl ?_
    refine z_brn (lv_if_ne (tgt := 55) hx hb dX11_book_49 (by decide)) h (fun h => ?_) (fun h => ?_)
    · refine lv_aload_n hx hb dX11_book_55 rfl (lv_at hl 0 rfl) ?_
      obtain ⟨t3, h⟩ := zc_at h
      obtain ⟨b4, hb4, h⟩ := zd_at h
      refine z_gR hx hb hq hown hK hW fs_RX11_12 t3 hb4 dX11_book_56 ?_
      obtain ⟨t5, h⟩ := zc_at h
      obtain ⟨b6, hb6, h⟩ := zd_at h
      refine z_gR hx hb hq hown hK hW fs_RX11_222 t5 hb6 dX11_book_59 ?_
      refine lv_iload_n hx hb dX11_book_62 rfl (lv_at hl 1 rfl) ?_
      obtain ⟨t7, h⟩ := zc_at h
      obtain ⟨st9, r10, c8, h⟩ := zb_at h
      refine z_cV hx hb hq hml hown hK hW hS 5 [.int a1] [] rfl (List.mem_singleton.mp t7) (c_X5_add l G st b6 a1 c8) (zi zm77) (zi zm78) (zi zm79) (zi zm32) (zi zm80) cal_X5_add rfl rfl hl.1 rfl (Nat.le_of_ble_eq_true rfl) (zR_ok (by omega) (by decide)) ⟨(Nat.le_of_ble_eq_true rfl), (Nat.le_of_ble_eq_true rfl)⟩ dX11_book_63 (fun H locs hW hS => ?_)
      refine W.eq (g2 := F0 m 66 ls [.int r10]) rfl ?_
      refine z_br (lv_if_eq (tgt := 87) hx hb dX11_book_66 (by decide)) h (fun h => ?_) (fun h => ?_)
      · exact B87 st9 _ _ _ h hW hS (lv_sub hl [0] rfl)
      · refine lv_aload_n hx hb dX11_book_69 rfl (lv_at hl 0 rfl) ?_
        obtain ⟨t18, h⟩ := zc_at h
        obtain ⟨b19, hb19, h⟩ := zd_at h
        refine z_gR hx hb hq hown hK hW fs_RX11_12 t18 hb19 dX11_book_70 ?_
        obtain ⟨t20, h⟩ := zc_at h
        obtain ⟨b21, hb21, h⟩ := zd_at h
        refine z_gR hx hb hq hown hK hW fs_RX11_225 t20 hb21 dX11_book_73 ?_
        refine lv_iload_n hx hb dX11_book_76 rfl (lv_at hl 2 rfl) ?_
        obtain ⟨t22, h⟩ := zc_at h
        obtain ⟨st24, r25, c23, h⟩ := zb_at h
        refine z_cV hx hb hq hml hown hK hW hS 5 [.int a2] [] rfl (List.mem_singleton.mp t22) (c_X5_add l G st9 b21 a2 c23) (zi zm77) (zi zm78) (zi zm79) (zi zm32) (zi zm80) cal_X5_add rfl rfl hl.1 rfl (Nat.le_of_ble_eq_true rfl) (zR_ok (by omega) (by decide)) ⟨(Nat.le_of_ble_eq_true rfl), (Nat.le_of_ble_eq_true rfl)⟩ dX11_book_77 (fun H locs hW hS => ?_)
        refine W.eq (g2 := F0 m 80 ls [.int r25]) rfl ?_
        refine z_br (lv_if_eq (tgt := 87) hx hb dX11_book_80 (by decide)) h (fun h => ?_) (fun h => ?_)
        · exact B87 st24 _ _ _ h hW hS (lv_sub hl [0] rfl)
        · refine lv_iconst (v := (nI 1)) hx hb dX11_book_83 (by decide) ?_
          refine lv_goto (tgt := 88) hx hb dX11_book_84 (by decide) ?_
          exact B88 st24 (nI 1) _ _ _ h hW hS (lv_sub hl [0] rfl)
    · refine lv_bipush (v := (-2)) hx hb dX11_book_52 (by decide) ?_
      obtain ⟨rfl, rfl⟩ := Prod.mk.inj (Option.some.inj h)
      exact z_ri hx hb hr hlk hW hS (Nat.le_of_ble_eq_true rfl) (Nat.le_of_ble_eq_true rfl) dX11_book_54
  refine lv_iload_n hx hb dX11_book_0 rfl (lv_at hl 1 rfl) ?_
  refine lv_iconst (v := (-1)) hx hb dX11_book_1 (by decide) ?_
  refine z_brn (lv_icmp_ne (tgt := 27) hx hb dX11_book_2 (by decide)) h (fun h => ?_) (fun h => ?_)
  · refine lv_iload_n hx hb dX11_book_27 rfl (lv_at hl 2 rfl) ?_
    refine lv_iconst (v := (-1)) hx hb dX11_book_28 (by decide) ?_
    refine z_br (lv_icmp_eq (tgt := 45) hx hb dX11_book_29 (by decide)) h (fun h => ?_) (fun h => ?_)
    · exact B45 st _ _ _ h hW hS (lv_sub hl [0, 1, 2] rfl)
    · refine lv_aload_n hx hb dX11_book_32 rfl (lv_at hl 0 rfl) ?_
      obtain ⟨t26, h⟩ := zc_at h
      obtain ⟨b27, hb27, h⟩ := zd_at h
      refine z_gR hx hb hq hown hK hW fs_RX11_12 t26 hb27 dX11_book_33 ?_
      refine lv_iload_n hx hb dX11_book_36 rfl (lv_at hl 2 rfl) ?_
      obtain ⟨t28, h⟩ := zc_at h
      obtain ⟨r30, c29, h⟩ := zd_at h
      refine z_cV hx hb hq hml hown hK hW hS 2 [.int a2] [] rfl (List.mem_singleton.mp t28) (c_X2_wayOf l G st b27 a2 c29) (zi zm417) (zi zm418) (zi zm419) (zi zm14) (zi zm420) cal_X2_wayOf rfl rfl hl.1 rfl (Nat.le_of_ble_eq_true rfl) (zR_ok (by omega) (by decide)) ⟨(Nat.le_of_ble_eq_true rfl), (Nat.le_of_ble_eq_true rfl)⟩ dX11_book_37 (fun H locs hW hS => ?_)
      rcases r30 with _ | q31
      · refine W.eq (g2 := F0 m 40 ls [.null]) rfl ?_
        refine lv_ifnonnullN hx hb dX11_book_40 ?_
        refine lv_iconst (v := (-1)) hx hb dX11_book_43 (by decide) ?_
        obtain ⟨rfl, rfl⟩ := Prod.mk.inj (Option.some.inj h)
        exact z_ri hx hb hr hlk hW hS (Nat.le_of_ble_eq_true rfl) (Nat.le_of_ble_eq_true rfl) dX11_book_44
      · refine W.eq (g2 := F0 m 40 ls [.ref (G.2.2.2 + q31)]) rfl ?_
        refine lv_ifnonnull (tgt := 45) hx hb dX11_book_40 (by decide) ?_
        exact B45 st _ _ _ h hW hS (lv_sub hl [0, 1, 2] rfl)
  · refine lv_aload_n hx hb dX11_book_5 rfl (lv_at hl 0 rfl) ?_
    obtain ⟨t32, h⟩ := zc_at h
    obtain ⟨b33, hb33, h⟩ := zd_at h
    refine z_gR hx hb hq hown hK hW fs_RX11_12 t32 hb33 dX11_book_6 ?_
    obtain ⟨t34, h⟩ := zc_at h
    obtain ⟨b35, hb35, h⟩ := zd_at h
    refine z_gR hx hb hq hown hK hW fs_RX11_222 t34 hb35 dX11_book_9 ?_
    obtain ⟨t36, h⟩ := zc_at h
    obtain ⟨st38, c37, h⟩ := zd_at h
    refine z_cV hx hb hq hml hown hK hW hS 5 [] [] rfl (List.mem_singleton.mp t36) (c_X5_clear l G st b35 c37) (zi zm273) (zi zm274) (zi zm275) (zi zm32) (zi zm276) cal_X5_clear rfl rfl hl.1 rfl (Nat.le_of_ble_eq_true rfl) (zR_ok (by omega) (by decide)) ⟨(Nat.le_of_ble_eq_true rfl), (Nat.le_of_ble_eq_true rfl)⟩ dX11_book_12 (fun H locs hW hS => ?_)
    refine W.eq (g2 := F0 m 15 ls []) rfl ?_
    refine lv_aload_n hx hb dX11_book_15 rfl (lv_at hl 0 rfl) ?_
    obtain ⟨t39, h⟩ := zc_at h
    obtain ⟨b40, hb40, h⟩ := zd_at h
    refine z_gR hx hb hq hown hK hW fs_RX11_12 t39 hb40 dX11_book_16 ?_
    obtain ⟨t41, h⟩ := zc_at h
    obtain ⟨b42, hb42, h⟩ := zd_at h
    refine z_gR hx hb hq hown hK hW fs_RX11_225 t41 hb42 dX11_book_19 ?_
    obtain ⟨t43, h⟩ := zc_at h
    obtain ⟨st45, c44, h⟩ := zd_at h
    refine z_cV hx hb hq hml hown hK hW hS 5 [] [] rfl (List.mem_singleton.mp t43) (c_X5_clear l G st38 b42 c44) (zi zm273) (zi zm274) (zi zm275) (zi zm32) (zi zm276) cal_X5_clear rfl rfl hl.1 rfl (Nat.le_of_ble_eq_true rfl) (zR_ok (by omega) (by decide)) ⟨(Nat.le_of_ble_eq_true rfl), (Nat.le_of_ble_eq_true rfl)⟩ dX11_book_22 (fun H locs hW hS => ?_)
    refine W.eq (g2 := F0 m 25 ls []) rfl ?_
    refine lv_iconst (v := (nI 0)) hx hb dX11_book_25 (by decide) ?_
    obtain ⟨rfl, rfl⟩ := Prod.mk.inj (Option.some.inj h)
    exact z_ri hx hb hr hlk hW hS (Nat.le_of_ble_eq_true rfl) (Nat.le_of_ble_eq_true rfl) dX11_book_26
def f_X11_looked_2 (N : Nat) (st : zS) (o : Nat)  : Nat → Int32 → Option Int32
  | 0, _ => none
  | n2 + 1, x1 => (if zTg st o ∈ [21] then (Option.bind (zR st o 0) (fun b2 => (if zTg st b2 ∈ [12] then (Option.bind (zR st b2 11) (fun b4 => (if zTg st b4 ∈ [15] then (Option.bind (f_X5_size st b4) (fun r7 => (if r7 ≤ x1 then (some (-5 : Int32)) else (Option.bind (zR st b2 5) (fun b8 => (Option.bind (f_X5_get st b4 x1) (fun r10 => (if zTg st b8 ∈ [15] then (Option.bind (f_X5_get st b8 r10) (fun r13 => (Option.bind (zR st b2 12) (fun b14 => (if zTg st b14 ∈ [15] then (Option.bind (f_X5_get st b14 x1) (fun r17 => (if r13 = r17 then ((f_X11_looked_2 N st o n2) (x1 + (nI 1))) else (some x1)))) else none))))) else none)))))))) else none))) else none))) else none)
def f_X11_looked (N : Nat) (st : zS) (o : Nat) : Option Int32 := (f_X11_looked_2 N st o N (nI 0))
set_option maxHeartbeats 1000000 in
set_option maxRecDepth 100000 in
theorem c_X11_looked (l : Launch) (G : zG) (N : Nat) (st : zS) (o : Nat) {r : Int32} (h : f_X11_looked N st o = some r) : zMet l G yX11_looked cX11_looked 2 (some .int) 1 0 0 [.ref (G.2.2.2 + o)] st (some (.int r)) st := by
  refine zMet_of (by decide +kernel) ?_
  intro p e s m args below meth c X
  obtain ⟨hx, hb, hr, hml, hown, hq, hlk, hK, -, hin, hW, hS⟩ := X
  have hown : s.vm.findClass RX11 = some m.cls := hown
  refine z_ent (by exact Nat.le_of_ble_eq_true rfl) (fun ls hl => ?_)
  have hl : lv_has ls 2 [(0, .ref (G.2.2.2 + o))] := hl
  unfold f_X11_looked at h
  have B2 : ∀ (n2 : Nat) (x1 : Int32) (H : Heap) (locs : List Loc) (ls : Array Slot), f_X11_looked_2 N st o n2 x1 = some r → zWd G st H → va_S (zA G) s.heap H locs → lv_has ls 2 [(0, .ref (G.2.2.2 + o)), (1, .int x1)] → W p l e (zRm 1 0 0) s m args below meth c H locs 0 0 (MQ below (zQ G (some (.int r)) st) args s 0 0 (zA G)) (F0 m 2 ls []) := by
    intro n2
    induction n2 with
    | zero =>
      intro x1 H locs ls h
      unfold f_X11_looked_2 at h
      cases h
    | succ n2 ih2 =>
      intro x1 H locs ls h hW hS hl
      unfold f_X11_looked_2 at h
      refine lv_iload_n hx hb dX11_looked_2 rfl (lv_at hl 1 rfl) ?_
      refine lv_aload_n hx hb dX11_looked_3 rfl (lv_at hl 0 rfl) ?_
      obtain ⟨t1, h⟩ := zc_at h
      obtain ⟨b2, hb2, h⟩ := zd_at h
      refine z_gR hx hb hq hown hK hW fs_RX11_12 t1 hb2 dX11_looked_4 ?_
      obtain ⟨t3, h⟩ := zc_at h
      obtain ⟨b4, hb4, h⟩ := zd_at h
      refine z_gR hx hb hq hown hK hW fs_RX11_222 t3 hb4 dX11_looked_7 ?_
      obtain ⟨t5, h⟩ := zc_at h
      obtain ⟨r7, c6, h⟩ := zd_at h
      refine z_cV hx hb hq hml hown hK hW hS 5 [] [.int x1] rfl (List.mem_singleton.mp t5) (c_X5_size l G st b4 c6) (zi zm82) (zi zm83) (zi zm84) (zi zm32) (zi zm85) cal_X5_size rfl rfl hl.1 rfl (Nat.le_of_ble_eq_true rfl) (zR_ok (by omega) (by decide)) ⟨(Nat.le_of_ble_eq_true rfl), (Nat.le_of_ble_eq_true rfl)⟩ dX11_looked_10 (fun H locs hW hS => ?_)
      refine W.eq (g2 := F0 m 13 ls [.int r7, .int x1]) rfl ?_
      refine z_br (lv_icmp_ge (tgt := 59) hx hb dX11_looked_13 (by decide)) h (fun h => ?_) (fun h => ?_)
      · refine lv_bipush (v := (-5)) hx hb dX11_looked_59 (by decide) ?_
        obtain rfl := Option.some.inj h
        exact z_ri hx hb hr hlk hW hS (Nat.le_of_ble_eq_true rfl) (Nat.le_of_ble_eq_true rfl) dX11_looked_61
      · refine lv_aload_n hx hb dX11_looked_16 rfl (lv_at hl 0 rfl) ?_
        refine z_gR hx hb hq hown hK hW fs_RX11_12 t1 hb2 dX11_looked_17 ?_
        obtain ⟨b8, hb8, h⟩ := zd_at h
        refine z_gR hx hb hq hown hK hW fs_RX11_89 t3 hb8 dX11_looked_20 ?_
        refine lv_aload_n hx hb dX11_looked_23 rfl (lv_at hl 0 rfl) ?_
        refine z_gR hx hb hq hown hK hW fs_RX11_12 t1 hb2 dX11_looked_24 ?_
        refine z_gR hx hb hq hown hK hW fs_RX11_222 t3 hb4 dX11_looked_27 ?_
        refine lv_iload_n hx hb dX11_looked_30 rfl (lv_at hl 1 rfl) ?_
        obtain ⟨r10, c9, h⟩ := zd_at h
        refine z_cV hx hb hq hml hown hK hW hS 5 [.int x1] [.ref (G.2.2.2 + b8)] rfl (List.mem_singleton.mp t5) (c_X5_get l G st b4 x1 c9) (zi zm619) (zi zm109) (zi zm110) (zi zm32) (zi zm111) cal_X5_get rfl rfl hl.1 rfl (Nat.le_of_ble_eq_true rfl) (zR_ok (by omega) (by decide)) ⟨(Nat.le_of_ble_eq_true rfl), (Nat.le_of_ble_eq_true rfl)⟩ dX11_looked_31 (fun H locs hW hS => ?_)
        refine W.eq (g2 := F0 m 34 ls [.int r10, .ref (G.2.2.2 + b8)]) rfl ?_
        obtain ⟨t11, h⟩ := zc_at h
        obtain ⟨r13, c12, h⟩ := zd_at h
        refine z_cV hx hb hq hml hown hK hW hS 5 [.int r10] [] rfl (List.mem_singleton.mp t11) (c_X5_get l G st b8 r10 c12) (zi zm619) (zi zm109) (zi zm110) (zi zm32) (zi zm111) cal_X5_get rfl rfl hl.1 rfl (Nat.le_of_ble_eq_true rfl) (zR_ok (by omega) (by decide)) ⟨(Nat.le_of_ble_eq_true rfl), (Nat.le_of_ble_eq_true rfl)⟩ dX11_looked_34 (fun H locs hW hS => ?_)
        refine W.eq (g2 := F0 m 37 ls [.int r13]) rfl ?_
        refine lv_aload_n hx hb dX11_looked_37 rfl (lv_at hl 0 rfl) ?_
        refine z_gR hx hb hq hown hK hW fs_RX11_12 t1 hb2 dX11_looked_38 ?_
        obtain ⟨b14, hb14, h⟩ := zd_at h
        refine z_gR hx hb hq hown hK hW fs_RX11_225 t3 hb14 dX11_looked_41 ?_
        refine lv_iload_n hx hb dX11_looked_44 rfl (lv_at hl 1 rfl) ?_
        obtain ⟨t15, h⟩ := zc_at h
        obtain ⟨r17, c16, h⟩ := zd_at h
        refine z_cV hx hb hq hml hown hK hW hS 5 [.int x1] [.int r13] rfl (List.mem_singleton.mp t15) (c_X5_get l G st b14 x1 c16) (zi zm619) (zi zm109) (zi zm110) (zi zm32) (zi zm111) cal_X5_get rfl rfl hl.1 rfl (Nat.le_of_ble_eq_true rfl) (zR_ok (by omega) (by decide)) ⟨(Nat.le_of_ble_eq_true rfl), (Nat.le_of_ble_eq_true rfl)⟩ dX11_looked_45 (fun H locs hW hS => ?_)
        refine W.eq (g2 := F0 m 48 ls [.int r17, .int r13]) rfl ?_
        refine z_br (lv_icmp_eq (tgt := 53) hx hb dX11_looked_48 (by decide)) h (fun h => ?_) (fun h => ?_)
        · refine lv_iinc (v := (x1 + (nI 1))) (lv' := [(1, .int ((x1 + (nI 1)))), (0, .ref (G.2.2.2 + o))]) hx hb dX11_looked_53 hl (k := 1) rfl rfl (by decide) rfl (fun ls hl => ?_)
          refine lv_goto (tgt := 2) hx hb dX11_looked_56 (by decide) ?_
          exact ih2 (x1 + (nI 1)) _ _ _ h hW hS (lv_sub hl [1, 0] rfl)
        · refine lv_iload_n hx hb dX11_looked_51 rfl (lv_at hl 1 rfl) ?_
          obtain rfl := Option.some.inj h
          exact z_ri hx hb hr hlk hW hS (Nat.le_of_ble_eq_true rfl) (Nat.le_of_ble_eq_true rfl) dX11_looked_52
  refine lv_iconst (v := (nI 0)) hx hb dX11_looked_0 (by decide) ?_
  refine lv_istore_n (lv' := [(1, .int ((nI 0))), (0, .ref (G.2.2.2 + o))]) hx hb dX11_looked_1 rfl hl (by decide) rfl (fun ls hl => ?_)
  exact B2 N (nI 0) _ _ _ h hW hS (lv_sub hl [1, 0] rfl)
def fv_Line_tells (st : zS) (o : Nat) (b0 : Int32) (b1 : Nat) : Option (zS × Int32) := (if zTg st o ∈ [10] then f_X4_tells st o b0 b1 else (if zTg st o ∈ [11] then f_X4_tells st o b0 b1 else (if zTg st o ∈ [13] then f_X3_tells st o b0 b1 else (if zTg st o ∈ [14] then f_X4_tells st o b0 b1 else (if zTg st o ∈ [17] then f_X3_tells st o b0 b1 else (if zTg st o ∈ [19] then f_X9_tells st o b0 b1 else (if zTg st o ∈ [20] then f_X4_tells st o b0 b1 else none)))))))
def f_X11_act (st : zS) (o : Nat) (a1 : Int32) (a2 : Int32) (a3 : Int32) : Option (zS × Int32) := (if zTg st o ∈ [21] then (Option.bind (zR st o 3) (fun b2 => (if zTg st b2 ∈ [18] then (Option.bind (f_X8_clear st b2) (fun st5 => (if zTg st5 o ∈ [21] then (Option.bind (zR st5 o 0) (fun b7 => (if zTg st5 b7 ∈ [12] then (Option.bind (f_X2_wayOf st5 b7 a1) (fun r10 => (zo r10 (some (st5, (nI 0))) (fun q11 => (if a2 = (nI 0) then (Option.bind (zR st5 o 3) (fun b13 => (zb (fv_Line_writes st5 q11 a3 b13) (fun st15 r16 => (some (st15, r16)))))) else (if a2 = (nI 1) then (Option.bind (zR st5 o 3) (fun b18 => (zb (fv_Line_shows st5 q11 a3 b18) (fun st20 r21 => (some (st20, r21)))))) else (if a2 = (nI 2) then (Option.bind (zR st5 o 3) (fun b23 => (zb (fv_Line_tells st5 q11 a3 b23) (fun st25 r26 => (some (st25, r26)))))) else (some (st5, (nI 0)))))))))) else none))) else none))) else none))) else none)
theorem zv_RX11_229 {p : Program} {l : Launch} {e : Env} {R : Room} {s : State} {m : MethodId} {args : Array Value} {below : List Frame} {meth : Method} {c : Code} {H : Heap} {locs : List Loc} {cells slots : Nat} {Q : State → Prop} {cc : ByteArray} {pc nL : Nat} {ls : Array Slot} {G : zG} {st0 : List Value}
    (hx : p.tables.exec = Jvm.exec) (hb : c.code = cc) (hq : ∀ w ∈ zT, w.before args s = true) (hml : c.maxLocals = nL) (hown : s.vm.findClass RX11 = some m.cls) (hK : zKn G s) (st : zS) (hW : zWd G st H) (hS : va_S (zA G) s.heap H locs) (rest : List Value) (o : Nat) (b0 : Int32) (b1 : Nat) (st' : zS) (r : Int32)
    (h : fv_Line_writes st o b0 b1 = some (st', r)) (hsz : ls.size = nL) (hst : st0 = ([.int b0, .ref (G.2.2.2 + b1)] : List Value).reverse ++ .ref (G.2.2.2 + o) :: rest) (hcat : (rest.map fun v => v.category).sum ≤ 8) (hR : 2 + 1 ≤ R.frames ∧ 60 + 60 * 2 ≤ R.locals) (hf : cells ≤ R.cells ∧ slots ≤ R.slots) (hdg : decode cc pc = .ok (.invokevirtual 229, 3))
    (kk : ∀ (H1 : Heap) (locs1 : List Loc), zWd G st' H1 → va_S (zA G) s.heap H1 locs1 → W p l e R s m args below meth c H1 locs1 cells slots Q (F0 m (pc + 3) ls ((.int r) :: rest))) : W p l e R s m args below meth c H locs cells slots Q (F0 m pc ls st0) := by
  unfold fv_Line_writes at h
  rcases zi_at h with ⟨t, h⟩ | ⟨-, h⟩
  · exact z_cU (x := ⟨"TwoPens$Line", "writes", "(ILTwoPens$Trace;)I"⟩) (owner := "TwoPens$Line") hx hb hq hml hown hK hW hS 0 [.int b0, .ref (G.2.2.2 + b1)] rest rfl (List.mem_singleton.mp t) (c_X4_writes l G st o b0 b1 h) (zi zm970) (zi zm971) (zi zm972) (zi zm973) (zi zm367) (zi zm974) (zi zm973) (zi zm974) cal_X4_writes rfl hsz hst hcat (zR_le hR (by omega) (by decide)) hf hdg kk
  rcases zi_at h with ⟨t, h⟩ | ⟨-, h⟩
  · exact z_cU (x := ⟨"TwoPens$Line", "writes", "(ILTwoPens$Trace;)I"⟩) (owner := "TwoPens$Line") hx hb hq hml hown hK hW hS 1 [.int b0, .ref (G.2.2.2 + b1)] rest rfl (List.mem_singleton.mp t) (c_X1_writes l G st o b0 b1 h) (zi zm970) (zi zm971) (zi zm980) (zi zm981) (zi zm361) (zi zm982) (zi zm973) (zi zm974) cal_X4_writes rfl hsz hst hcat (zR_le hR (by omega) (by decide)) hf hdg kk
  rcases zi_at h with ⟨t, h⟩ | ⟨-, h⟩
  · exact z_cU (x := ⟨"TwoPens$Line", "writes", "(ILTwoPens$Trace;)I"⟩) (owner := "TwoPens$Line") hx hb hq hml hown hK hW hS 3 [.int b0, .ref (G.2.2.2 + b1)] rest rfl (List.mem_singleton.mp t) (c_X4_writes l G st o b0 b1 h) (zi zm970) (zi zm971) (zi zm986) (zi zm973) (zi zm367) (zi zm974) (zi zm973) (zi zm974) cal_X4_writes rfl hsz hst hcat (zR_le hR (by omega) (by decide)) hf hdg kk
  rcases zi_at h with ⟨t, h⟩ | ⟨-, h⟩
  · exact z_cU (x := ⟨"TwoPens$Line", "writes", "(ILTwoPens$Trace;)I"⟩) (owner := "TwoPens$Line") hx hb hq hml hown hK hW hS 4 [.int b0, .ref (G.2.2.2 + b1)] rest rfl (List.mem_singleton.mp t) (c_X4_writes l G st o b0 b1 h) (zi zm970) (zi zm971) (zi zm988) (zi zm973) (zi zm367) (zi zm974) (zi zm973) (zi zm974) cal_X4_writes rfl hsz hst hcat (zR_le hR (by omega) (by decide)) hf hdg kk
  rcases zi_at h with ⟨t, h⟩ | ⟨-, h⟩
  · exact z_cU (x := ⟨"TwoPens$Line", "writes", "(ILTwoPens$Trace;)I"⟩) (owner := "TwoPens$Line") hx hb hq hml hown hK hW hS 7 [.int b0, .ref (G.2.2.2 + b1)] rest rfl (List.mem_singleton.mp t) (c_X4_writes l G st o b0 b1 h) (zi zm970) (zi zm971) (zi zm989) (zi zm973) (zi zm367) (zi zm974) (zi zm973) (zi zm974) cal_X4_writes rfl hsz hst hcat (zR_le hR (by omega) (by decide)) hf hdg kk
  rcases zi_at h with ⟨t, h⟩ | ⟨-, h⟩
  · exact z_cU (x := ⟨"TwoPens$Line", "writes", "(ILTwoPens$Trace;)I"⟩) (owner := "TwoPens$Line") hx hb hq hml hown hK hW hS 9 [.int b0, .ref (G.2.2.2 + b1)] rest rfl (List.mem_singleton.mp t) (c_X10_writes l G st o b0 b1 h) (zi zm970) (zi zm971) (zi zm990) (zi zm991) (zi zm349) (zi zm992) (zi zm973) (zi zm974) cal_X4_writes rfl hsz hst hcat (zR_le hR (by omega) (by decide)) hf hdg kk
  rcases zi_at h with ⟨t, h⟩ | ⟨-, h⟩
  · exact z_cU (x := ⟨"TwoPens$Line", "writes", "(ILTwoPens$Trace;)I"⟩) (owner := "TwoPens$Line") hx hb hq hml hown hK hW hS 10 [.int b0, .ref (G.2.2.2 + b1)] rest rfl (List.mem_singleton.mp t) (c_X10_writes l G st o b0 b1 h) (zi zm970) (zi zm971) (zi zm996) (zi zm991) (zi zm349) (zi zm992) (zi zm973) (zi zm974) cal_X4_writes rfl hsz hst hcat (zR_le hR (by omega) (by decide)) hf hdg kk
  cases h
theorem zv_RX11_233 {p : Program} {l : Launch} {e : Env} {R : Room} {s : State} {m : MethodId} {args : Array Value} {below : List Frame} {meth : Method} {c : Code} {H : Heap} {locs : List Loc} {cells slots : Nat} {Q : State → Prop} {cc : ByteArray} {pc nL : Nat} {ls : Array Slot} {G : zG} {st0 : List Value}
    (hx : p.tables.exec = Jvm.exec) (hb : c.code = cc) (hq : ∀ w ∈ zT, w.before args s = true) (hml : c.maxLocals = nL) (hown : s.vm.findClass RX11 = some m.cls) (hK : zKn G s) (st : zS) (hW : zWd G st H) (hS : va_S (zA G) s.heap H locs) (rest : List Value) (o : Nat) (b0 : Int32) (b1 : Nat) (st' : zS) (r : Int32)
    (h : fv_Line_shows st o b0 b1 = some (st', r)) (hsz : ls.size = nL) (hst : st0 = ([.int b0, .ref (G.2.2.2 + b1)] : List Value).reverse ++ .ref (G.2.2.2 + o) :: rest) (hcat : (rest.map fun v => v.category).sum ≤ 8) (hR : 4 + 1 ≤ R.frames ∧ 60 + 60 * 4 ≤ R.locals) (hf : cells ≤ R.cells ∧ slots ≤ R.slots) (hdg : decode cc pc = .ok (.invokevirtual 233, 3))
    (kk : ∀ (H1 : Heap) (locs1 : List Loc), zWd G st' H1 → va_S (zA G) s.heap H1 locs1 → W p l e R s m args below meth c H1 locs1 cells slots Q (F0 m (pc + 3) ls ((.int r) :: rest))) : W p l e R s m args below meth c H locs cells slots Q (F0 m pc ls st0) := by
  unfold fv_Line_shows at h
  rcases zi_at h with ⟨t, h⟩ | ⟨-, h⟩
  · exact z_cU (x := ⟨"TwoPens$Line", "shows", "(ILTwoPens$Trace;)I"⟩) (owner := "TwoPens$Line") hx hb hq hml hown hK hW hS 0 [.int b0, .ref (G.2.2.2 + b1)] rest rfl (List.mem_singleton.mp t) (c_X0_shows l G st o b0 b1 h) (zi zm997) (zi zm998) (zi zm1000) (zi zm1001) (zi zm352) (zi zm1002) (zi zm999) (zi zm1007) cal_X4_shows rfl hsz hst hcat (zR_le hR (by omega) (by decide)) hf hdg kk
  rcases zi_at h with ⟨t, h⟩ | ⟨-, h⟩
  · exact z_cU (x := ⟨"TwoPens$Line", "shows", "(ILTwoPens$Trace;)I"⟩) (owner := "TwoPens$Line") hx hb hq hml hown hK hW hS 1 [.int b0, .ref (G.2.2.2 + b1)] rest rfl (List.mem_singleton.mp t) (c_X0_shows l G st o b0 b1 h) (zi zm997) (zi zm998) (zi zm1010) (zi zm1001) (zi zm352) (zi zm1002) (zi zm999) (zi zm1007) cal_X4_shows rfl hsz hst hcat (zR_le hR (by omega) (by decide)) hf hdg kk
  rcases zi_at h with ⟨t, h⟩ | ⟨-, h⟩
  · exact z_cU (x := ⟨"TwoPens$Line", "shows", "(ILTwoPens$Trace;)I"⟩) (owner := "TwoPens$Line") hx hb hq hml hown hK hW hS 3 [.int b0, .ref (G.2.2.2 + b1)] rest rfl (List.mem_singleton.mp t) (c_X4_shows l G st o b0 b1 h) (zi zm997) (zi zm998) (zi zm1011) (zi zm999) (zi zm367) (zi zm1007) (zi zm999) (zi zm1007) cal_X4_shows rfl hsz hst hcat (zR_le hR (by omega) (by decide)) hf hdg kk
  rcases zi_at h with ⟨t, h⟩ | ⟨-, h⟩
  · exact z_cU (x := ⟨"TwoPens$Line", "shows", "(ILTwoPens$Trace;)I"⟩) (owner := "TwoPens$Line") hx hb hq hml hown hK hW hS 4 [.int b0, .ref (G.2.2.2 + b1)] rest rfl (List.mem_singleton.mp t) (c_X4_shows l G st o b0 b1 h) (zi zm997) (zi zm998) (zi zm1013) (zi zm999) (zi zm367) (zi zm1007) (zi zm999) (zi zm1007) cal_X4_shows rfl hsz hst hcat (zR_le hR (by omega) (by decide)) hf hdg kk
  rcases zi_at h with ⟨t, h⟩ | ⟨-, h⟩
  · exact z_cU (x := ⟨"TwoPens$Line", "shows", "(ILTwoPens$Trace;)I"⟩) (owner := "TwoPens$Line") hx hb hq hml hown hK hW hS 7 [.int b0, .ref (G.2.2.2 + b1)] rest rfl (List.mem_singleton.mp t) (c_X7_shows l G st o b0 b1 h) (zi zm997) (zi zm998) (zi zm1014) (zi zm1015) (zi zm364) (zi zm1016) (zi zm999) (zi zm1007) cal_X4_shows rfl hsz hst hcat (zR_le hR (by omega) (by decide)) hf hdg kk
  rcases zi_at h with ⟨t, h⟩ | ⟨-, h⟩
  · exact z_cU (x := ⟨"TwoPens$Line", "shows", "(ILTwoPens$Trace;)I"⟩) (owner := "TwoPens$Line") hx hb hq hml hown hK hW hS 9 [.int b0, .ref (G.2.2.2 + b1)] rest rfl (List.mem_singleton.mp t) (c_X4_shows l G st o b0 b1 h) (zi zm997) (zi zm998) (zi zm1018) (zi zm999) (zi zm367) (zi zm1007) (zi zm999) (zi zm1007) cal_X4_shows rfl hsz hst hcat (zR_le hR (by omega) (by decide)) hf hdg kk
  rcases zi_at h with ⟨t, h⟩ | ⟨-, h⟩
  · exact z_cU (x := ⟨"TwoPens$Line", "shows", "(ILTwoPens$Trace;)I"⟩) (owner := "TwoPens$Line") hx hb hq hml hown hK hW hS 10 [.int b0, .ref (G.2.2.2 + b1)] rest rfl (List.mem_singleton.mp t) (c_X4_shows l G st o b0 b1 h) (zi zm997) (zi zm998) (zi zm1019) (zi zm999) (zi zm367) (zi zm1007) (zi zm999) (zi zm1007) cal_X4_shows rfl hsz hst hcat (zR_le hR (by omega) (by decide)) hf hdg kk
  cases h
theorem zv_RX11_236 {p : Program} {l : Launch} {e : Env} {R : Room} {s : State} {m : MethodId} {args : Array Value} {below : List Frame} {meth : Method} {c : Code} {H : Heap} {locs : List Loc} {cells slots : Nat} {Q : State → Prop} {cc : ByteArray} {pc nL : Nat} {ls : Array Slot} {G : zG} {st0 : List Value}
    (hx : p.tables.exec = Jvm.exec) (hb : c.code = cc) (hq : ∀ w ∈ zT, w.before args s = true) (hml : c.maxLocals = nL) (hown : s.vm.findClass RX11 = some m.cls) (hK : zKn G s) (st : zS) (hW : zWd G st H) (hS : va_S (zA G) s.heap H locs) (rest : List Value) (o : Nat) (b0 : Int32) (b1 : Nat) (st' : zS) (r : Int32)
    (h : fv_Line_tells st o b0 b1 = some (st', r)) (hsz : ls.size = nL) (hst : st0 = ([.int b0, .ref (G.2.2.2 + b1)] : List Value).reverse ++ .ref (G.2.2.2 + o) :: rest) (hcat : (rest.map fun v => v.category).sum ≤ 8) (hR : 6 + 1 ≤ R.frames ∧ 60 + 60 * 6 ≤ R.locals) (hf : cells ≤ R.cells ∧ slots ≤ R.slots) (hdg : decode cc pc = .ok (.invokevirtual 236, 3))
    (kk : ∀ (H1 : Heap) (locs1 : List Loc), zWd G st' H1 → va_S (zA G) s.heap H1 locs1 → W p l e R s m args below meth c H1 locs1 cells slots Q (F0 m (pc + 3) ls ((.int r) :: rest))) : W p l e R s m args below meth c H locs cells slots Q (F0 m pc ls st0) := by
  unfold fv_Line_tells at h
  rcases zi_at h with ⟨t, h⟩ | ⟨-, h⟩
  · exact z_cU (x := ⟨"TwoPens$Line", "tells", "(ILTwoPens$Trace;)I"⟩) (owner := "TwoPens$Line") hx hb hq hml hown hK hW hS 0 [.int b0, .ref (G.2.2.2 + b1)] rest rfl (List.mem_singleton.mp t) (c_X4_tells l G st o b0 b1 h) (zi zm1020) (zi zm1021) (zi zm1022) (zi zm1023) (zi zm367) (zi zm1024) (zi zm1023) (zi zm1024) cal_X4_tells rfl hsz hst hcat (zR_le hR (by omega) (by decide)) hf hdg kk
  rcases zi_at h with ⟨t, h⟩ | ⟨-, h⟩
  · exact z_cU (x := ⟨"TwoPens$Line", "tells", "(ILTwoPens$Trace;)I"⟩) (owner := "TwoPens$Line") hx hb hq hml hown hK hW hS 1 [.int b0, .ref (G.2.2.2 + b1)] rest rfl (List.mem_singleton.mp t) (c_X4_tells l G st o b0 b1 h) (zi zm1020) (zi zm1021) (zi zm1027) (zi zm1023) (zi zm367) (zi zm1024) (zi zm1023) (zi zm1024) cal_X4_tells rfl hsz hst hcat (zR_le hR (by omega) (by decide)) hf hdg kk
  rcases zi_at h with ⟨t, h⟩ | ⟨-, h⟩
  · exact z_cU (x := ⟨"TwoPens$Line", "tells", "(ILTwoPens$Trace;)I"⟩) (owner := "TwoPens$Line") hx hb hq hml hown hK hW hS 3 [.int b0, .ref (G.2.2.2 + b1)] rest rfl (List.mem_singleton.mp t) (c_X3_tells l G st o b0 b1 h) (zi zm1020) (zi zm1021) (zi zm1029) (zi zm1030) (zi zm355) (zi zm1031) (zi zm1023) (zi zm1024) cal_X4_tells rfl hsz hst hcat (zR_le hR (by omega) (by decide)) hf hdg kk
  rcases zi_at h with ⟨t, h⟩ | ⟨-, h⟩
  · exact z_cU (x := ⟨"TwoPens$Line", "tells", "(ILTwoPens$Trace;)I"⟩) (owner := "TwoPens$Line") hx hb hq hml hown hK hW hS 4 [.int b0, .ref (G.2.2.2 + b1)] rest rfl (List.mem_singleton.mp t) (c_X4_tells l G st o b0 b1 h) (zi zm1020) (zi zm1021) (zi zm1036) (zi zm1023) (zi zm367) (zi zm1024) (zi zm1023) (zi zm1024) cal_X4_tells rfl hsz hst hcat (zR_le hR (by omega) (by decide)) hf hdg kk
  rcases zi_at h with ⟨t, h⟩ | ⟨-, h⟩
  · exact z_cU (x := ⟨"TwoPens$Line", "tells", "(ILTwoPens$Trace;)I"⟩) (owner := "TwoPens$Line") hx hb hq hml hown hK hW hS 7 [.int b0, .ref (G.2.2.2 + b1)] rest rfl (List.mem_singleton.mp t) (c_X3_tells l G st o b0 b1 h) (zi zm1020) (zi zm1021) (zi zm1037) (zi zm1030) (zi zm355) (zi zm1031) (zi zm1023) (zi zm1024) cal_X4_tells rfl hsz hst hcat (zR_le hR (by omega) (by decide)) hf hdg kk
  rcases zi_at h with ⟨t, h⟩ | ⟨-, h⟩
  · exact z_cU (x := ⟨"TwoPens$Line", "tells", "(ILTwoPens$Trace;)I"⟩) (owner := "TwoPens$Line") hx hb hq hml hown hK hW hS 9 [.int b0, .ref (G.2.2.2 + b1)] rest rfl (List.mem_singleton.mp t) (c_X9_tells l G st o b0 b1 h) (zi zm1020) (zi zm1021) (zi zm1038) (zi zm1039) (zi zm358) (zi zm1040) (zi zm1023) (zi zm1024) cal_X4_tells rfl hsz hst hcat (zR_le hR (by omega) (by decide)) hf hdg kk
  rcases zi_at h with ⟨t, h⟩ | ⟨-, h⟩
  · exact z_cU (x := ⟨"TwoPens$Line", "tells", "(ILTwoPens$Trace;)I"⟩) (owner := "TwoPens$Line") hx hb hq hml hown hK hW hS 10 [.int b0, .ref (G.2.2.2 + b1)] rest rfl (List.mem_singleton.mp t) (c_X4_tells l G st o b0 b1 h) (zi zm1020) (zi zm1021) (zi zm1045) (zi zm1023) (zi zm367) (zi zm1024) (zi zm1023) (zi zm1024) cal_X4_tells rfl hsz hst hcat (zR_le hR (by omega) (by decide)) hf hdg kk
  cases h
set_option maxHeartbeats 1000000 in
set_option maxRecDepth 100000 in
theorem c_X11_act (l : Launch) (G : zG) (st : zS) (o : Nat) (a1 : Int32) (a2 : Int32) (a3 : Int32) {st' : zS} {r : Int32} (h : f_X11_act st o a1 a2 a3 = some (st', r)) : zMet l G yX11_act cX11_act 5 (some .int) 7 0 0 [.ref (G.2.2.2 + o), .int a1, .int a2, .int a3] st (some (.int r)) st' := by
  refine zMet_of (by decide +kernel) ?_
  intro p e s m args below meth c X
  obtain ⟨hx, hb, hr, hml, hown, hq, hlk, hK, -, hin, hW, hS⟩ := X
  have hown : s.vm.findClass RX11 = some m.cls := hown
  refine z_ent (by exact Nat.le_of_ble_eq_true rfl) (fun ls hl => ?_)
  have hl : lv_has ls 5 [(0, .ref (G.2.2.2 + o)), (1, .int a1), (2, .int a2), (3, .int a3)] := hl
  unfold f_X11_act at h
  refine lv_aload_n hx hb dX11_act_0 rfl (lv_at hl 0 rfl) ?_
  obtain ⟨t1, h⟩ := zc_at h
  obtain ⟨b2, hb2, h⟩ := zd_at h
  refine z_gR hx hb hq hown hK hW fs_RX11_24 t1 hb2 dX11_act_1 ?_
  obtain ⟨t3, h⟩ := zc_at h
  obtain ⟨st5, c4, h⟩ := zd_at h
  refine z_cV hx hb hq hml hown hK hW hS 8 [] [] rfl (List.mem_singleton.mp t3) (c_X8_clear l G st b2 c4) (zi zm965) (zi zm966) (zi zm967) (zi zm19) (zi zm968) cal_X8_clear rfl rfl hl.1 rfl (Nat.le_of_ble_eq_true rfl) (zR_ok (by omega) (by decide)) ⟨(Nat.le_of_ble_eq_true rfl), (Nat.le_of_ble_eq_true rfl)⟩ dX11_act_4 (fun H locs hW hS => ?_)
  refine W.eq (g2 := F0 m 7 ls []) rfl ?_
  refine lv_aload_n hx hb dX11_act_7 rfl (lv_at hl 0 rfl) ?_
  obtain ⟨t6, h⟩ := zc_at h
  obtain ⟨b7, hb7, h⟩ := zd_at h
  refine z_gR hx hb hq hown hK hW fs_RX11_12 t6 hb7 dX11_act_8 ?_
  refine lv_iload_n hx hb dX11_act_11 rfl (lv_at hl 1 rfl) ?_
  obtain ⟨t8, h⟩ := zc_at h
  obtain ⟨r10, c9, h⟩ := zd_at h
  refine z_cV hx hb hq hml hown hK hW hS 2 [.int a1] [] rfl (List.mem_singleton.mp t8) (c_X2_wayOf l G st5 b7 a1 c9) (zi zm417) (zi zm418) (zi zm419) (zi zm14) (zi zm420) cal_X2_wayOf rfl rfl hl.1 rfl (Nat.le_of_ble_eq_true rfl) (zR_ok (by omega) (by decide)) ⟨(Nat.le_of_ble_eq_true rfl), (Nat.le_of_ble_eq_true rfl)⟩ dX11_act_12 (fun H locs hW hS => ?_)
  rcases r10 with _ | q11
  · refine W.eq (g2 := F0 m 15 ls [.null]) rfl ?_
    refine lv_astoreN (lv' := [(4, .null), (0, .ref (G.2.2.2 + o)), (1, .int a1), (2, .int a2), (3, .int a3)]) hx hb dX11_act_15 hl (by decide) rfl (fun ls hl => ?_)
    refine lv_aloadN hx hb dX11_act_17 (lv_at hl 0 rfl) ?_
    refine lv_ifnonnullN hx hb dX11_act_19 ?_
    refine lv_iconst (v := (nI 0)) hx hb dX11_act_22 (by decide) ?_
    obtain ⟨rfl, rfl⟩ := Prod.mk.inj (Option.some.inj h)
    exact z_ri hx hb hr hlk hW hS (Nat.le_of_ble_eq_true rfl) (Nat.le_of_ble_eq_true rfl) dX11_act_23
  · refine W.eq (g2 := F0 m 15 ls [.ref (G.2.2.2 + q11)]) rfl ?_
    refine lv_astore (lv' := [(4, .ref (G.2.2.2 + q11)), (0, .ref (G.2.2.2 + o)), (1, .int a1), (2, .int a2), (3, .int a3)]) hx hb dX11_act_15 hl (by decide) rfl (fun ls hl => ?_)
    refine lv_aload hx hb dX11_act_17 (lv_at hl 0 rfl) ?_
    refine lv_ifnonnull (tgt := 24) hx hb dX11_act_19 (by decide) ?_
    refine lv_iload_n hx hb dX11_act_24 rfl (lv_at hl 3 rfl) ?_
    rcases zi_at h with ⟨k12, h⟩ | ⟨k12, h⟩
    · refine lv_tableIn (off := 27) (tgt := 52) hx hb dX11_act_25 (by rw [k12]; decide) (by rw [k12]; decide) (by rw [k12]; rfl) (by decide) ?_
      refine lv_aload hx hb dX11_act_52 (lv_at hl 0 rfl) ?_
      refine lv_iload_n hx hb dX11_act_54 rfl (lv_at hl 4 rfl) ?_
      refine lv_aload_n hx hb dX11_act_55 rfl (lv_at hl 1 rfl) ?_
      obtain ⟨b13, hb13, h⟩ := zd_at h
      refine z_gR hx hb hq hown hK hW fs_RX11_24 t6 hb13 dX11_act_56 ?_
      obtain ⟨st15, r16, c14, h⟩ := zb_at h
      refine zv_RX11_229 hx hb hq hml hown hK st5 hW hS [] q11 a3 b13 _ _ c14 hl.1 rfl (Nat.le_of_ble_eq_true rfl) (zR_v (by omega)) ⟨(Nat.le_of_ble_eq_true rfl), (Nat.le_of_ble_eq_true rfl)⟩ dX11_act_59 (fun H locs hW hS => ?_)
      refine W.eq (g2 := F0 m 62 ls [.int r16]) rfl ?_
      obtain ⟨rfl, rfl⟩ := Prod.mk.inj (Option.some.inj h)
      exact z_ri hx hb hr hlk hW hS (Nat.le_of_ble_eq_true rfl) (Nat.le_of_ble_eq_true rfl) dX11_act_62
    · rcases zi_at h with ⟨k17, h⟩ | ⟨k17, h⟩
      · refine lv_tableIn (off := 38) (tgt := 63) hx hb dX11_act_25 (by rw [k17]; decide) (by rw [k17]; decide) (by rw [k17]; rfl) (by decide) ?_
        refine lv_aload hx hb dX11_act_63 (lv_at hl 0 rfl) ?_
        refine lv_iload_n hx hb dX11_act_65 rfl (lv_at hl 4 rfl) ?_
        refine lv_aload_n hx hb dX11_act_66 rfl (lv_at hl 1 rfl) ?_
        obtain ⟨b18, hb18, h⟩ := zd_at h
        refine z_gR hx hb hq hown hK hW fs_RX11_24 t6 hb18 dX11_act_67 ?_
        obtain ⟨st20, r21, c19, h⟩ := zb_at h
        refine zv_RX11_233 hx hb hq hml hown hK st5 hW hS [] q11 a3 b18 _ _ c19 hl.1 rfl (Nat.le_of_ble_eq_true rfl) (zR_v (by omega)) ⟨(Nat.le_of_ble_eq_true rfl), (Nat.le_of_ble_eq_true rfl)⟩ dX11_act_70 (fun H locs hW hS => ?_)
        refine W.eq (g2 := F0 m 73 ls [.int r21]) rfl ?_
        obtain ⟨rfl, rfl⟩ := Prod.mk.inj (Option.some.inj h)
        exact z_ri hx hb hr hlk hW hS (Nat.le_of_ble_eq_true rfl) (Nat.le_of_ble_eq_true rfl) dX11_act_73
      · rcases zi_at h with ⟨k22, h⟩ | ⟨k22, h⟩
        · refine lv_tableIn (off := 49) (tgt := 74) hx hb dX11_act_25 (by rw [k22]; decide) (by rw [k22]; decide) (by rw [k22]; rfl) (by decide) ?_
          refine lv_aload hx hb dX11_act_74 (lv_at hl 0 rfl) ?_
          refine lv_iload_n hx hb dX11_act_76 rfl (lv_at hl 4 rfl) ?_
          refine lv_aload_n hx hb dX11_act_77 rfl (lv_at hl 1 rfl) ?_
          obtain ⟨b23, hb23, h⟩ := zd_at h
          refine z_gR hx hb hq hown hK hW fs_RX11_24 t6 hb23 dX11_act_78 ?_
          obtain ⟨st25, r26, c24, h⟩ := zb_at h
          refine zv_RX11_236 hx hb hq hml hown hK st5 hW hS [] q11 a3 b23 _ _ c24 hl.1 rfl (Nat.le_of_ble_eq_true rfl) (zR_v (by omega)) ⟨(Nat.le_of_ble_eq_true rfl), (Nat.le_of_ble_eq_true rfl)⟩ dX11_act_81 (fun H locs hW hS => ?_)
          refine W.eq (g2 := F0 m 84 ls [.int r26]) rfl ?_
          obtain ⟨rfl, rfl⟩ := Prod.mk.inj (Option.some.inj h)
          exact z_ri hx hb hr hlk hW hS (Nat.le_of_ble_eq_true rfl) (Nat.le_of_ble_eq_true rfl) dX11_act_84
        · refine lv_tableOut (tgt := 85) hx hb dX11_act_25 (by have q0 := lv_neT (a := 0) k12 (by decide); have q1 := lv_neT (a := 1) k17 (by decide); have q2 := lv_neT (a := 2) k22 (by decide); omega) (by decide) ?_
          refine lv_iconst (v := (nI 0)) hx hb dX11_act_85 (by decide) ?_
          obtain ⟨rfl, rfl⟩ := Prod.mk.inj (Option.some.inj h)
          exact z_ri hx hb hr hlk hW hS (Nat.le_of_ble_eq_true rfl) (Nat.le_of_ble_eq_true rfl) dX11_act_86
def f_X11_trace (st : zS) (o : Nat) (a1 : Int32) : Option Int32 := (if zTg st o ∈ [21] then (Option.bind (zR st o 3) (fun b2 => (if zTg st b2 ∈ [18] then (Option.bind (f_X8_bodyAt st b2 a1) (fun r5 => (some r5))) else none))) else none)
set_option maxHeartbeats 1000000 in
set_option maxRecDepth 100000 in
theorem c_X11_trace (l : Launch) (G : zG) (st : zS) (o : Nat) (a1 : Int32) {r : Int32} (h : f_X11_trace st o a1 = some r) : zMet l G yX11_trace cX11_trace 2 (some .int) 1 0 0 [.ref (G.2.2.2 + o), .int a1] st (some (.int r)) st := by
  refine zMet_of (by decide +kernel) ?_
  intro p e s m args below meth c X
  obtain ⟨hx, hb, hr, hml, hown, hq, hlk, hK, -, hin, hW, hS⟩ := X
  have hown : s.vm.findClass RX11 = some m.cls := hown
  refine z_ent (by exact Nat.le_of_ble_eq_true rfl) (fun ls hl => ?_)
  have hl : lv_has ls 2 [(0, .ref (G.2.2.2 + o)), (1, .int a1)] := hl
  unfold f_X11_trace at h
  refine lv_aload_n hx hb dX11_trace_0 rfl (lv_at hl 0 rfl) ?_
  obtain ⟨t1, h⟩ := zc_at h
  obtain ⟨b2, hb2, h⟩ := zd_at h
  refine z_gR hx hb hq hown hK hW fs_RX11_24 t1 hb2 dX11_trace_1 ?_
  refine lv_iload_n hx hb dX11_trace_4 rfl (lv_at hl 1 rfl) ?_
  obtain ⟨t3, h⟩ := zc_at h
  obtain ⟨r5, c4, h⟩ := zd_at h
  refine z_cV hx hb hq hml hown hK hW hS 8 [.int a1] [] rfl (List.mem_singleton.mp t3) (c_X8_bodyAt l G st b2 a1 c4) (zi zm1089) (zi zm1090) (zi zm1091) (zi zm19) (zi zm1092) cal_X8_bodyAt rfl rfl hl.1 rfl (Nat.le_of_ble_eq_true rfl) (zR_ok (by omega) (by decide)) ⟨(Nat.le_of_ble_eq_true rfl), (Nat.le_of_ble_eq_true rfl)⟩ dX11_trace_5 (fun H locs hW hS => ?_)
  refine W.eq (g2 := F0 m 8 ls [.int r5]) rfl ?_
  obtain rfl := Option.some.inj h
  exact z_ri hx hb hr hlk hW hS (Nat.le_of_ble_eq_true rfl) (Nat.le_of_ble_eq_true rfl) dX11_trace_8
def f_X11_isUnder (st : zS) (a0 : Nat) (a1 : Int32) : Option Int32 := (if a1 = (nI 0) then (some (nI 1)) else (if a1 = (nI 1) then (if zTg st a0 ∈ zLs then (if zB (if zTg st a0 ∈ [20, 19] then (1 : Int32) else 0) then (some (if zTg st a0 ∈ [20, 19] then (1 : Int32) else 0)) else none) else none) else (if a1 = (nI 2) then (if zTg st a0 ∈ zLs then (if zB (if zTg st a0 ∈ [10, 11] then (1 : Int32) else 0) then (some (if zTg st a0 ∈ [10, 11] then (1 : Int32) else 0)) else none) else none) else (if a1 = (nI 3) then (if zTg st a0 ∈ zLs then (if zB (if zTg st a0 ∈ [13, 17] then (1 : Int32) else 0) then (some (if zTg st a0 ∈ [13, 17] then (1 : Int32) else 0)) else none) else none) else (if a1 = (nI 4) then (if zTg st a0 ∈ zLs then (if zB (if zTg st a0 ∈ [19] then (1 : Int32) else 0) then (some (if zTg st a0 ∈ [19] then (1 : Int32) else 0)) else none) else none) else (if a1 = (nI 5) then (if zTg st a0 ∈ zLs then (if zB (if zTg st a0 ∈ [11] then (1 : Int32) else 0) then (some (if zTg st a0 ∈ [11] then (1 : Int32) else 0)) else none) else none) else (if a1 = (nI 6) then (if zTg st a0 ∈ zLs then (if zB (if zTg st a0 ∈ [17] then (1 : Int32) else 0) then (some (if zTg st a0 ∈ [17] then (1 : Int32) else 0)) else none) else none) else (some (nI 0)))))))))
set_option maxHeartbeats 1000000 in
set_option maxRecDepth 100000 in
theorem c_X11_isUnder (l : Launch) (G : zG) (st : zS) (a0 : Nat) (a1 : Int32) {r : Int32} (h : f_X11_isUnder st a0 a1 = some r) : zMet l G yX11_isUnder cX11_isUnder 2 (some .boolean) 0 0 0 [.ref (G.2.2.2 + a0), .int a1] st (some (.int r)) st := by
  refine zMet_of (by decide +kernel) ?_
  intro p e s m args below meth c X
  obtain ⟨hx, hb, hr, hml, hown, hq, hlk, hK, -, hin, hW, hS⟩ := X
  have hown : s.vm.findClass RX11 = some m.cls := hown
  refine z_ent (by exact Nat.le_of_ble_eq_true rfl) (fun ls hl => ?_)
  have hl : lv_has ls 2 [(0, .ref (G.2.2.2 + a0)), (1, .int a1)] := hl
  unfold f_X11_isUnder at h
  refine lv_iload_n hx hb dX11_isUnder_0 rfl (lv_at hl 1 rfl) ?_
  rcases zi_at h with ⟨k1, h⟩ | ⟨k1, h⟩
  · refine lv_tableIn (off := 43) (tgt := 44) hx hb dX11_isUnder_1 (by rw [k1]; decide) (by rw [k1]; decide) (by rw [k1]; rfl) (by decide) ?_
    refine lv_iconst (v := (nI 1)) hx hb dX11_isUnder_44 (by decide) ?_
    obtain rfl := Option.some.inj h
    exact z_rz hx hb hr hlk rfl hW hS (Nat.le_of_ble_eq_true rfl) (Nat.le_of_ble_eq_true rfl) dX11_isUnder_45
  · rcases zi_at h with ⟨k2, h⟩ | ⟨k2, h⟩
    · refine lv_tableIn (off := 45) (tgt := 46) hx hb dX11_isUnder_1 (by rw [k2]; decide) (by rw [k2]; decide) (by rw [k2]; rfl) (by decide) ?_
      refine lv_aload_n hx hb dX11_isUnder_46 rfl (lv_at hl 0 rfl) ?_
      obtain ⟨t3, h⟩ := zc_at h
      refine z_io (subs := [20, 19]) hx hb hq hown hK hW (zi zm347) (by decide +kernel) t3 dX11_isUnder_47 ?_
      obtain ⟨t4, h⟩ := zc_at h
      obtain rfl := Option.some.inj h
      exact z_rz hx hb hr hlk (zB_n t4) hW hS (Nat.le_of_ble_eq_true rfl) (Nat.le_of_ble_eq_true rfl) dX11_isUnder_50
    · rcases zi_at h with ⟨k5, h⟩ | ⟨k5, h⟩
      · refine lv_tableIn (off := 50) (tgt := 51) hx hb dX11_isUnder_1 (by rw [k5]; decide) (by rw [k5]; decide) (by rw [k5]; rfl) (by decide) ?_
        refine lv_aload_n hx hb dX11_isUnder_51 rfl (lv_at hl 0 rfl) ?_
        obtain ⟨t6, h⟩ := zc_at h
        refine z_io (subs := [10, 11]) hx hb hq hown hK hW (zi zm350) (by decide +kernel) t6 dX11_isUnder_52 ?_
        obtain ⟨t7, h⟩ := zc_at h
        obtain rfl := Option.some.inj h
        exact z_rz hx hb hr hlk (zB_n t7) hW hS (Nat.le_of_ble_eq_true rfl) (Nat.le_of_ble_eq_true rfl) dX11_isUnder_55
      · rcases zi_at h with ⟨k8, h⟩ | ⟨k8, h⟩
        · refine lv_tableIn (off := 55) (tgt := 56) hx hb dX11_isUnder_1 (by rw [k8]; decide) (by rw [k8]; decide) (by rw [k8]; rfl) (by decide) ?_
          refine lv_aload_n hx hb dX11_isUnder_56 rfl (lv_at hl 0 rfl) ?_
          obtain ⟨t9, h⟩ := zc_at h
          refine z_io (subs := [13, 17]) hx hb hq hown hK hW (zi zm353) (by decide +kernel) t9 dX11_isUnder_57 ?_
          obtain ⟨t10, h⟩ := zc_at h
          obtain rfl := Option.some.inj h
          exact z_rz hx hb hr hlk (zB_n t10) hW hS (Nat.le_of_ble_eq_true rfl) (Nat.le_of_ble_eq_true rfl) dX11_isUnder_60
        · rcases zi_at h with ⟨k11, h⟩ | ⟨k11, h⟩
          · refine lv_tableIn (off := 60) (tgt := 61) hx hb dX11_isUnder_1 (by rw [k11]; decide) (by rw [k11]; decide) (by rw [k11]; rfl) (by decide) ?_
            refine lv_aload_n hx hb dX11_isUnder_61 rfl (lv_at hl 0 rfl) ?_
            obtain ⟨t12, h⟩ := zc_at h
            refine z_io (subs := [19]) hx hb hq hown hK hW (zi zm356) (by decide +kernel) t12 dX11_isUnder_62 ?_
            obtain ⟨t13, h⟩ := zc_at h
            obtain rfl := Option.some.inj h
            exact z_rz hx hb hr hlk (zB_n t13) hW hS (Nat.le_of_ble_eq_true rfl) (Nat.le_of_ble_eq_true rfl) dX11_isUnder_65
          · rcases zi_at h with ⟨k14, h⟩ | ⟨k14, h⟩
            · refine lv_tableIn (off := 65) (tgt := 66) hx hb dX11_isUnder_1 (by rw [k14]; decide) (by rw [k14]; decide) (by rw [k14]; rfl) (by decide) ?_
              refine lv_aload_n hx hb dX11_isUnder_66 rfl (lv_at hl 0 rfl) ?_
              obtain ⟨t15, h⟩ := zc_at h
              refine z_io (subs := [11]) hx hb hq hown hK hW (zi zm359) (by decide +kernel) t15 dX11_isUnder_67 ?_
              obtain ⟨t16, h⟩ := zc_at h
              obtain rfl := Option.some.inj h
              exact z_rz hx hb hr hlk (zB_n t16) hW hS (Nat.le_of_ble_eq_true rfl) (Nat.le_of_ble_eq_true rfl) dX11_isUnder_70
            · rcases zi_at h with ⟨k17, h⟩ | ⟨k17, h⟩
              · refine lv_tableIn (off := 70) (tgt := 71) hx hb dX11_isUnder_1 (by rw [k17]; decide) (by rw [k17]; decide) (by rw [k17]; rfl) (by decide) ?_
                refine lv_aload_n hx hb dX11_isUnder_71 rfl (lv_at hl 0 rfl) ?_
                obtain ⟨t18, h⟩ := zc_at h
                refine z_io (subs := [17]) hx hb hq hown hK hW (zi zm362) (by decide +kernel) t18 dX11_isUnder_72 ?_
                obtain ⟨t19, h⟩ := zc_at h
                obtain rfl := Option.some.inj h
                exact z_rz hx hb hr hlk (zB_n t19) hW hS (Nat.le_of_ble_eq_true rfl) (Nat.le_of_ble_eq_true rfl) dX11_isUnder_75
              · refine lv_tableOut (tgt := 76) hx hb dX11_isUnder_1 (by have q0 := lv_neT (a := 0) k1 (by decide); have q1 := lv_neT (a := 1) k2 (by decide); have q2 := lv_neT (a := 2) k5 (by decide); have q3 := lv_neT (a := 3) k8 (by decide); have q4 := lv_neT (a := 4) k11 (by decide); have q5 := lv_neT (a := 5) k14 (by decide); have q6 := lv_neT (a := 6) k17 (by decide); omega) (by decide) ?_
                refine lv_iconst (v := (nI 0)) hx hb dX11_isUnder_76 (by decide) ?_
                obtain rfl := Option.some.inj h
                exact z_rz hx hb hr hlk rfl hW hS (Nat.le_of_ble_eq_true rfl) (Nat.le_of_ble_eq_true rfl) dX11_isUnder_77
def f_X11_as (st : zS) (o : Nat) (a1 : Int32) (a2 : Int32) : Option Int32 := (if zTg st o ∈ [21] then (Option.bind (zR st o 0) (fun b2 => (if zTg st b2 ∈ [12] then (Option.bind (f_X2_wayOf st b2 a1) (fun r5 => (zo r5 (some (-1 : Int32)) (fun q6 => (if a2 < 0 then (some (-1 : Int32)) else (if a2 ≤ (nI 6) then (Option.bind (f_X11_isUnder st q6 a2) (fun r8 => (if r8 = 0 then (some (-6 : Int32)) else (if zTg st q6 ∈ zLs then (some (zM st q6 2)) else none)))) else (some (-1 : Int32)))))))) else none))) else none)
set_option maxHeartbeats 1000000 in
set_option maxRecDepth 100000 in
theorem c_X11_as (l : Launch) (G : zG) (st : zS) (o : Nat) (a1 : Int32) (a2 : Int32) {r : Int32} (h : f_X11_as st o a1 a2 = some r) : zMet l G yX11_as cX11_as 4 (some .int) 1 0 0 [.ref (G.2.2.2 + o), .int a1, .int a2] st (some (.int r)) st := by
  refine zMet_of (by decide +kernel) ?_
  intro p e s m args below meth c X
  obtain ⟨hx, hb, hr, hml, hown, hq, hlk, hK, -, hin, hW, hS⟩ := X
  have hown : s.vm.findClass RX11 = some m.cls := hown
  refine z_ent (by exact Nat.le_of_ble_eq_true rfl) (fun ls hl => ?_)
  have hl : lv_has ls 4 [(0, .ref (G.2.2.2 + o)), (1, .int a1), (2, .int a2)] := hl
  unfold f_X11_as at h
  refine lv_aload_n hx hb dX11_as_0 rfl (lv_at hl 0 rfl) ?_
  obtain ⟨t1, h⟩ := zc_at h
  obtain ⟨b2, hb2, h⟩ := zd_at h
  refine z_gR hx hb hq hown hK hW fs_RX11_12 t1 hb2 dX11_as_1 ?_
  refine lv_iload_n hx hb dX11_as_4 rfl (lv_at hl 1 rfl) ?_
  obtain ⟨t3, h⟩ := zc_at h
  obtain ⟨r5, c4, h⟩ := zd_at h
  refine z_cV hx hb hq hml hown hK hW hS 2 [.int a1] [] rfl (List.mem_singleton.mp t3) (c_X2_wayOf l G st b2 a1 c4) (zi zm417) (zi zm418) (zi zm419) (zi zm14) (zi zm420) cal_X2_wayOf rfl rfl hl.1 rfl (Nat.le_of_ble_eq_true rfl) (zR_ok (by omega) (by decide)) ⟨(Nat.le_of_ble_eq_true rfl), (Nat.le_of_ble_eq_true rfl)⟩ dX11_as_5 (fun H locs hW hS => ?_)
  rcases r5 with _ | q6
  · refine W.eq (g2 := F0 m 8 ls [.null]) rfl ?_
    refine lv_astore_nN (lv' := [(3, .null), (0, .ref (G.2.2.2 + o)), (1, .int a1), (2, .int a2)]) hx hb dX11_as_8 rfl hl (by decide) rfl (fun ls hl => ?_)
    refine lv_aload_nN hx hb dX11_as_9 rfl (lv_at hl 0 rfl) ?_
    refine lv_ifnullN (tgt := 23) hx hb dX11_as_10 (by decide) ?_
    refine lv_iconst (v := (-1)) hx hb dX11_as_23 (by decide) ?_
    obtain rfl := Option.some.inj h
    exact z_ri hx hb hr hlk hW hS (Nat.le_of_ble_eq_true rfl) (Nat.le_of_ble_eq_true rfl) dX11_as_24
  · refine W.eq (g2 := F0 m 8 ls [.ref (G.2.2.2 + q6)]) rfl ?_
    refine lv_astore_n (lv' := [(3, .ref (G.2.2.2 + q6)), (0, .ref (G.2.2.2 + o)), (1, .int a1), (2, .int a2)]) hx hb dX11_as_8 rfl hl (by decide) rfl (fun ls hl => ?_)
    refine lv_aload_n hx hb dX11_as_9 rfl (lv_at hl 0 rfl) ?_
    refine lv_ifnull hx hb dX11_as_10 ?_
    refine lv_iload_n hx hb dX11_as_13 rfl (lv_at hl 3 rfl) ?_
    refine z_br (lv_if_lt (tgt := 23) hx hb dX11_as_14 (by decide)) h (fun h => ?_) (fun h => ?_)
    · refine lv_iconst (v := (-1)) hx hb dX11_as_23 (by decide) ?_
      obtain rfl := Option.some.inj h
      exact z_ri hx hb hr hlk hW hS (Nat.le_of_ble_eq_true rfl) (Nat.le_of_ble_eq_true rfl) dX11_as_24
    · refine lv_iload_n hx hb dX11_as_17 rfl (lv_at hl 3 rfl) ?_
      refine lv_bipush (v := (nI 6)) hx hb dX11_as_18 (by decide) ?_
      refine z_br (lv_icmp_le (tgt := 25) hx hb dX11_as_20 (by decide)) h (fun h => ?_) (fun h => ?_)
      · refine lv_aload_n hx hb dX11_as_25 rfl (lv_at hl 0 rfl) ?_
        refine lv_iload_n hx hb dX11_as_26 rfl (lv_at hl 3 rfl) ?_
        obtain ⟨r8, c7, h⟩ := zd_at h
        refine z_cS hx hb hq hml hown hK hW hS [.ref (G.2.2.2 + q6), .int a2] [] (c_X11_isUnder l G st q6 a2 c7) (zi zm1101) (zi zm1102) (zi zm2) (zi zm1103) cal_X11_isUnder rfl hl.1 rfl (Nat.le_of_ble_eq_true rfl) (zR_ok (by omega) (by decide)) ⟨(Nat.le_of_ble_eq_true rfl), (Nat.le_of_ble_eq_true rfl)⟩ dX11_as_27 (fun H locs hW hS => ?_)
        refine W.eq (g2 := F0 m 30 ls [.int r8]) rfl ?_
        refine z_br (lv_if_eq (tgt := 40) hx hb dX11_as_30 (by decide)) h (fun h => ?_) (fun h => ?_)
        · refine lv_bipush (v := (-6)) hx hb dX11_as_40 (by decide) ?_
          obtain rfl := Option.some.inj h
          exact z_ri hx hb hr hlk hW hS (Nat.le_of_ble_eq_true rfl) (Nat.le_of_ble_eq_true rfl) dX11_as_42
        · refine lv_aload_n hx hb dX11_as_33 rfl (lv_at hl 0 rfl) ?_
          obtain ⟨t9, h⟩ := zc_at h
          refine z_gI hx hb hq hown hK hW fs_RX11_83 t9 dX11_as_34 ?_
          refine lv_goto (tgt := 42) hx hb dX11_as_37 (by decide) ?_
          obtain rfl := Option.some.inj h
          exact z_ri hx hb hr hlk hW hS (Nat.le_of_ble_eq_true rfl) (Nat.le_of_ble_eq_true rfl) dX11_as_42
      · refine lv_iconst (v := (-1)) hx hb dX11_as_23 (by decide) ?_
        obtain rfl := Option.some.inj h
        exact z_ri hx hb hr hlk hW hS (Nat.le_of_ble_eq_true rfl) (Nat.le_of_ble_eq_true rfl) dX11_as_24
def f_X11_image (N : Nat) (st : zS) (o : Nat) : Option (zS × Int32) := (if zTg st o ∈ [21] then (Option.bind (zR st o 1) (fun b2 => (Option.bind (zR st o 0) (fun b3 => (if zTg st b2 ∈ [12] then (Option.bind (f_X2_copyAll N st b2 b3) (fun st6 => (if zTg st6 o ∈ [21] then (Option.bind (zR (zPM st6 o 2 (nI 1)) o 0) (fun b8 => (if zTg (zPM st6 o 2 (nI 1)) b8 ∈ [12] then (Option.bind (f_X2_wayCount (zPM st6 o 2 (nI 1)) b8) (fun r11 => (some ((zPM st6 o 2 (nI 1)), r11)))) else none))) else none))) else none))))) else none)
set_option maxHeartbeats 1000000 in
set_option maxRecDepth 100000 in
theorem c_X11_image (l : Launch) (G : zG) (N : Nat) (st : zS) (o : Nat) {st' : zS} {r : Int32} (h : f_X11_image N st o = some (st', r)) : zMet l G yX11_image cX11_image 1 (some .int) 3 0 0 [.ref (G.2.2.2 + o)] st (some (.int r)) st' := by
  refine zMet_of (by decide +kernel) ?_
  intro p e s m args below meth c X
  obtain ⟨hx, hb, hr, hml, hown, hq, hlk, hK, -, hin, hW, hS⟩ := X
  have hown : s.vm.findClass RX11 = some m.cls := hown
  refine z_ent (by exact Nat.le_of_ble_eq_true rfl) (fun ls hl => ?_)
  have hl : lv_has ls 1 [(0, .ref (G.2.2.2 + o))] := hl
  unfold f_X11_image at h
  refine lv_aload_n hx hb dX11_image_0 rfl (lv_at hl 0 rfl) ?_
  obtain ⟨t1, h⟩ := zc_at h
  obtain ⟨b2, hb2, h⟩ := zd_at h
  refine z_gR hx hb hq hown hK hW fs_RX11_18 t1 hb2 dX11_image_1 ?_
  refine lv_aload_n hx hb dX11_image_4 rfl (lv_at hl 0 rfl) ?_
  obtain ⟨b3, hb3, h⟩ := zd_at h
  refine z_gR hx hb hq hown hK hW fs_RX11_12 t1 hb3 dX11_image_5 ?_
  obtain ⟨t4, h⟩ := zc_at h
  obtain ⟨st6, c5, h⟩ := zd_at h
  refine z_cV hx hb hq hml hown hK hW hS 2 [.ref (G.2.2.2 + b3)] [] rfl (List.mem_singleton.mp t4) (c_X2_copyAll l G N st b2 b3 c5) (zi zm1118) (zi zm1119) (zi zm1120) (zi zm14) (zi zm1121) cal_X2_copyAll rfl rfl hl.1 rfl (Nat.le_of_ble_eq_true rfl) (zR_ok (by omega) (by decide)) ⟨(Nat.le_of_ble_eq_true rfl), (Nat.le_of_ble_eq_true rfl)⟩ dX11_image_8 (fun H locs hW hS => ?_)
  refine W.eq (g2 := F0 m 11 ls []) rfl ?_
  refine lv_aload_n hx hb dX11_image_11 rfl (lv_at hl 0 rfl) ?_
  refine lv_iconst (v := (nI 1)) hx hb dX11_image_12 (by decide) ?_
  obtain ⟨t7, h⟩ := zc_at h
  refine z_pI hx hb hq hown hK hW hS fp_RX11_250 t7 (fun h => by cases h) rfl rfl dX11_image_13 (fun H locs hW hS => ?_)
  refine lv_aload_n hx hb dX11_image_16 rfl (lv_at hl 0 rfl) ?_
  obtain ⟨b8, hb8, h⟩ := zd_at h
  refine z_gR hx hb hq hown hK hW fs_RX11_12 t7 hb8 dX11_image_17 ?_
  obtain ⟨t9, h⟩ := zc_at h
  obtain ⟨r11, c10, h⟩ := zd_at h
  refine z_cV hx hb hq hml hown hK hW hS 2 [] [] rfl (List.mem_singleton.mp t9) (c_X2_wayCount l G (zPM st6 o 2 (nI 1)) b8 c10) (zi zm339) (zi zm340) (zi zm341) (zi zm14) (zi zm342) cal_X2_wayCount rfl rfl hl.1 rfl (Nat.le_of_ble_eq_true rfl) (zR_ok (by omega) (by decide)) ⟨(Nat.le_of_ble_eq_true rfl), (Nat.le_of_ble_eq_true rfl)⟩ dX11_image_20 (fun H locs hW hS => ?_)
  refine W.eq (g2 := F0 m 23 ls [.int r11]) rfl ?_
  obtain ⟨rfl, rfl⟩ := Prod.mk.inj (Option.some.inj h)
  exact z_ri hx hb hr hlk hW hS (Nat.le_of_ble_eq_true rfl) (Nat.le_of_ble_eq_true rfl) dX11_image_23
def f_X11_undo (N : Nat) (st : zS) (o : Nat) : Option (zS × Int32) := (if zTg st o ∈ [21] then (if (zM st o 2) = 0 then (some (st, (-3 : Int32))) else (Option.bind (zR st o 0) (fun b2 => (Option.bind (zR st o 1) (fun b3 => (if zTg st b2 ∈ [12] then (Option.bind (f_X2_copyAll N st b2 b3) (fun st6 => (if zTg st6 o ∈ [21] then (Option.bind (zR st6 o 0) (fun b8 => (if zTg st6 b8 ∈ [12] then (Option.bind (f_X2_wayCount st6 b8) (fun r11 => (some (st6, r11)))) else none))) else none))) else none)))))) else none)
set_option maxHeartbeats 1000000 in
set_option maxRecDepth 100000 in
theorem c_X11_undo (l : Launch) (G : zG) (N : Nat) (st : zS) (o : Nat) {st' : zS} {r : Int32} (h : f_X11_undo N st o = some (st', r)) : zMet l G yX11_undo cX11_undo 1 (some .int) 3 0 0 [.ref (G.2.2.2 + o)] st (some (.int r)) st' := by
  refine zMet_of (by decide +kernel) ?_
  intro p e s m args below meth c X
  obtain ⟨hx, hb, hr, hml, hown, hq, hlk, hK, -, hin, hW, hS⟩ := X
  have hown : s.vm.findClass RX11 = some m.cls := hown
  refine z_ent (by exact Nat.le_of_ble_eq_true rfl) (fun ls hl => ?_)
  have hl : lv_has ls 1 [(0, .ref (G.2.2.2 + o))] := hl
  unfold f_X11_undo at h
  refine lv_aload_n hx hb dX11_undo_0 rfl (lv_at hl 0 rfl) ?_
  obtain ⟨t1, h⟩ := zc_at h
  refine z_gI hx hb hq hown hK hW fs_RX11_250 t1 dX11_undo_1 ?_
  refine z_brn (lv_if_ne (tgt := 10) hx hb dX11_undo_4 (by decide)) h (fun h => ?_) (fun h => ?_)
  · refine lv_aload_n hx hb dX11_undo_10 rfl (lv_at hl 0 rfl) ?_
    obtain ⟨b2, hb2, h⟩ := zd_at h
    refine z_gR hx hb hq hown hK hW fs_RX11_12 t1 hb2 dX11_undo_11 ?_
    refine lv_aload_n hx hb dX11_undo_14 rfl (lv_at hl 0 rfl) ?_
    obtain ⟨b3, hb3, h⟩ := zd_at h
    refine z_gR hx hb hq hown hK hW fs_RX11_18 t1 hb3 dX11_undo_15 ?_
    obtain ⟨t4, h⟩ := zc_at h
    obtain ⟨st6, c5, h⟩ := zd_at h
    refine z_cV hx hb hq hml hown hK hW hS 2 [.ref (G.2.2.2 + b3)] [] rfl (List.mem_singleton.mp t4) (c_X2_copyAll l G N st b2 b3 c5) (zi zm1118) (zi zm1119) (zi zm1120) (zi zm14) (zi zm1121) cal_X2_copyAll rfl rfl hl.1 rfl (Nat.le_of_ble_eq_true rfl) (zR_ok (by omega) (by decide)) ⟨(Nat.le_of_ble_eq_true rfl), (Nat.le_of_ble_eq_true rfl)⟩ dX11_undo_18 (fun H locs hW hS => ?_)
    refine W.eq (g2 := F0 m 21 ls []) rfl ?_
    refine lv_aload_n hx hb dX11_undo_21 rfl (lv_at hl 0 rfl) ?_
    obtain ⟨t7, h⟩ := zc_at h
    obtain ⟨b8, hb8, h⟩ := zd_at h
    refine z_gR hx hb hq hown hK hW fs_RX11_12 t7 hb8 dX11_undo_22 ?_
    obtain ⟨t9, h⟩ := zc_at h
    obtain ⟨r11, c10, h⟩ := zd_at h
    refine z_cV hx hb hq hml hown hK hW hS 2 [] [] rfl (List.mem_singleton.mp t9) (c_X2_wayCount l G st6 b8 c10) (zi zm339) (zi zm340) (zi zm341) (zi zm14) (zi zm342) cal_X2_wayCount rfl rfl hl.1 rfl (Nat.le_of_ble_eq_true rfl) (zR_ok (by omega) (by decide)) ⟨(Nat.le_of_ble_eq_true rfl), (Nat.le_of_ble_eq_true rfl)⟩ dX11_undo_25 (fun H locs hW hS => ?_)
    refine W.eq (g2 := F0 m 28 ls [.int r11]) rfl ?_
    obtain ⟨rfl, rfl⟩ := Prod.mk.inj (Option.some.inj h)
    exact z_ri hx hb hr hlk hW hS (Nat.le_of_ble_eq_true rfl) (Nat.le_of_ble_eq_true rfl) dX11_undo_28
  · refine lv_bipush (v := (-3)) hx hb dX11_undo_7 (by decide) ?_
    obtain ⟨rfl, rfl⟩ := Prod.mk.inj (Option.some.inj h)
    exact z_ri hx hb hr hlk hW hS (Nat.le_of_ble_eq_true rfl) (Nat.le_of_ble_eq_true rfl) dX11_undo_9
def f_X11_count (st : zS) (o : Nat) (a1 : Int32) : Option Int32 := (if a1 = (nI 0) then (if zTg st o ∈ [21] then (Option.bind (zR st o 0) (fun b3 => (if zTg st b3 ∈ [12] then (Option.bind (f_X2_wayCount st b3) (fun r6 => (some r6))) else none))) else none) else (if a1 = (nI 1) then (if zTg st o ∈ [21] then (Option.bind (zR st o 0) (fun b9 => (if zTg st b9 ∈ [12] then (some (zM st b9 3)) else none))) else none) else (if a1 = (nI 2) then (if zTg st o ∈ [21] then (Option.bind (zR st o 0) (fun b13 => (if zTg st b13 ∈ [12] then (Option.bind (zR st b13 8) (fun b15 => (if zTg st b15 ∈ [15] then (Option.bind (f_X5_size st b15) (fun r18 => (some r18))) else none))) else none))) else none) else (if a1 = (nI 3) then (if zTg st o ∈ [21] then (Option.bind (zR st o 0) (fun b21 => (if zTg st b21 ∈ [12] then (Option.bind (zR st b21 9) (fun b23 => (if zTg st b23 ∈ [15] then (Option.bind (f_X5_size st b23) (fun r26 => (some r26))) else none))) else none))) else none) else (if a1 = (nI 4) then (if zTg st o ∈ [21] then (Option.bind (zR st o 0) (fun b29 => (if zTg st b29 ∈ [12] then (Option.bind (zR st b29 10) (fun b31 => (if zTg st b31 ∈ [15] then (Option.bind (f_X5_size st b31) (fun r34 => (some r34))) else none))) else none))) else none) else (if a1 = (nI 5) then (if zTg st o ∈ [21] then (Option.bind (zR st o 0) (fun b37 => (if zTg st b37 ∈ [12] then (Option.bind (zR st b37 11) (fun b39 => (if zTg st b39 ∈ [15] then (Option.bind (f_X5_size st b39) (fun r42 => (some r42))) else none))) else none))) else none) else (if a1 = (nI 6) then (if zTg st o ∈ [21] then (Option.bind (zR st o 0) (fun b45 => (if zTg st b45 ∈ [12] then (Option.bind (zR st b45 4) (fun b47 => (if zTg st b47 ∈ [15] then (Option.bind (f_X5_size st b47) (fun r50 => (some r50))) else none))) else none))) else none) else (if a1 = (nI 7) then (if zTg st o ∈ [21] then (Option.bind (zR st o 3) (fun b53 => (if zTg st b53 ∈ [18] then (some (zM st b53 1)) else none))) else none) else (some (-1 : Int32))))))))))
set_option maxHeartbeats 1000000 in
set_option maxRecDepth 100000 in
theorem c_X11_count (l : Launch) (G : zG) (st : zS) (o : Nat) (a1 : Int32) {r : Int32} (h : f_X11_count st o a1 = some r) : zMet l G yX11_count cX11_count 2 (some .int) 1 0 0 [.ref (G.2.2.2 + o), .int a1] st (some (.int r)) st := by
  refine zMet_of (by decide +kernel) ?_
  intro p e s m args below meth c X
  obtain ⟨hx, hb, hr, hml, hown, hq, hlk, hK, -, hin, hW, hS⟩ := X
  have hown : s.vm.findClass RX11 = some m.cls := hown
  refine z_ent (by exact Nat.le_of_ble_eq_true rfl) (fun ls hl => ?_)
  have hl : lv_has ls 2 [(0, .ref (G.2.2.2 + o)), (1, .int a1)] := hl
  unfold f_X11_count at h
  refine lv_iload_n hx hb dX11_count_0 rfl (lv_at hl 1 rfl) ?_
  rcases zi_at h with ⟨k1, h⟩ | ⟨k1, h⟩
  · refine lv_tableIn (off := 47) (tgt := 48) hx hb dX11_count_1 (by rw [k1]; decide) (by rw [k1]; decide) (by rw [k1]; rfl) (by decide) ?_
    refine lv_aload_n hx hb dX11_count_48 rfl (lv_at hl 0 rfl) ?_
    obtain ⟨t2, h⟩ := zc_at h
    obtain ⟨b3, hb3, h⟩ := zd_at h
    refine z_gR hx hb hq hown hK hW fs_RX11_12 t2 hb3 dX11_count_49 ?_
    obtain ⟨t4, h⟩ := zc_at h
    obtain ⟨r6, c5, h⟩ := zd_at h
    refine z_cV hx hb hq hml hown hK hW hS 2 [] [] rfl (List.mem_singleton.mp t4) (c_X2_wayCount l G st b3 c5) (zi zm339) (zi zm340) (zi zm341) (zi zm14) (zi zm342) cal_X2_wayCount rfl rfl hl.1 rfl (Nat.le_of_ble_eq_true rfl) (zR_ok (by omega) (by decide)) ⟨(Nat.le_of_ble_eq_true rfl), (Nat.le_of_ble_eq_true rfl)⟩ dX11_count_52 (fun H locs hW hS => ?_)
    refine W.eq (g2 := F0 m 55 ls [.int r6]) rfl ?_
    obtain rfl := Option.some.inj h
    exact z_ri hx hb hr hlk hW hS (Nat.le_of_ble_eq_true rfl) (Nat.le_of_ble_eq_true rfl) dX11_count_55
  · rcases zi_at h with ⟨k7, h⟩ | ⟨k7, h⟩
    · refine lv_tableIn (off := 55) (tgt := 56) hx hb dX11_count_1 (by rw [k7]; decide) (by rw [k7]; decide) (by rw [k7]; rfl) (by decide) ?_
      refine lv_aload_n hx hb dX11_count_56 rfl (lv_at hl 0 rfl) ?_
      obtain ⟨t8, h⟩ := zc_at h
      obtain ⟨b9, hb9, h⟩ := zd_at h
      refine z_gR hx hb hq hown hK hW fs_RX11_12 t8 hb9 dX11_count_57 ?_
      obtain ⟨t10, h⟩ := zc_at h
      refine z_gI hx hb hq hown hK hW fs_RX11_42 t10 dX11_count_60 ?_
      obtain rfl := Option.some.inj h
      exact z_ri hx hb hr hlk hW hS (Nat.le_of_ble_eq_true rfl) (Nat.le_of_ble_eq_true rfl) dX11_count_63
    · rcases zi_at h with ⟨k11, h⟩ | ⟨k11, h⟩
      · refine lv_tableIn (off := 63) (tgt := 64) hx hb dX11_count_1 (by rw [k11]; decide) (by rw [k11]; decide) (by rw [k11]; rfl) (by decide) ?_
        refine lv_aload_n hx hb dX11_count_64 rfl (lv_at hl 0 rfl) ?_
        obtain ⟨t12, h⟩ := zc_at h
        obtain ⟨b13, hb13, h⟩ := zd_at h
        refine z_gR hx hb hq hown hK hW fs_RX11_12 t12 hb13 dX11_count_65 ?_
        obtain ⟨t14, h⟩ := zc_at h
        obtain ⟨b15, hb15, h⟩ := zd_at h
        refine z_gR hx hb hq hown hK hW fs_RX11_155 t14 hb15 dX11_count_68 ?_
        obtain ⟨t16, h⟩ := zc_at h
        obtain ⟨r18, c17, h⟩ := zd_at h
        refine z_cV hx hb hq hml hown hK hW hS 5 [] [] rfl (List.mem_singleton.mp t16) (c_X5_size l G st b15 c17) (zi zm82) (zi zm83) (zi zm84) (zi zm32) (zi zm85) cal_X5_size rfl rfl hl.1 rfl (Nat.le_of_ble_eq_true rfl) (zR_ok (by omega) (by decide)) ⟨(Nat.le_of_ble_eq_true rfl), (Nat.le_of_ble_eq_true rfl)⟩ dX11_count_71 (fun H locs hW hS => ?_)
        refine W.eq (g2 := F0 m 74 ls [.int r18]) rfl ?_
        obtain rfl := Option.some.inj h
        exact z_ri hx hb hr hlk hW hS (Nat.le_of_ble_eq_true rfl) (Nat.le_of_ble_eq_true rfl) dX11_count_74
      · rcases zi_at h with ⟨k19, h⟩ | ⟨k19, h⟩
        · refine lv_tableIn (off := 74) (tgt := 75) hx hb dX11_count_1 (by rw [k19]; decide) (by rw [k19]; decide) (by rw [k19]; rfl) (by decide) ?_
          refine lv_aload_n hx hb dX11_count_75 rfl (lv_at hl 0 rfl) ?_
          obtain ⟨t20, h⟩ := zc_at h
          obtain ⟨b21, hb21, h⟩ := zd_at h
          refine z_gR hx hb hq hown hK hW fs_RX11_12 t20 hb21 dX11_count_76 ?_
          obtain ⟨t22, h⟩ := zc_at h
          obtain ⟨b23, hb23, h⟩ := zd_at h
          refine z_gR hx hb hq hown hK hW fs_RX11_125 t22 hb23 dX11_count_79 ?_
          obtain ⟨t24, h⟩ := zc_at h
          obtain ⟨r26, c25, h⟩ := zd_at h
          refine z_cV hx hb hq hml hown hK hW hS 5 [] [] rfl (List.mem_singleton.mp t24) (c_X5_size l G st b23 c25) (zi zm82) (zi zm83) (zi zm84) (zi zm32) (zi zm85) cal_X5_size rfl rfl hl.1 rfl (Nat.le_of_ble_eq_true rfl) (zR_ok (by omega) (by decide)) ⟨(Nat.le_of_ble_eq_true rfl), (Nat.le_of_ble_eq_true rfl)⟩ dX11_count_82 (fun H locs hW hS => ?_)
          refine W.eq (g2 := F0 m 85 ls [.int r26]) rfl ?_
          obtain rfl := Option.some.inj h
          exact z_ri hx hb hr hlk hW hS (Nat.le_of_ble_eq_true rfl) (Nat.le_of_ble_eq_true rfl) dX11_count_85
        · rcases zi_at h with ⟨k27, h⟩ | ⟨k27, h⟩
          · refine lv_tableIn (off := 85) (tgt := 86) hx hb dX11_count_1 (by rw [k27]; decide) (by rw [k27]; decide) (by rw [k27]; rfl) (by decide) ?_
            refine lv_aload_n hx hb dX11_count_86 rfl (lv_at hl 0 rfl) ?_
            obtain ⟨t28, h⟩ := zc_at h
            obtain ⟨b29, hb29, h⟩ := zd_at h
            refine z_gR hx hb hq hown hK hW fs_RX11_12 t28 hb29 dX11_count_87 ?_
            obtain ⟨t30, h⟩ := zc_at h
            obtain ⟨b31, hb31, h⟩ := zd_at h
            refine z_gR hx hb hq hown hK hW fs_RX11_204 t30 hb31 dX11_count_90 ?_
            obtain ⟨t32, h⟩ := zc_at h
            obtain ⟨r34, c33, h⟩ := zd_at h
            refine z_cV hx hb hq hml hown hK hW hS 5 [] [] rfl (List.mem_singleton.mp t32) (c_X5_size l G st b31 c33) (zi zm82) (zi zm83) (zi zm84) (zi zm32) (zi zm85) cal_X5_size rfl rfl hl.1 rfl (Nat.le_of_ble_eq_true rfl) (zR_ok (by omega) (by decide)) ⟨(Nat.le_of_ble_eq_true rfl), (Nat.le_of_ble_eq_true rfl)⟩ dX11_count_93 (fun H locs hW hS => ?_)
            refine W.eq (g2 := F0 m 96 ls [.int r34]) rfl ?_
            obtain rfl := Option.some.inj h
            exact z_ri hx hb hr hlk hW hS (Nat.le_of_ble_eq_true rfl) (Nat.le_of_ble_eq_true rfl) dX11_count_96
          · rcases zi_at h with ⟨k35, h⟩ | ⟨k35, h⟩
            · refine lv_tableIn (off := 96) (tgt := 97) hx hb dX11_count_1 (by rw [k35]; decide) (by rw [k35]; decide) (by rw [k35]; rfl) (by decide) ?_
              refine lv_aload_n hx hb dX11_count_97 rfl (lv_at hl 0 rfl) ?_
              obtain ⟨t36, h⟩ := zc_at h
              obtain ⟨b37, hb37, h⟩ := zd_at h
              refine z_gR hx hb hq hown hK hW fs_RX11_12 t36 hb37 dX11_count_98 ?_
              obtain ⟨t38, h⟩ := zc_at h
              obtain ⟨b39, hb39, h⟩ := zd_at h
              refine z_gR hx hb hq hown hK hW fs_RX11_222 t38 hb39 dX11_count_101 ?_
              obtain ⟨t40, h⟩ := zc_at h
              obtain ⟨r42, c41, h⟩ := zd_at h
              refine z_cV hx hb hq hml hown hK hW hS 5 [] [] rfl (List.mem_singleton.mp t40) (c_X5_size l G st b39 c41) (zi zm82) (zi zm83) (zi zm84) (zi zm32) (zi zm85) cal_X5_size rfl rfl hl.1 rfl (Nat.le_of_ble_eq_true rfl) (zR_ok (by omega) (by decide)) ⟨(Nat.le_of_ble_eq_true rfl), (Nat.le_of_ble_eq_true rfl)⟩ dX11_count_104 (fun H locs hW hS => ?_)
              refine W.eq (g2 := F0 m 107 ls [.int r42]) rfl ?_
              obtain rfl := Option.some.inj h
              exact z_ri hx hb hr hlk hW hS (Nat.le_of_ble_eq_true rfl) (Nat.le_of_ble_eq_true rfl) dX11_count_107
            · rcases zi_at h with ⟨k43, h⟩ | ⟨k43, h⟩
              · refine lv_tableIn (off := 107) (tgt := 108) hx hb dX11_count_1 (by rw [k43]; decide) (by rw [k43]; decide) (by rw [k43]; rfl) (by decide) ?_
                refine lv_aload_n hx hb dX11_count_108 rfl (lv_at hl 0 rfl) ?_
                obtain ⟨t44, h⟩ := zc_at h
                obtain ⟨b45, hb45, h⟩ := zd_at h
                refine z_gR hx hb hq hown hK hW fs_RX11_12 t44 hb45 dX11_count_109 ?_
                obtain ⟨t46, h⟩ := zc_at h
                obtain ⟨b47, hb47, h⟩ := zd_at h
                refine z_gR hx hb hq hown hK hW fs_RX11_28 t46 hb47 dX11_count_112 ?_
                obtain ⟨t48, h⟩ := zc_at h
                obtain ⟨r50, c49, h⟩ := zd_at h
                refine z_cV hx hb hq hml hown hK hW hS 5 [] [] rfl (List.mem_singleton.mp t48) (c_X5_size l G st b47 c49) (zi zm82) (zi zm83) (zi zm84) (zi zm32) (zi zm85) cal_X5_size rfl rfl hl.1 rfl (Nat.le_of_ble_eq_true rfl) (zR_ok (by omega) (by decide)) ⟨(Nat.le_of_ble_eq_true rfl), (Nat.le_of_ble_eq_true rfl)⟩ dX11_count_115 (fun H locs hW hS => ?_)
                refine W.eq (g2 := F0 m 118 ls [.int r50]) rfl ?_
                obtain rfl := Option.some.inj h
                exact z_ri hx hb hr hlk hW hS (Nat.le_of_ble_eq_true rfl) (Nat.le_of_ble_eq_true rfl) dX11_count_118
              · rcases zi_at h with ⟨k51, h⟩ | ⟨k51, h⟩
                · refine lv_tableIn (off := 118) (tgt := 119) hx hb dX11_count_1 (by rw [k51]; decide) (by rw [k51]; decide) (by rw [k51]; rfl) (by decide) ?_
                  refine lv_aload_n hx hb dX11_count_119 rfl (lv_at hl 0 rfl) ?_
                  obtain ⟨t52, h⟩ := zc_at h
                  obtain ⟨b53, hb53, h⟩ := zd_at h
                  refine z_gR hx hb hq hown hK hW fs_RX11_24 t52 hb53 dX11_count_120 ?_
                  obtain ⟨t54, h⟩ := zc_at h
                  refine z_gI hx hb hq hown hK hW fs_RX11_254 t54 dX11_count_123 ?_
                  obtain rfl := Option.some.inj h
                  exact z_ri hx hb hr hlk hW hS (Nat.le_of_ble_eq_true rfl) (Nat.le_of_ble_eq_true rfl) dX11_count_126
                · refine lv_tableOut (tgt := 127) hx hb dX11_count_1 (by have q0 := lv_neT (a := 0) k1 (by decide); have q1 := lv_neT (a := 1) k7 (by decide); have q2 := lv_neT (a := 2) k11 (by decide); have q3 := lv_neT (a := 3) k19 (by decide); have q4 := lv_neT (a := 4) k27 (by decide); have q5 := lv_neT (a := 5) k35 (by decide); have q6 := lv_neT (a := 6) k43 (by decide); have q7 := lv_neT (a := 7) k51 (by decide); omega) (by decide) ?_
                  refine lv_iconst (v := (-1)) hx hb dX11_count_127 (by decide) ?_
                  obtain rfl := Option.some.inj h
                  exact z_ri hx hb hr hlk hW hS (Nat.le_of_ble_eq_true rfl) (Nat.le_of_ble_eq_true rfl) dX11_count_128
