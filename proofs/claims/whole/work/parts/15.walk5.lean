def f_X12_longest_109 (N : Nat) (st : zS) (o : Nat) (a1 : Int32) (k22 : Int32 → Int32 → Int32 → Int32 → Option Int32) (x2 : Int32) (x3 : Int32) (x4 : Int32) (x5 : Int32) : Option Int32 := (k22 x2 x3 x4 (x5 + (nI 1)))
def f_X12_longest_71 (N : Nat) (st : zS) (o : Nat) (a1 : Int32) (k22 : Int32 → Int32 → Int32 → Int32 → Option Int32) (x2 : Int32) (x3 : Int32) (x5 : Int32) (y0 : Int32) : Option Int32 := (if zTg st o ∈ [22] then (Option.bind (zR st o 1) (fun b8 => (if zTg st b8 ∈ [1] then (if zin ((nI 53) + x5) (zLn st b8) then (if (zM st b8 (((nI 53) + x5)).toNatClampNeg) = (-1 : Int32) then (f_X12_longest_109 N st o a1 k22 x2 x3 y0 x5) else (if ((x5 - y0) + (nI 1)) ≤ x2 then (f_X12_longest_109 N st o a1 k22 x2 x3 y0 x5) else (zl ((x5 - y0) + (nI 1)) (fun v11 => (f_X12_longest_109 N st o a1 k22 v11 y0 y0 x5))))) else none) else none))) else none)
def f_X12_longest_69 (N : Nat) (st : zS) (o : Nat) (a1 : Int32) (k22 : Int32 → Int32 → Int32 → Int32 → Option Int32) (x2 : Int32) (x3 : Int32) (x5 : Int32) : Option Int32 := (f_X12_longest_71 N st o a1 k22 x2 x3 x5 x5)
def f_X12_longest_22 (N : Nat) (st : zS) (o : Nat) (a1 : Int32)  : Nat → Int32 → Int32 → Int32 → Int32 → Option Int32
  | 0, _, _, _, _ => none
  | n22 + 1, x2, x3, x4, x5 => (if zTg st o ∈ [22] then (Option.bind (zR st o 1) (fun b4 => (if zTg st b4 ∈ [1] then (if zin (nI 8) (zLn st b4) then (if (zM st b4 ((nI 8)).toNatClampNeg) ≤ x5 then (if a1 = (nI 1) then (some x3) else (if x2 = 0 then (some x3) else (some x2))) else (if x5 ≤ 0 then (f_X12_longest_69 N st o a1 (f_X12_longest_22 N st o a1 n22) x2 x3 x5) else (if zin ((nI 53) + x5) (zLn st b4) then (if zin (((nI 53) + x5) - (nI 1)) (zLn st b4) then (if (zM st b4 (((nI 53) + x5)).toNatClampNeg) = (zM st b4 ((((nI 53) + x5) - (nI 1))).toNatClampNeg) then (f_X12_longest_71 N st o a1 (f_X12_longest_22 N st o a1 n22) x2 x3 x5 x4) else (f_X12_longest_69 N st o a1 (f_X12_longest_22 N st o a1 n22) x2 x3 x5)) else none) else none))) else none) else none))) else none)
def f_X12_longest (N : Nat) (st : zS) (o : Nat) (a1 : Int32) : Option Int32 := (Option.bind (f_X12_in a1 (nI 0) (nI 1)) (fun r2 => (if r2 = 0 then (some (-1 : Int32)) else (f_X12_longest_22 N st o a1 N (nI 0) (-5 : Int32) (nI 0) (nI 0)))))
set_option maxHeartbeats 1000000 in
set_option maxRecDepth 100000 in
theorem c_X12_longest (l : Launch) (G : zG) (N : Nat) (st : zS) (o : Nat) (a1 : Int32) {r : Int32} (h : f_X12_longest N st o a1 = some r) : zMet l G yX12_longest cX12_longest 6 (some .int) 1 0 0 [.ref (G.2.2.2 + o), .int a1] st (some (.int r)) st := by
  refine zMet_of (by decide +kernel) ?_
  intro p e s m args below meth c X
  obtain ⟨hx, hb, hr, hml, hown, hq, hlk, hK, -, hin, hW, hS⟩ := X
  have hown : s.vm.findClass RX12 = some m.cls := hown
  refine z_ent (by exact Nat.le_of_ble_eq_true rfl) (fun ls hl => ?_)
  have hl : lv_has ls 6 [(0, .ref (G.2.2.2 + o)), (1, .int a1)] := hl
  unfold f_X12_longest at h
  have B22 : ∀ (n22 : Nat) (x2 : Int32) (x3 : Int32) (x4 : Int32) (x5 : Int32) (H : Heap) (locs : List Loc) (ls : Array Slot), f_X12_longest_22 N st o a1 n22 x2 x3 x4 x5 = some r → zWd G st H → va_S (zA G) s.heap H locs → lv_has ls 6 [(0, .ref (G.2.2.2 + o)), (1, .int a1), (2, .int x2), (3, .int x3), (4, .int x4), (5, .int x5)] → W p l e (zRm 1 0 0) s m args below meth c H locs 0 0 (MQ below (zQ G (some (.int r)) st) args s 0 0 (zA G)) (F0 m 22 ls []) := by
    intro n22
    induction n22 with
    | zero =>
      intro x2 x3 x4 x5 H locs ls h
      unfold f_X12_longest_22 at h
      cases h
    | succ n22 ih22 =>
      have B109 : ∀ (x2 : Int32) (x3 : Int32) (x4 : Int32) (x5 : Int32) (H : Heap) (locs : List Loc) (ls : Array Slot), f_X12_longest_109 N st o a1 (f_X12_longest_22 N st o a1 n22) x2 x3 x4 x5 = some r → zWd G st H → va_S (zA G) s.heap H locs → lv_has ls 6 [(0, .ref (G.2.2.2 + o)), (1, .int a1), (2, .int x2), (3, .int x3), (4, .int x4), (5, .int x5)] → W p l e (zRm 1 0 0) s m args below meth c H locs 0 0 (MQ below (zQ G (some (.int r)) st) args s 0 0 (zA G)) (F0 m 109 ls []) := by
        intro x2 x3 x4 x5 H locs ls h hW hS hl
        unfold f_X12_longest_109 at h
        refine lv_iinc (v := (x5 + (nI 1))) (lv' := [(5, .int ((x5 + (nI 1)))), (0, .ref (G.2.2.2 + o)), (1, .int a1), (2, .int x2), (3, .int x3), (4, .int x4)]) hx hb dX12_longest_109 hl (k := 5) rfl rfl (by decide) rfl (fun ls hl => ?_)
        refine lv_goto (tgt := 22) hx hb dX12_longest_112 (by decide) ?_
        exact ih22 x2 x3 x4 (x5 + (nI 1)) _ _ _ h hW hS (lv_sub hl [1, 2, 3, 4, 5, 0] rfl)
      have B71 : ∀ (x2 : Int32) (x3 : Int32) (x5 : Int32) (y0 : Int32) (H : Heap) (locs : List Loc) (ls : Array Slot), f_X12_longest_71 N st o a1 (f_X12_longest_22 N st o a1 n22) x2 x3 x5 y0 = some r → zWd G st H → va_S (zA G) s.heap H locs → lv_has ls 6 [(0, .ref (G.2.2.2 + o)), (1, .int a1), (2, .int x2), (3, .int x3), (5, .int x5)] → W p l e (zRm 1 0 0) s m args below meth c H locs 0 0 (MQ below (zQ G (some (.int r)) st) args s 0 0 (zA G)) (F0 m 71 ls [.int y0]) := by
        intro x2 x3 x5 y0 H locs ls h hW hS hl
        unfold f_X12_longest_71 at h
        refine lv_istore (lv' := [(4, .int y0), (0, .ref (G.2.2.2 + o)), (1, .int a1), (2, .int x2), (3, .int x3), (5, .int x5)]) hx hb dX12_longest_71 hl (by decide) rfl (fun ls hl => ?_)
        refine lv_aload_n hx hb dX12_longest_73 rfl (lv_at hl 1 rfl) ?_
        obtain ⟨t7, h⟩ := zc_at h
        obtain ⟨b8, hb8, h⟩ := zd_at h
        refine z_gR hx hb hq hown hK hW fs_RX12_9 t7 hb8 dX12_longest_74 ?_
        refine lv_bipush (v := (nI 53)) hx hb dX12_longest_77 (by decide) ?_
        refine lv_iload hx hb dX12_longest_79 (lv_at hl 5 rfl) ?_
        refine lv_iadd hx hb dX12_longest_81 ?_
        obtain ⟨t9, h⟩ := zc_at h
        obtain ⟨t10, h⟩ := zc_at h
        refine z_alI hx hb hK hW (List.mem_singleton.mp t9) t10 dX12_longest_82 ?_
        refine lv_iconst (v := (-1)) hx hb dX12_longest_83 (by decide) ?_
        refine z_br (lv_icmp_eq (tgt := 109) hx hb dX12_longest_84 (by decide)) h (fun h => ?_) (fun h => ?_)
        · exact B109 x2 x3 y0 x5 _ _ _ h hW hS (lv_sub hl [1, 2, 3, 4, 0, 5] rfl)
        · refine lv_iload hx hb dX12_longest_87 (lv_at hl 5 rfl) ?_
          refine lv_iload hx hb dX12_longest_89 (lv_at hl 0 rfl) ?_
          refine lv_isub hx hb dX12_longest_91 ?_
          refine lv_iconst (v := (nI 1)) hx hb dX12_longest_92 (by decide) ?_
          refine lv_iadd hx hb dX12_longest_93 ?_
          refine lv_iload_n hx hb dX12_longest_94 rfl (lv_at hl 3 rfl) ?_
          refine z_br (lv_icmp_le (tgt := 109) hx hb dX12_longest_95 (by decide)) h (fun h => ?_) (fun h => ?_)
          · exact B109 x2 x3 y0 x5 _ _ _ h hW hS (lv_sub hl [1, 2, 3, 4, 0, 5] rfl)
          · refine lv_iload hx hb dX12_longest_98 (lv_at hl 5 rfl) ?_
            refine lv_iload hx hb dX12_longest_100 (lv_at hl 0 rfl) ?_
            refine lv_isub hx hb dX12_longest_102 ?_
            refine lv_iconst (v := (nI 1)) hx hb dX12_longest_103 (by decide) ?_
            refine lv_iadd hx hb dX12_longest_104 ?_
            refine lv_topi (fun v11 ev11 => ?_)
            have h := zl_at ev11 h
            refine lv_istore_n (lv' := [(2, .int v11), (4, .int y0), (0, .ref (G.2.2.2 + o)), (1, .int a1), (3, .int x3), (5, .int x5)]) hx hb dX12_longest_105 rfl hl (by decide) rfl (fun ls hl => ?_)
            refine lv_iload hx hb dX12_longest_106 (lv_at hl 1 rfl) ?_
            refine lv_istore_n (lv' := [(3, .int y0), (2, .int v11), (4, .int y0), (0, .ref (G.2.2.2 + o)), (1, .int a1), (5, .int x5)]) hx hb dX12_longest_108 rfl hl (by decide) rfl (fun ls hl => ?_)
            exact B109 v11 y0 y0 x5 _ _ _ h hW hS (lv_sub hl [3, 4, 1, 0, 2, 5] rfl)
      have B69 : ∀ (x2 : Int32) (x3 : Int32) (x5 : Int32) (H : Heap) (locs : List Loc) (ls : Array Slot), f_X12_longest_69 N st o a1 (f_X12_longest_22 N st o a1 n22) x2 x3 x5 = some r → zWd G st H → va_S (zA G) s.heap H locs → lv_has ls 6 [(0, .ref (G.2.2.2 + o)), (1, .int a1), (2, .int x2), (3, .int x3), (5, .int x5)] → W p l e (zRm 1 0 0) s m args below meth c H locs 0 0 (MQ below (zQ G (some (.int r)) st) args s 0 0 (zA G)) (F0 m 69 ls []) := by
        intro x2 x3 x5 H locs ls h hW hS hl
        unfold f_X12_longest_69 at h
        refine lv_iload hx hb dX12_longest_69 (lv_at hl 4 rfl) ?_
        exact B71 x2 x3 x5 x5 _ _ _ h hW hS (lv_sub hl [0, 1, 2, 3, 4] rfl)
      intro x2 x3 x4 x5 H locs ls h hW hS hl
      unfold f_X12_longest_22 at h
      refine lv_iload hx hb dX12_longest_22 (lv_at hl 5 rfl) ?_
      refine lv_aload_n hx hb dX12_longest_24 rfl (lv_at hl 0 rfl) ?_
      obtain ⟨t3, h⟩ := zc_at h
      obtain ⟨b4, hb4, h⟩ := zd_at h
      refine z_gR hx hb hq hown hK hW fs_RX12_9 t3 hb4 dX12_longest_25 ?_
      refine lv_bipush (v := (nI 8)) hx hb dX12_longest_28 (by decide) ?_
      obtain ⟨t5, h⟩ := zc_at h
      obtain ⟨t6, h⟩ := zc_at h
      refine z_alI hx hb hK hW (List.mem_singleton.mp t5) t6 dX12_longest_30 ?_
      refine z_br (lv_icmp_ge (tgt := 115) hx hb dX12_longest_31 (by decide)) h (fun h => ?_) (fun h => ?_)
      · refine lv_iload_n hx hb dX12_longest_115 rfl (lv_at hl 1 rfl) ?_
        refine lv_iconst (v := (nI 1)) hx hb dX12_longest_116 (by decide) ?_
        refine z_br (lv_icmp_eq (tgt := 124) hx hb dX12_longest_117 (by decide)) h (fun h => ?_) (fun h => ?_)
        · refine lv_iload_n hx hb dX12_longest_124 rfl (lv_at hl 3 rfl) ?_
          refine lv_goto (tgt := 129) hx hb dX12_longest_125 (by decide) ?_
          obtain rfl := Option.some.inj h
          exact z_ri hx hb hr hlk hW hS (Nat.le_of_ble_eq_true rfl) (Nat.le_of_ble_eq_true rfl) dX12_longest_129
        · refine lv_iload_n hx hb dX12_longest_120 rfl (lv_at hl 2 rfl) ?_
          refine z_brn (lv_if_ne (tgt := 128) hx hb dX12_longest_121 (by decide)) h (fun h => ?_) (fun h => ?_)
          · refine lv_iload_n hx hb dX12_longest_128 rfl (lv_at hl 2 rfl) ?_
            obtain rfl := Option.some.inj h
            exact z_ri hx hb hr hlk hW hS (Nat.le_of_ble_eq_true rfl) (Nat.le_of_ble_eq_true rfl) dX12_longest_129
          · refine lv_iload_n hx hb dX12_longest_124 rfl (lv_at hl 3 rfl) ?_
            refine lv_goto (tgt := 129) hx hb dX12_longest_125 (by decide) ?_
            obtain rfl := Option.some.inj h
            exact z_ri hx hb hr hlk hW hS (Nat.le_of_ble_eq_true rfl) (Nat.le_of_ble_eq_true rfl) dX12_longest_129
      · refine lv_iload hx hb dX12_longest_34 (lv_at hl 5 rfl) ?_
        refine z_br (lv_if_le (tgt := 69) hx hb dX12_longest_36 (by decide)) h (fun h => ?_) (fun h => ?_)
        · exact B69 x2 x3 x5 _ _ _ h hW hS (lv_sub hl [0, 1, 2, 3, 5] rfl)
        · refine lv_aload_n hx hb dX12_longest_39 rfl (lv_at hl 0 rfl) ?_
          refine z_gR hx hb hq hown hK hW fs_RX12_9 t3 hb4 dX12_longest_40 ?_
          refine lv_bipush (v := (nI 53)) hx hb dX12_longest_43 (by decide) ?_
          refine lv_iload hx hb dX12_longest_45 (lv_at hl 5 rfl) ?_
          refine lv_iadd hx hb dX12_longest_47 ?_
          obtain ⟨t12, h⟩ := zc_at h
          refine z_alI hx hb hK hW (List.mem_singleton.mp t5) t12 dX12_longest_48 ?_
          refine lv_aload_n hx hb dX12_longest_49 rfl (lv_at hl 0 rfl) ?_
          refine z_gR hx hb hq hown hK hW fs_RX12_9 t3 hb4 dX12_longest_50 ?_
          refine lv_bipush (v := (nI 53)) hx hb dX12_longest_53 (by decide) ?_
          refine lv_iload hx hb dX12_longest_55 (lv_at hl 5 rfl) ?_
          refine lv_iadd hx hb dX12_longest_57 ?_
          refine lv_iconst (v := (nI 1)) hx hb dX12_longest_58 (by decide) ?_
          refine lv_isub hx hb dX12_longest_59 ?_
          obtain ⟨t13, h⟩ := zc_at h
          refine z_alI hx hb hK hW (List.mem_singleton.mp t5) t13 dX12_longest_60 ?_
          refine z_brn (lv_icmp_ne (tgt := 69) hx hb dX12_longest_61 (by decide)) h (fun h => ?_) (fun h => ?_)
          · exact B69 x2 x3 x5 _ _ _ h hW hS (lv_sub hl [0, 1, 2, 3, 5] rfl)
          · refine lv_iload hx hb dX12_longest_64 (lv_at hl 4 rfl) ?_
            refine lv_goto (tgt := 71) hx hb dX12_longest_66 (by decide) ?_
            exact B71 x2 x3 x5 x4 _ _ _ h hW hS (lv_sub hl [0, 1, 2, 3, 5] rfl)
  refine lv_iload_n hx hb dX12_longest_0 rfl (lv_at hl 1 rfl) ?_
  refine lv_iconst (v := (nI 0)) hx hb dX12_longest_1 (by decide) ?_
  refine lv_iconst (v := (nI 1)) hx hb dX12_longest_2 (by decide) ?_
  obtain ⟨r2, c1, h⟩ := zd_at h
  refine z_cS hx hb hq hml hown hK hW hS [.int a1, .int ((nI 0)), .int ((nI 1))] [] (c_X12_in l G st a1 (nI 0) (nI 1) c1) (zi zm90) (zi zm91) (zi zm5) (zi zm92) cal_X12_in rfl hl.1 rfl (Nat.le_of_ble_eq_true rfl) (zR_ok (by omega) (by decide)) ⟨(Nat.le_of_ble_eq_true rfl), (Nat.le_of_ble_eq_true rfl)⟩ dX12_longest_3 (fun H locs hW hS => ?_)
  refine W.eq (g2 := F0 m 6 ls [.int r2]) rfl ?_
  refine z_brn (lv_if_ne (tgt := 11) hx hb dX12_longest_6 (by decide)) h (fun h => ?_) (fun h => ?_)
  · refine lv_iconst (v := (nI 0)) hx hb dX12_longest_11 (by decide) ?_
    refine lv_istore_n (lv' := [(2, .int ((nI 0))), (0, .ref (G.2.2.2 + o)), (1, .int a1)]) hx hb dX12_longest_12 rfl hl (by decide) rfl (fun ls hl => ?_)
    refine lv_bipush (v := (-5)) hx hb dX12_longest_13 (by decide) ?_
    refine lv_istore_n (lv' := [(3, .int ((-5))), (2, .int ((nI 0))), (0, .ref (G.2.2.2 + o)), (1, .int a1)]) hx hb dX12_longest_15 rfl hl (by decide) rfl (fun ls hl => ?_)
    refine lv_iconst (v := (nI 0)) hx hb dX12_longest_16 (by decide) ?_
    refine lv_istore (lv' := [(4, .int ((nI 0))), (3, .int ((-5))), (2, .int ((nI 0))), (0, .ref (G.2.2.2 + o)), (1, .int a1)]) hx hb dX12_longest_17 hl (by decide) rfl (fun ls hl => ?_)
    refine lv_iconst (v := (nI 0)) hx hb dX12_longest_19 (by decide) ?_
    refine lv_istore (lv' := [(5, .int ((nI 0))), (4, .int ((nI 0))), (3, .int ((-5))), (2, .int ((nI 0))), (0, .ref (G.2.2.2 + o)), (1, .int a1)]) hx hb dX12_longest_20 hl (by decide) rfl (fun ls hl => ?_)
    exact B22 N (nI 0) (-5 : Int32) (nI 0) (nI 0) _ _ _ h hW hS (lv_sub hl [4, 5, 3, 2, 1, 0] rfl)
  · refine lv_iconst (v := (-1)) hx hb dX12_longest_9 (by decide) ?_
    obtain rfl := Option.some.inj h
    exact z_ri hx hb hr hlk hW hS (Nat.le_of_ble_eq_true rfl) (Nat.le_of_ble_eq_true rfl) dX12_longest_10
def f_X12_show (st : zS) (o : Nat) (a1 : Int32) : Option (zS × Int32) := (if a1 = (-1 : Int32) then (if zTg st o ∈ [22] then (Option.bind (zR st o 1) (fun b14 => (if zTg st b14 ∈ [1] then (if zin (nI 3) (zLn st b14) then (some ((zPM st b14 ((nI 3)).toNatClampNeg (nI 0)), (nI 0))) else none) else none))) else none) else (if zTg st o ∈ [22] then (Option.bind (zR st o 1) (fun b2 => (if zTg st b2 ∈ [1] then (if zin (nI 8) (zLn st b2) then (Option.bind (f_X12_in a1 (nI 0) ((zM st b2 ((nI 8)).toNatClampNeg) - (nI 1))) (fun r6 => (if r6 = 0 then (some (st, (-1 : Int32))) else (if zin (nI 3) (zLn st b2) then (if (zM st b2 ((nI 3)).toNatClampNeg) = (nI 6) then (some (st, (-4 : Int32))) else (if zin (nI 3) (zLn st b2) then (if zin ((nI 98) + (zM st b2 ((nI 3)).toNatClampNeg)) (zLn st b2) then (if zin (nI 3) (zLn (zPM st b2 (((nI 98) + (zM st b2 ((nI 3)).toNatClampNeg))).toNatClampNeg a1) b2) then (if zin (nI 3) (zLn (zPM st b2 (((nI 98) + (zM st b2 ((nI 3)).toNatClampNeg))).toNatClampNeg a1) b2) then (if zin (nI 3) (zLn (zPM (zPM st b2 (((nI 98) + (zM st b2 ((nI 3)).toNatClampNeg))).toNatClampNeg a1) b2 ((nI 3)).toNatClampNeg ((zM (zPM st b2 (((nI 98) + (zM st b2 ((nI 3)).toNatClampNeg))).toNatClampNeg a1) b2 ((nI 3)).toNatClampNeg) + (nI 1))) b2) then (some ((zPM (zPM st b2 (((nI 98) + (zM st b2 ((nI 3)).toNatClampNeg))).toNatClampNeg a1) b2 ((nI 3)).toNatClampNeg ((zM (zPM st b2 (((nI 98) + (zM st b2 ((nI 3)).toNatClampNeg))).toNatClampNeg a1) b2 ((nI 3)).toNatClampNeg) + (nI 1))), (zM (zPM (zPM st b2 (((nI 98) + (zM st b2 ((nI 3)).toNatClampNeg))).toNatClampNeg a1) b2 ((nI 3)).toNatClampNeg ((zM (zPM st b2 (((nI 98) + (zM st b2 ((nI 3)).toNatClampNeg))).toNatClampNeg a1) b2 ((nI 3)).toNatClampNeg) + (nI 1))) b2 ((nI 3)).toNatClampNeg))) else none) else none) else none) else none) else none)) else none)))) else none) else none))) else none))
set_option maxHeartbeats 1000000 in
set_option maxRecDepth 100000 in
theorem c_X12_show (l : Launch) (G : zG) (st : zS) (o : Nat) (a1 : Int32) {st' : zS} {r : Int32} (h : f_X12_show st o a1 = some (st', r)) : zMet l G yX12_show cX12_show 2 (some .int) 1 0 0 [.ref (G.2.2.2 + o), .int a1] st (some (.int r)) st' := by
  refine zMet_of (by decide +kernel) ?_
  intro p e s m args below meth c X
  obtain ⟨hx, hb, hr, hml, hown, hq, hlk, hK, -, hin, hW, hS⟩ := X
  have hown : s.vm.findClass RX12 = some m.cls := hown
  refine z_ent (by exact Nat.le_of_ble_eq_true rfl) (fun ls hl => ?_)
  have hl : lv_has ls 2 [(0, .ref (G.2.2.2 + o)), (1, .int a1)] := hl
  unfold f_X12_show at h
  refine lv_iload_n hx hb dX12_show_0 rfl (lv_at hl 1 rfl) ?_
  refine lv_iconst (v := (-1)) hx hb dX12_show_1 (by decide) ?_
  refine z_brn (lv_icmp_ne (tgt := 14) hx hb dX12_show_2 (by decide)) h (fun h => ?_) (fun h => ?_)
  · refine lv_iload_n hx hb dX12_show_14 rfl (lv_at hl 1 rfl) ?_
    refine lv_iconst (v := (nI 0)) hx hb dX12_show_15 (by decide) ?_
    refine lv_aload_n hx hb dX12_show_16 rfl (lv_at hl 0 rfl) ?_
    obtain ⟨t1, h⟩ := zc_at h
    obtain ⟨b2, hb2, h⟩ := zd_at h
    refine z_gR hx hb hq hown hK hW fs_RX12_9 t1 hb2 dX12_show_17 ?_
    refine lv_bipush (v := (nI 8)) hx hb dX12_show_20 (by decide) ?_
    obtain ⟨t3, h⟩ := zc_at h
    obtain ⟨t4, h⟩ := zc_at h
    refine z_alI hx hb hK hW (List.mem_singleton.mp t3) t4 dX12_show_22 ?_
    refine lv_iconst (v := (nI 1)) hx hb dX12_show_23 (by decide) ?_
    refine lv_isub hx hb dX12_show_24 ?_
    obtain ⟨r6, c5, h⟩ := zd_at h
    refine z_cS hx hb hq hml hown hK hW hS [.int a1, .int ((nI 0)), .int (((zM st b2 ((nI 8)).toNatClampNeg) - (nI 1)))] [] (c_X12_in l G st a1 (nI 0) ((zM st b2 ((nI 8)).toNatClampNeg) - (nI 1)) c5) (zi zm90) (zi zm91) (zi zm5) (zi zm92) cal_X12_in rfl hl.1 rfl (Nat.le_of_ble_eq_true rfl) (zR_ok (by omega) (by decide)) ⟨(Nat.le_of_ble_eq_true rfl), (Nat.le_of_ble_eq_true rfl)⟩ dX12_show_25 (fun H locs hW hS => ?_)
    refine W.eq (g2 := F0 m 28 ls [.int r6]) rfl ?_
    refine z_brn (lv_if_ne (tgt := 33) hx hb dX12_show_28 (by decide)) h (fun h => ?_) (fun h => ?_)
    · refine lv_aload_n hx hb dX12_show_33 rfl (lv_at hl 0 rfl) ?_
      refine z_gR hx hb hq hown hK hW fs_RX12_9 t1 hb2 dX12_show_34 ?_
      refine lv_iconst (v := (nI 3)) hx hb dX12_show_37 (by decide) ?_
      obtain ⟨t7, h⟩ := zc_at h
      refine z_alI hx hb hK hW (List.mem_singleton.mp t3) t7 dX12_show_38 ?_
      refine lv_bipush (v := (nI 6)) hx hb dX12_show_39 (by decide) ?_
      refine z_brn (lv_icmp_ne (tgt := 47) hx hb dX12_show_41 (by decide)) h (fun h => ?_) (fun h => ?_)
      · refine lv_aload_n hx hb dX12_show_47 rfl (lv_at hl 0 rfl) ?_
        refine z_gR hx hb hq hown hK hW fs_RX12_9 t1 hb2 dX12_show_48 ?_
        refine lv_bipush (v := (nI 98)) hx hb dX12_show_51 (by decide) ?_
        refine lv_aload_n hx hb dX12_show_53 rfl (lv_at hl 0 rfl) ?_
        refine z_gR hx hb hq hown hK hW fs_RX12_9 t1 hb2 dX12_show_54 ?_
        refine lv_iconst (v := (nI 3)) hx hb dX12_show_57 (by decide) ?_
        obtain ⟨t8, h⟩ := zc_at h
        refine z_alI hx hb hK hW (List.mem_singleton.mp t3) t8 dX12_show_58 ?_
        refine lv_iadd hx hb dX12_show_59 ?_
        refine lv_iload_n hx hb dX12_show_60 rfl (lv_at hl 1 rfl) ?_
        obtain ⟨t9, h⟩ := zc_at h
        refine z_asI hx hb hK hW hS (List.mem_singleton.mp t3) t9 dX12_show_61 (fun H locs hW hS => ?_)
        refine lv_aload_n hx hb dX12_show_62 rfl (lv_at hl 0 rfl) ?_
        refine z_gR hx hb hq hown hK hW fs_RX12_9 t1 hb2 dX12_show_63 ?_
        refine lv_iconst (v := (nI 3)) hx hb dX12_show_66 (by decide) ?_
        refine lv_dup2_11 hx hb dX12_show_67 rfl rfl ?_
        obtain ⟨t10, h⟩ := zc_at h
        refine z_alI hx hb hK hW (List.mem_singleton.mp t3) t10 dX12_show_68 ?_
        refine lv_iconst (v := (nI 1)) hx hb dX12_show_69 (by decide) ?_
        refine lv_iadd hx hb dX12_show_70 ?_
        obtain ⟨t11, h⟩ := zc_at h
        refine z_asI hx hb hK hW hS (List.mem_singleton.mp t3) t11 dX12_show_71 (fun H locs hW hS => ?_)
        refine lv_aload_n hx hb dX12_show_72 rfl (lv_at hl 0 rfl) ?_
        refine z_gR hx hb hq hown hK hW fs_RX12_9 t1 hb2 dX12_show_73 ?_
        refine lv_iconst (v := (nI 3)) hx hb dX12_show_76 (by decide) ?_
        obtain ⟨t12, h⟩ := zc_at h
        refine z_alI hx hb hK hW (List.mem_singleton.mp t3) t12 dX12_show_77 ?_
        obtain ⟨rfl, rfl⟩ := Prod.mk.inj (Option.some.inj h)
        exact z_ri hx hb hr hlk hW hS (Nat.le_of_ble_eq_true rfl) (Nat.le_of_ble_eq_true rfl) dX12_show_78
      · refine lv_bipush (v := (-4)) hx hb dX12_show_44 (by decide) ?_
        obtain ⟨rfl, rfl⟩ := Prod.mk.inj (Option.some.inj h)
        exact z_ri hx hb hr hlk hW hS (Nat.le_of_ble_eq_true rfl) (Nat.le_of_ble_eq_true rfl) dX12_show_46
    · refine lv_iconst (v := (-1)) hx hb dX12_show_31 (by decide) ?_
      obtain ⟨rfl, rfl⟩ := Prod.mk.inj (Option.some.inj h)
      exact z_ri hx hb hr hlk hW hS (Nat.le_of_ble_eq_true rfl) (Nat.le_of_ble_eq_true rfl) dX12_show_32
  · refine lv_aload_n hx hb dX12_show_5 rfl (lv_at hl 0 rfl) ?_
    obtain ⟨t13, h⟩ := zc_at h
    obtain ⟨b14, hb14, h⟩ := zd_at h
    refine z_gR hx hb hq hown hK hW fs_RX12_9 t13 hb14 dX12_show_6 ?_
    refine lv_iconst (v := (nI 3)) hx hb dX12_show_9 (by decide) ?_
    refine lv_iconst (v := (nI 0)) hx hb dX12_show_10 (by decide) ?_
    obtain ⟨t15, h⟩ := zc_at h
    obtain ⟨t16, h⟩ := zc_at h
    refine z_asI hx hb hK hW hS (List.mem_singleton.mp t15) t16 dX12_show_11 (fun H locs hW hS => ?_)
    refine lv_iconst (v := (nI 0)) hx hb dX12_show_12 (by decide) ?_
    obtain ⟨rfl, rfl⟩ := Prod.mk.inj (Option.some.inj h)
    exact z_ri hx hb hr hlk hW hS (Nat.le_of_ble_eq_true rfl) (Nat.le_of_ble_eq_true rfl) dX12_show_13
def f_X12_wouldShow_33 (N : Nat) (o : Nat) (a1 : Int32) (a2 : Int32)  (st : zS) (x3 : Int32) (y0 : Int32) : Option (zS × Int32) := (if zTg st o ∈ [22] then (Option.bind (zR st o 1) (fun b11 => (if zTg st b11 ∈ [1] then (if zin ((nI 53) + a2) (zLn st b11) then (if zB y0 then (some ((zPM st b11 (((nI 53) + a2)).toNatClampNeg x3), y0)) else none) else none) else none))) else none)
def f_X12_wouldShow (N : Nat) (st : zS) (o : Nat) (a1 : Int32) (a2 : Int32) : Option (zS × Int32) := (if zTg st o ∈ [22] then (Option.bind (zR st o 1) (fun b2 => (if zTg st b2 ∈ [1] then (if zin ((nI 53) + a2) (zLn st b2) then (zl (zM st b2 (((nI 53) + a2)).toNatClampNeg) (fun v5 => (if zin ((nI 53) + a2) (zLn st b2) then (zb (f_X12_signAt N (zPM st b2 (((nI 53) + a2)).toNatClampNeg a1) o a2) (fun st8 r9 => (if r9 ≤ 0 then (f_X12_wouldShow_33 N o a1 a2 st8 v5 (nI 0)) else (f_X12_wouldShow_33 N o a1 a2 st8 v5 (nI 1))))) else none))) else none) else none))) else none)
set_option maxHeartbeats 1000000 in
set_option maxRecDepth 100000 in
theorem c_X12_wouldShow (l : Launch) (G : zG) (N : Nat) (st : zS) (o : Nat) (a1 : Int32) (a2 : Int32) {st' : zS} {r : Int32} (h : f_X12_wouldShow N st o a1 a2 = some (st', r)) : zMet l G yX12_wouldShow cX12_wouldShow 5 (some .boolean) 2 0 0 [.ref (G.2.2.2 + o), .int a1, .int a2] st (some (.int r)) st' := by
  refine zMet_of (by decide +kernel) ?_
  intro p e s m args below meth c X
  obtain ⟨hx, hb, hr, hml, hown, hq, hlk, hK, -, hin, hW, hS⟩ := X
  have hown : s.vm.findClass RX12 = some m.cls := hown
  refine z_ent (by exact Nat.le_of_ble_eq_true rfl) (fun ls hl => ?_)
  have hl : lv_has ls 5 [(0, .ref (G.2.2.2 + o)), (1, .int a1), (2, .int a2)] := hl
  unfold f_X12_wouldShow at h
  have B33 : ∀ (st : zS) (x3 : Int32) (y0 : Int32) (H : Heap) (locs : List Loc) (ls : Array Slot), f_X12_wouldShow_33 N o a1 a2 st x3 y0 = some (st', r) → zWd G st H → va_S (zA G) s.heap H locs → lv_has ls 5 [(0, .ref (G.2.2.2 + o)), (2, .int a2), (3, .int x3)] → W p l e (zRm 2 0 0) s m args below meth c H locs 0 0 (MQ below (zQ G (some (.int r)) st') args s 0 0 (zA G)) (F0 m 33 ls [.int y0]) := by
    intro st x3 y0 H locs ls h hW hS hl
    unfold f_X12_wouldShow_33 at h
    refine lv_istore (lv' := [(4, .int y0), (0, .ref (G.2.2.2 + o)), (2, .int a2), (3, .int x3)]) hx hb dX12_wouldShow_33 hl (by decide) rfl (fun ls hl => ?_)
    refine lv_aload_n hx hb dX12_wouldShow_35 rfl (lv_at hl 1 rfl) ?_
    obtain ⟨t10, h⟩ := zc_at h
    obtain ⟨b11, hb11, h⟩ := zd_at h
    refine z_gR hx hb hq hown hK hW fs_RX12_9 t10 hb11 dX12_wouldShow_36 ?_
    refine lv_bipush (v := (nI 53)) hx hb dX12_wouldShow_39 (by decide) ?_
    refine lv_iload_n hx hb dX12_wouldShow_41 rfl (lv_at hl 2 rfl) ?_
    refine lv_iadd hx hb dX12_wouldShow_42 ?_
    refine lv_iload_n hx hb dX12_wouldShow_43 rfl (lv_at hl 3 rfl) ?_
    obtain ⟨t12, h⟩ := zc_at h
    obtain ⟨t13, h⟩ := zc_at h
    refine z_asI hx hb hK hW hS (List.mem_singleton.mp t12) t13 dX12_wouldShow_44 (fun H locs hW hS => ?_)
    refine lv_iload hx hb dX12_wouldShow_45 (lv_at hl 0 rfl) ?_
    obtain ⟨t14, h⟩ := zc_at h
    obtain ⟨rfl, rfl⟩ := Prod.mk.inj (Option.some.inj h)
    exact z_rz hx hb hr hlk (zB_n t14) hW hS (Nat.le_of_ble_eq_true rfl) (Nat.le_of_ble_eq_true rfl) dX12_wouldShow_47
  refine lv_aload_n hx hb dX12_wouldShow_0 rfl (lv_at hl 0 rfl) ?_
  obtain ⟨t1, h⟩ := zc_at h
  obtain ⟨b2, hb2, h⟩ := zd_at h
  refine z_gR hx hb hq hown hK hW fs_RX12_9 t1 hb2 dX12_wouldShow_1 ?_
  refine lv_bipush (v := (nI 53)) hx hb dX12_wouldShow_4 (by decide) ?_
  refine lv_iload_n hx hb dX12_wouldShow_6 rfl (lv_at hl 2 rfl) ?_
  refine lv_iadd hx hb dX12_wouldShow_7 ?_
  obtain ⟨t3, h⟩ := zc_at h
  obtain ⟨t4, h⟩ := zc_at h
  refine z_alI hx hb hK hW (List.mem_singleton.mp t3) t4 dX12_wouldShow_8 ?_
  refine lv_topi (fun v5 ev5 => ?_)
  have h := zl_at ev5 h
  refine lv_istore_n (lv' := [(3, .int v5), (0, .ref (G.2.2.2 + o)), (1, .int a1), (2, .int a2)]) hx hb dX12_wouldShow_9 rfl hl (by decide) rfl (fun ls hl => ?_)
  refine lv_aload_n hx hb dX12_wouldShow_10 rfl (lv_at hl 1 rfl) ?_
  refine z_gR hx hb hq hown hK hW fs_RX12_9 t1 hb2 dX12_wouldShow_11 ?_
  refine lv_bipush (v := (nI 53)) hx hb dX12_wouldShow_14 (by decide) ?_
  refine lv_iload_n hx hb dX12_wouldShow_16 rfl (lv_at hl 3 rfl) ?_
  refine lv_iadd hx hb dX12_wouldShow_17 ?_
  refine lv_iload_n hx hb dX12_wouldShow_18 rfl (lv_at hl 2 rfl) ?_
  obtain ⟨t6, h⟩ := zc_at h
  refine z_asI hx hb hK hW hS (List.mem_singleton.mp t3) t6 dX12_wouldShow_19 (fun H locs hW hS => ?_)
  refine lv_aload_n hx hb dX12_wouldShow_20 rfl (lv_at hl 1 rfl) ?_
  refine lv_iload_n hx hb dX12_wouldShow_21 rfl (lv_at hl 3 rfl) ?_
  obtain ⟨st8, r9, c7, h⟩ := zb_at h
  refine z_cV hx hb hq hml hown hK hW hS 12 [.int a2] [] rfl (List.mem_singleton.mp t1) (c_X12_signAt l G N (zPM st b2 (((nI 53) + a2)).toNatClampNeg a1) o a2 c7) (zi zm624) (zi zm625) (zi zm626) (zi zm5) (zi zm627) cal_X12_signAt rfl rfl hl.1 rfl (Nat.le_of_ble_eq_true rfl) (zR_ok (by omega) (by decide)) ⟨(Nat.le_of_ble_eq_true rfl), (Nat.le_of_ble_eq_true rfl)⟩ dX12_wouldShow_22 (fun H locs hW hS => ?_)
  refine W.eq (g2 := F0 m 25 ls [.int r9]) rfl ?_
  refine z_br (lv_if_le (tgt := 32) hx hb dX12_wouldShow_25 (by decide)) h (fun h => ?_) (fun h => ?_)
  · refine lv_iconst (v := (nI 0)) hx hb dX12_wouldShow_32 (by decide) ?_
    exact B33 st8 v5 (nI 0) _ _ _ h hW hS (lv_sub hl [1, 3, 0] rfl)
  · refine lv_iconst (v := (nI 1)) hx hb dX12_wouldShow_28 (by decide) ?_
    refine lv_goto (tgt := 33) hx hb dX12_wouldShow_29 (by decide) ?_
    exact B33 st8 v5 (nI 1) _ _ _ h hW hS (lv_sub hl [1, 3, 0] rfl)
def f_X12_whose_76 (N : Nat) (o : Nat) (k4 : zS → Int32 → Int32 → Option (zS × Int32)) (st : zS) (x2 : Int32) (y0 : Int32) (y1 : Int32) : Option (zS × Int32) := (zl (y1 ||| y0) (fun v9 => (k4 st v9 (x2 + (nI 1)))))
def f_X12_whose_57 (N : Nat) (o : Nat) (k4 : zS → Int32 → Int32 → Option (zS × Int32)) (k19 : zS → Int32 → Int32 → Int32 → Int32 → Option (zS × Int32)) (st : zS) (x1 : Int32) (x2 : Int32) (x4 : Int32) (y0 : Int32) : Option (zS × Int32) := (k19 st x1 x2 y0 (x4 + (nI 1)))
def f_X12_whose_56 (N : Nat) (o : Nat) (k4 : zS → Int32 → Int32 → Option (zS × Int32)) (k19 : zS → Int32 → Int32 → Int32 → Int32 → Option (zS × Int32)) (st : zS) (x1 : Int32) (x2 : Int32) (x4 : Int32) : Option (zS × Int32) := (f_X12_whose_57 N o k4 k19 st x1 x2 x4 (nI 0))
def f_X12_whose_19 (N : Nat) (o : Nat) (k4 : zS → Int32 → Int32 → Option (zS × Int32)) : Nat → zS → Int32 → Int32 → Int32 → Int32 → Option (zS × Int32)
  | 0, _, _, _, _, _ => none
  | n19 + 1, st, x1, x2, x3, x4 => (if zTg st o ∈ [22] then (Option.bind (zR st o 1) (fun b6 => (if zTg st b6 ∈ [1] then (if zin (nI 3) (zLn st b6) then (if (zM st b6 ((nI 3)).toNatClampNeg) ≤ x4 then (if x3 = 0 then (f_X12_whose_76 N o k4 st x2 (nI 0) x1) else (f_X12_whose_76 N o k4 st x2 ((nI 1) <<< (x2 &&& 31)) x1)) else (if x3 = 0 then (f_X12_whose_56 N o k4 (f_X12_whose_19 N o k4 n19) st x1 x2 x4) else (if zin ((nI 98) + x4) (zLn st b6) then (zb (f_X12_wouldShow N st o x2 (zM st b6 (((nI 98) + x4)).toNatClampNeg)) (fun st12 r13 => (if r13 = 0 then (f_X12_whose_56 N o k4 (f_X12_whose_19 N o k4 n19) st12 x1 x2 x4) else (f_X12_whose_57 N o k4 (f_X12_whose_19 N o k4 n19) st12 x1 x2 x4 (nI 1))))) else none))) else none) else none))) else none)
def f_X12_whose_4 (N : Nat) (o : Nat)  : Nat → zS → Int32 → Int32 → Option (zS × Int32)
  | 0, _, _, _ => none
  | n4 + 1, st, x1, x2 => (if zTg st o ∈ [22] then (Option.bind (zR st o 1) (fun b2 => (if zTg st b2 ∈ [1] then (if zin (nI 0) (zLn st b2) then (if (zM st b2 ((nI 0)).toNatClampNeg) ≤ x2 then (some (st, x1)) else (f_X12_whose_19 N o (f_X12_whose_4 N o n4) N st x1 x2 (nI 1) (nI 0))) else none) else none))) else none)
def f_X12_whose (N : Nat) (st : zS) (o : Nat) : Option (zS × Int32) := (f_X12_whose_4 N o N st (nI 0) (nI 0))
set_option maxHeartbeats 1000000 in
set_option maxRecDepth 100000 in
theorem c_X12_whose (l : Launch) (G : zG) (N : Nat) (st : zS) (o : Nat) {st' : zS} {r : Int32} (h : f_X12_whose N st o = some (st', r)) : zMet l G yX12_whose cX12_whose 5 (some .int) 3 0 0 [.ref (G.2.2.2 + o)] st (some (.int r)) st' := by
  refine zMet_of (by decide +kernel) ?_
  intro p e s m args below meth c X
  obtain ⟨hx, hb, hr, hml, hown, hq, hlk, hK, -, hin, hW, hS⟩ := X
  have hown : s.vm.findClass RX12 = some m.cls := hown
  refine z_ent (by exact Nat.le_of_ble_eq_true rfl) (fun ls hl => ?_)
  have hl : lv_has ls 5 [(0, .ref (G.2.2.2 + o))] := hl
  unfold f_X12_whose at h
  have B4 : ∀ (n4 : Nat) (st : zS) (x1 : Int32) (x2 : Int32) (H : Heap) (locs : List Loc) (ls : Array Slot), f_X12_whose_4 N o n4 st x1 x2 = some (st', r) → zWd G st H → va_S (zA G) s.heap H locs → lv_has ls 5 [(0, .ref (G.2.2.2 + o)), (1, .int x1), (2, .int x2)] → W p l e (zRm 3 0 0) s m args below meth c H locs 0 0 (MQ below (zQ G (some (.int r)) st') args s 0 0 (zA G)) (F0 m 4 ls []) := by
    intro n4
    induction n4 with
    | zero =>
      intro st x1 x2 H locs ls h
      unfold f_X12_whose_4 at h
      cases h
    | succ n4 ih4 =>
      have B76 : ∀ (st : zS) (x2 : Int32) (y0 : Int32) (y1 : Int32) (H : Heap) (locs : List Loc) (ls : Array Slot), f_X12_whose_76 N o (f_X12_whose_4 N o n4) st x2 y0 y1 = some (st', r) → zWd G st H → va_S (zA G) s.heap H locs → lv_has ls 5 [(0, .ref (G.2.2.2 + o)), (2, .int x2)] → W p l e (zRm 3 0 0) s m args below meth c H locs 0 0 (MQ below (zQ G (some (.int r)) st') args s 0 0 (zA G)) (F0 m 76 ls [.int y0, .int y1]) := by
        intro st x2 y0 y1 H locs ls h hW hS hl
        unfold f_X12_whose_76 at h
        refine lv_ior hx hb dX12_whose_76 ?_
        refine lv_topi (fun v9 ev9 => ?_)
        have h := zl_at ev9 h
        refine lv_istore_n (lv' := [(1, .int v9), (0, .ref (G.2.2.2 + o)), (2, .int x2)]) hx hb dX12_whose_77 rfl hl (by decide) rfl (fun ls hl => ?_)
        refine lv_iinc (v := (x2 + (nI 1))) (lv' := [(2, .int ((x2 + (nI 1)))), (1, .int v9), (0, .ref (G.2.2.2 + o))]) hx hb dX12_whose_78 hl (k := 2) rfl rfl (by decide) rfl (fun ls hl => ?_)
        refine lv_goto (tgt := 4) hx hb dX12_whose_81 (by decide) ?_
        exact ih4 st v9 (x2 + (nI 1)) _ _ _ h hW hS (lv_sub hl [2, 1, 0] rfl)
      have B19 : ∀ (n19 : Nat) (st : zS) (x1 : Int32) (x2 : Int32) (x3 : Int32) (x4 : Int32) (H : Heap) (locs : List Loc) (ls : Array Slot), f_X12_whose_19 N o (f_X12_whose_4 N o n4) n19 st x1 x2 x3 x4 = some (st', r) → zWd G st H → va_S (zA G) s.heap H locs → lv_has ls 5 [(0, .ref (G.2.2.2 + o)), (1, .int x1), (2, .int x2), (3, .int x3), (4, .int x4)] → W p l e (zRm 3 0 0) s m args below meth c H locs 0 0 (MQ below (zQ G (some (.int r)) st') args s 0 0 (zA G)) (F0 m 19 ls []) := by
        intro n19
        induction n19 with
        | zero =>
          intro st x1 x2 x3 x4 H locs ls h
          unfold f_X12_whose_19 at h
          cases h
        | succ n19 ih19 =>
          have B57 : ∀ (st : zS) (x1 : Int32) (x2 : Int32) (x4 : Int32) (y0 : Int32) (H : Heap) (locs : List Loc) (ls : Array Slot), f_X12_whose_57 N o (f_X12_whose_4 N o n4) (f_X12_whose_19 N o (f_X12_whose_4 N o n4) n19) st x1 x2 x4 y0 = some (st', r) → zWd G st H → va_S (zA G) s.heap H locs → lv_has ls 5 [(0, .ref (G.2.2.2 + o)), (1, .int x1), (2, .int x2), (4, .int x4)] → W p l e (zRm 3 0 0) s m args below meth c H locs 0 0 (MQ below (zQ G (some (.int r)) st') args s 0 0 (zA G)) (F0 m 57 ls [.int y0]) := by
            intro st x1 x2 x4 y0 H locs ls h hW hS hl
            unfold f_X12_whose_57 at h
            refine lv_istore_n (lv' := [(3, .int y0), (0, .ref (G.2.2.2 + o)), (1, .int x1), (2, .int x2), (4, .int x4)]) hx hb dX12_whose_57 rfl hl (by decide) rfl (fun ls hl => ?_)
            refine lv_iinc (v := (x4 + (nI 1))) (lv' := [(4, .int ((x4 + (nI 1)))), (3, .int y0), (0, .ref (G.2.2.2 + o)), (1, .int x1), (2, .int x2)]) hx hb dX12_whose_58 hl (k := 4) rfl rfl (by decide) rfl (fun ls hl => ?_)
            refine lv_goto (tgt := 19) hx hb dX12_whose_61 (by decide) ?_
            exact ih19 st x1 x2 y0 (x4 + (nI 1)) _ _ _ h hW hS (lv_sub hl [2, 3, 4, 1, 0] rfl)
          have B56 : ∀ (st : zS) (x1 : Int32) (x2 : Int32) (x4 : Int32) (H : Heap) (locs : List Loc) (ls : Array Slot), f_X12_whose_56 N o (f_X12_whose_4 N o n4) (f_X12_whose_19 N o (f_X12_whose_4 N o n4) n19) st x1 x2 x4 = some (st', r) → zWd G st H → va_S (zA G) s.heap H locs → lv_has ls 5 [(0, .ref (G.2.2.2 + o)), (1, .int x1), (2, .int x2), (4, .int x4)] → W p l e (zRm 3 0 0) s m args below meth c H locs 0 0 (MQ below (zQ G (some (.int r)) st') args s 0 0 (zA G)) (F0 m 56 ls []) := by
            intro st x1 x2 x4 H locs ls h hW hS hl
            unfold f_X12_whose_56 at h
            refine lv_iconst (v := (nI 0)) hx hb dX12_whose_56 (by decide) ?_
            exact B57 st x1 x2 x4 (nI 0) _ _ _ h hW hS (lv_sub hl [0, 1, 2, 3] rfl)
          intro st x1 x2 x3 x4 H locs ls h hW hS hl
          unfold f_X12_whose_19 at h
          refine lv_iload hx hb dX12_whose_19 (lv_at hl 4 rfl) ?_
          refine lv_aload_n hx hb dX12_whose_21 rfl (lv_at hl 0 rfl) ?_
          obtain ⟨t5, h⟩ := zc_at h
          obtain ⟨b6, hb6, h⟩ := zd_at h
          refine z_gR hx hb hq hown hK hW fs_RX12_9 t5 hb6 dX12_whose_22 ?_
          refine lv_iconst (v := (nI 3)) hx hb dX12_whose_25 (by decide) ?_
          obtain ⟨t7, h⟩ := zc_at h
          obtain ⟨t8, h⟩ := zc_at h
          refine z_alI hx hb hK hW (List.mem_singleton.mp t7) t8 dX12_whose_26 ?_
          refine z_br (lv_icmp_ge (tgt := 64) hx hb dX12_whose_27 (by decide)) h (fun h => ?_) (fun h => ?_)
          · refine lv_iload_n hx hb dX12_whose_64 rfl (lv_at hl 1 rfl) ?_
            refine lv_iload_n hx hb dX12_whose_65 rfl (lv_at hl 3 rfl) ?_
            refine z_br (lv_if_eq (tgt := 75) hx hb dX12_whose_66 (by decide)) h (fun h => ?_) (fun h => ?_)
            · refine lv_iconst (v := (nI 0)) hx hb dX12_whose_75 (by decide) ?_
              exact B76 st x2 (nI 0) x1 _ _ _ h hW hS (lv_sub hl [0, 2] rfl)
            · refine lv_iconst (v := (nI 1)) hx hb dX12_whose_69 (by decide) ?_
              refine lv_iload_n hx hb dX12_whose_70 rfl (lv_at hl 2 rfl) ?_
              refine lv_ishl hx hb dX12_whose_71 ?_
              refine lv_goto (tgt := 76) hx hb dX12_whose_72 (by decide) ?_
              exact B76 st x2 ((nI 1) <<< (x2 &&& 31)) x1 _ _ _ h hW hS (lv_sub hl [0, 2] rfl)
          · refine lv_iload_n hx hb dX12_whose_30 rfl (lv_at hl 3 rfl) ?_
            refine z_br (lv_if_eq (tgt := 56) hx hb dX12_whose_31 (by decide)) h (fun h => ?_) (fun h => ?_)
            · exact B56 st x1 x2 x4 _ _ _ h hW hS (lv_sub hl [0, 1, 2, 4] rfl)
            · refine lv_aload_n hx hb dX12_whose_34 rfl (lv_at hl 0 rfl) ?_
              refine lv_iload_n hx hb dX12_whose_35 rfl (lv_at hl 2 rfl) ?_
              refine lv_aload_n hx hb dX12_whose_36 rfl (lv_at hl 0 rfl) ?_
              refine z_gR hx hb hq hown hK hW fs_RX12_9 t5 hb6 dX12_whose_37 ?_
              refine lv_bipush (v := (nI 98)) hx hb dX12_whose_40 (by decide) ?_
              refine lv_iload hx hb dX12_whose_42 (lv_at hl 4 rfl) ?_
              refine lv_iadd hx hb dX12_whose_44 ?_
              obtain ⟨t10, h⟩ := zc_at h
              refine z_alI hx hb hK hW (List.mem_singleton.mp t7) t10 dX12_whose_45 ?_
              obtain ⟨st12, r13, c11, h⟩ := zb_at h
              refine z_cV hx hb hq hml hown hK hW hS 12 [.int x2, .int ((zM st b6 (((nI 98) + x4)).toNatClampNeg))] [] rfl (List.mem_singleton.mp t5) (c_X12_wouldShow l G N st o x2 (zM st b6 (((nI 98) + x4)).toNatClampNeg) c11) (zi zm883) (zi zm884) (zi zm885) (zi zm5) (zi zm886) cal_X12_wouldShow rfl rfl hl.1 rfl (Nat.le_of_ble_eq_true rfl) (zR_ok (by omega) (by decide)) ⟨(Nat.le_of_ble_eq_true rfl), (Nat.le_of_ble_eq_true rfl)⟩ dX12_whose_46 (fun H locs hW hS => ?_)
              refine W.eq (g2 := F0 m 49 ls [.int r13]) rfl ?_
              refine z_br (lv_if_eq (tgt := 56) hx hb dX12_whose_49 (by decide)) h (fun h => ?_) (fun h => ?_)
              · exact B56 st12 x1 x2 x4 _ _ _ h hW hS (lv_sub hl [0, 1, 2, 4] rfl)
              · refine lv_iconst (v := (nI 1)) hx hb dX12_whose_52 (by decide) ?_
                refine lv_goto (tgt := 57) hx hb dX12_whose_53 (by decide) ?_
                exact B57 st12 x1 x2 x4 (nI 1) _ _ _ h hW hS (lv_sub hl [0, 1, 2, 4] rfl)
      intro st x1 x2 H locs ls h hW hS hl
      unfold f_X12_whose_4 at h
      refine lv_iload_n hx hb dX12_whose_4 rfl (lv_at hl 2 rfl) ?_
      refine lv_aload_n hx hb dX12_whose_5 rfl (lv_at hl 0 rfl) ?_
      obtain ⟨t1, h⟩ := zc_at h
      obtain ⟨b2, hb2, h⟩ := zd_at h
      refine z_gR hx hb hq hown hK hW fs_RX12_9 t1 hb2 dX12_whose_6 ?_
      refine lv_iconst (v := (nI 0)) hx hb dX12_whose_9 (by decide) ?_
      obtain ⟨t3, h⟩ := zc_at h
      obtain ⟨t4, h⟩ := zc_at h
      refine z_alI hx hb hK hW (List.mem_singleton.mp t3) t4 dX12_whose_10 ?_
      refine z_br (lv_icmp_ge (tgt := 84) hx hb dX12_whose_11 (by decide)) h (fun h => ?_) (fun h => ?_)
      · refine lv_iload_n hx hb dX12_whose_84 rfl (lv_at hl 1 rfl) ?_
        obtain ⟨rfl, rfl⟩ := Prod.mk.inj (Option.some.inj h)
        exact z_ri hx hb hr hlk hW hS (Nat.le_of_ble_eq_true rfl) (Nat.le_of_ble_eq_true rfl) dX12_whose_85
      · refine lv_iconst (v := (nI 1)) hx hb dX12_whose_14 (by decide) ?_
        refine lv_istore_n (lv' := [(3, .int ((nI 1))), (0, .ref (G.2.2.2 + o)), (1, .int x1), (2, .int x2)]) hx hb dX12_whose_15 rfl hl (by decide) rfl (fun ls hl => ?_)
        refine lv_iconst (v := (nI 0)) hx hb dX12_whose_16 (by decide) ?_
        refine lv_istore (lv' := [(4, .int ((nI 0))), (3, .int ((nI 1))), (0, .ref (G.2.2.2 + o)), (1, .int x1), (2, .int x2)]) hx hb dX12_whose_17 hl (by decide) rfl (fun ls hl => ?_)
        exact B19 N st x1 x2 (nI 1) (nI 0) _ _ _ h hW hS (lv_sub hl [2, 3, 4, 1, 0] rfl)
  refine lv_iconst (v := (nI 0)) hx hb dX12_whose_0 (by decide) ?_
  refine lv_istore_n (lv' := [(1, .int ((nI 0))), (0, .ref (G.2.2.2 + o))]) hx hb dX12_whose_1 rfl hl (by decide) rfl (fun ls hl => ?_)
  refine lv_iconst (v := (nI 0)) hx hb dX12_whose_2 (by decide) ?_
  refine lv_istore_n (lv' := [(2, .int ((nI 0))), (1, .int ((nI 0))), (0, .ref (G.2.2.2 + o))]) hx hb dX12_whose_3 rfl hl (by decide) rfl (fun ls hl => ?_)
  exact B4 N st (nI 0) (nI 0) _ _ _ h hW hS (lv_sub hl [2, 1, 0] rfl)
def f_X12_wanted (st : zS) (o : Nat) (a1 : Int32) : Option (zS × Int32) := (if a1 = (-1 : Int32) then (if zTg st o ∈ [22] then (Option.bind (zR st o 1) (fun b13 => (if zTg st b13 ∈ [1] then (if zin (nI 4) (zLn st b13) then (some ((zPM st b13 ((nI 4)).toNatClampNeg (nI 0)), (nI 0))) else none) else none))) else none) else (Option.bind (f_X12_in a1 (nI 0) (nI 40)) (fun r2 => (if r2 = 0 then (some (st, (-2 : Int32))) else (if zTg st o ∈ [22] then (Option.bind (zR st o 1) (fun b4 => (if zTg st b4 ∈ [1] then (if zin (nI 4) (zLn st b4) then (if (zM st b4 ((nI 4)).toNatClampNeg) = (nI 8) then (some (st, (-4 : Int32))) else (if zin (nI 4) (zLn st b4) then (if zin ((nI 104) + (zM st b4 ((nI 4)).toNatClampNeg)) (zLn st b4) then (if zin (nI 4) (zLn (zPM st b4 (((nI 104) + (zM st b4 ((nI 4)).toNatClampNeg))).toNatClampNeg a1) b4) then (if zin (nI 4) (zLn (zPM st b4 (((nI 104) + (zM st b4 ((nI 4)).toNatClampNeg))).toNatClampNeg a1) b4) then (if zin (nI 4) (zLn (zPM (zPM st b4 (((nI 104) + (zM st b4 ((nI 4)).toNatClampNeg))).toNatClampNeg a1) b4 ((nI 4)).toNatClampNeg ((zM (zPM st b4 (((nI 104) + (zM st b4 ((nI 4)).toNatClampNeg))).toNatClampNeg a1) b4 ((nI 4)).toNatClampNeg) + (nI 1))) b4) then (some ((zPM (zPM st b4 (((nI 104) + (zM st b4 ((nI 4)).toNatClampNeg))).toNatClampNeg a1) b4 ((nI 4)).toNatClampNeg ((zM (zPM st b4 (((nI 104) + (zM st b4 ((nI 4)).toNatClampNeg))).toNatClampNeg a1) b4 ((nI 4)).toNatClampNeg) + (nI 1))), (zM (zPM (zPM st b4 (((nI 104) + (zM st b4 ((nI 4)).toNatClampNeg))).toNatClampNeg a1) b4 ((nI 4)).toNatClampNeg ((zM (zPM st b4 (((nI 104) + (zM st b4 ((nI 4)).toNatClampNeg))).toNatClampNeg a1) b4 ((nI 4)).toNatClampNeg) + (nI 1))) b4 ((nI 4)).toNatClampNeg))) else none) else none) else none) else none) else none)) else none) else none))) else none)))))
set_option maxHeartbeats 1000000 in
set_option maxRecDepth 100000 in
theorem c_X12_wanted (l : Launch) (G : zG) (st : zS) (o : Nat) (a1 : Int32) {st' : zS} {r : Int32} (h : f_X12_wanted st o a1 = some (st', r)) : zMet l G yX12_wanted cX12_wanted 2 (some .int) 1 0 0 [.ref (G.2.2.2 + o), .int a1] st (some (.int r)) st' := by
  refine zMet_of (by decide +kernel) ?_
  intro p e s m args below meth c X
  obtain ⟨hx, hb, hr, hml, hown, hq, hlk, hK, -, hin, hW, hS⟩ := X
  have hown : s.vm.findClass RX12 = some m.cls := hown
  refine z_ent (by exact Nat.le_of_ble_eq_true rfl) (fun ls hl => ?_)
  have hl : lv_has ls 2 [(0, .ref (G.2.2.2 + o)), (1, .int a1)] := hl
  unfold f_X12_wanted at h
  refine lv_iload_n hx hb dX12_wanted_0 rfl (lv_at hl 1 rfl) ?_
  refine lv_iconst (v := (-1)) hx hb dX12_wanted_1 (by decide) ?_
  refine z_brn (lv_icmp_ne (tgt := 14) hx hb dX12_wanted_2 (by decide)) h (fun h => ?_) (fun h => ?_)
  · refine lv_iload_n hx hb dX12_wanted_14 rfl (lv_at hl 1 rfl) ?_
    refine lv_iconst (v := (nI 0)) hx hb dX12_wanted_15 (by decide) ?_
    refine lv_bipush (v := (nI 40)) hx hb dX12_wanted_16 (by decide) ?_
    obtain ⟨r2, c1, h⟩ := zd_at h
    refine z_cS hx hb hq hml hown hK hW hS [.int a1, .int ((nI 0)), .int ((nI 40))] [] (c_X12_in l G st a1 (nI 0) (nI 40) c1) (zi zm90) (zi zm91) (zi zm5) (zi zm92) cal_X12_in rfl hl.1 rfl (Nat.le_of_ble_eq_true rfl) (zR_ok (by omega) (by decide)) ⟨(Nat.le_of_ble_eq_true rfl), (Nat.le_of_ble_eq_true rfl)⟩ dX12_wanted_18 (fun H locs hW hS => ?_)
    refine W.eq (g2 := F0 m 21 ls [.int r2]) rfl ?_
    refine z_brn (lv_if_ne (tgt := 27) hx hb dX12_wanted_21 (by decide)) h (fun h => ?_) (fun h => ?_)
    · refine lv_aload_n hx hb dX12_wanted_27 rfl (lv_at hl 0 rfl) ?_
      obtain ⟨t3, h⟩ := zc_at h
      obtain ⟨b4, hb4, h⟩ := zd_at h
      refine z_gR hx hb hq hown hK hW fs_RX12_9 t3 hb4 dX12_wanted_28 ?_
      refine lv_iconst (v := (nI 4)) hx hb dX12_wanted_31 (by decide) ?_
      obtain ⟨t5, h⟩ := zc_at h
      obtain ⟨t6, h⟩ := zc_at h
      refine z_alI hx hb hK hW (List.mem_singleton.mp t5) t6 dX12_wanted_32 ?_
      refine lv_bipush (v := (nI 8)) hx hb dX12_wanted_33 (by decide) ?_
      refine z_brn (lv_icmp_ne (tgt := 41) hx hb dX12_wanted_35 (by decide)) h (fun h => ?_) (fun h => ?_)
      · refine lv_aload_n hx hb dX12_wanted_41 rfl (lv_at hl 0 rfl) ?_
        refine z_gR hx hb hq hown hK hW fs_RX12_9 t3 hb4 dX12_wanted_42 ?_
        refine lv_bipush (v := (nI 104)) hx hb dX12_wanted_45 (by decide) ?_
        refine lv_aload_n hx hb dX12_wanted_47 rfl (lv_at hl 0 rfl) ?_
        refine z_gR hx hb hq hown hK hW fs_RX12_9 t3 hb4 dX12_wanted_48 ?_
        refine lv_iconst (v := (nI 4)) hx hb dX12_wanted_51 (by decide) ?_
        obtain ⟨t7, h⟩ := zc_at h
        refine z_alI hx hb hK hW (List.mem_singleton.mp t5) t7 dX12_wanted_52 ?_
        refine lv_iadd hx hb dX12_wanted_53 ?_
        refine lv_iload_n hx hb dX12_wanted_54 rfl (lv_at hl 1 rfl) ?_
        obtain ⟨t8, h⟩ := zc_at h
        refine z_asI hx hb hK hW hS (List.mem_singleton.mp t5) t8 dX12_wanted_55 (fun H locs hW hS => ?_)
        refine lv_aload_n hx hb dX12_wanted_56 rfl (lv_at hl 0 rfl) ?_
        refine z_gR hx hb hq hown hK hW fs_RX12_9 t3 hb4 dX12_wanted_57 ?_
        refine lv_iconst (v := (nI 4)) hx hb dX12_wanted_60 (by decide) ?_
        refine lv_dup2_11 hx hb dX12_wanted_61 rfl rfl ?_
        obtain ⟨t9, h⟩ := zc_at h
        refine z_alI hx hb hK hW (List.mem_singleton.mp t5) t9 dX12_wanted_62 ?_
        refine lv_iconst (v := (nI 1)) hx hb dX12_wanted_63 (by decide) ?_
        refine lv_iadd hx hb dX12_wanted_64 ?_
        obtain ⟨t10, h⟩ := zc_at h
        refine z_asI hx hb hK hW hS (List.mem_singleton.mp t5) t10 dX12_wanted_65 (fun H locs hW hS => ?_)
        refine lv_aload_n hx hb dX12_wanted_66 rfl (lv_at hl 0 rfl) ?_
        refine z_gR hx hb hq hown hK hW fs_RX12_9 t3 hb4 dX12_wanted_67 ?_
        refine lv_iconst (v := (nI 4)) hx hb dX12_wanted_70 (by decide) ?_
        obtain ⟨t11, h⟩ := zc_at h
        refine z_alI hx hb hK hW (List.mem_singleton.mp t5) t11 dX12_wanted_71 ?_
        obtain ⟨rfl, rfl⟩ := Prod.mk.inj (Option.some.inj h)
        exact z_ri hx hb hr hlk hW hS (Nat.le_of_ble_eq_true rfl) (Nat.le_of_ble_eq_true rfl) dX12_wanted_72
      · refine lv_bipush (v := (-4)) hx hb dX12_wanted_38 (by decide) ?_
        obtain ⟨rfl, rfl⟩ := Prod.mk.inj (Option.some.inj h)
        exact z_ri hx hb hr hlk hW hS (Nat.le_of_ble_eq_true rfl) (Nat.le_of_ble_eq_true rfl) dX12_wanted_40
    · refine lv_bipush (v := (-2)) hx hb dX12_wanted_24 (by decide) ?_
      obtain ⟨rfl, rfl⟩ := Prod.mk.inj (Option.some.inj h)
      exact z_ri hx hb hr hlk hW hS (Nat.le_of_ble_eq_true rfl) (Nat.le_of_ble_eq_true rfl) dX12_wanted_26
  · refine lv_aload_n hx hb dX12_wanted_5 rfl (lv_at hl 0 rfl) ?_
    obtain ⟨t12, h⟩ := zc_at h
    obtain ⟨b13, hb13, h⟩ := zd_at h
    refine z_gR hx hb hq hown hK hW fs_RX12_9 t12 hb13 dX12_wanted_6 ?_
    refine lv_iconst (v := (nI 4)) hx hb dX12_wanted_9 (by decide) ?_
    refine lv_iconst (v := (nI 0)) hx hb dX12_wanted_10 (by decide) ?_
    obtain ⟨t14, h⟩ := zc_at h
    obtain ⟨t15, h⟩ := zc_at h
    refine z_asI hx hb hK hW hS (List.mem_singleton.mp t14) t15 dX12_wanted_11 (fun H locs hW hS => ?_)
    refine lv_iconst (v := (nI 0)) hx hb dX12_wanted_12 (by decide) ?_
    obtain ⟨rfl, rfl⟩ := Prod.mk.inj (Option.some.inj h)
    exact z_ri hx hb hr hlk hW hS (Nat.le_of_ble_eq_true rfl) (Nat.le_of_ble_eq_true rfl) dX12_wanted_13
def f_X12_stockOf_114 (N : Nat) (o : Nat) (a1 : Int32) (a2 : Int32) (k12 : zS → Int32 → Int32 → Option (zS × Int32)) (st : zS) (x3 : Int32) (x4 : Int32) (y0 : Int32) : Option (zS × Int32) := (if zTg st o ∈ [22] then (k12 (zPM st o 18 y0) x3 (x4 + (nI 1))) else none)
def f_X12_stockOf_94 (N : Nat) (o : Nat) (a1 : Int32) (a2 : Int32) (k12 : zS → Int32 → Int32 → Option (zS × Int32)) (st : zS) (x4 : Int32) (x5 : Int32) (y0 : Int32) : Option (zS × Int32) := (if zTg st o ∈ [22] then (if (zM st o 18) ≤ x5 then (f_X12_stockOf_114 N o a1 a2 k12 st y0 x4 (zM st o 18)) else (f_X12_stockOf_114 N o a1 a2 k12 st y0 x4 x5)) else none)
def f_X12_stockOf_70 (N : Nat) (o : Nat) (a1 : Int32) (a2 : Int32) (k12 : zS → Int32 → Int32 → Option (zS × Int32)) (k25 : zS → Int32 → Int32 → Int32 → Int32 → Option (zS × Int32)) (st : zS) (x3 : Int32) (x4 : Int32) (x6 : Int32) (y0 : Int32) (y1 : Int32) : Option (zS × Int32) := (zl (y1 + y0) (fun v10 => (k25 st x3 x4 v10 (x6 + (nI 1)))))
def f_X12_stockOf_25 (N : Nat) (o : Nat) (a1 : Int32) (a2 : Int32) (k12 : zS → Int32 → Int32 → Option (zS × Int32)) : Nat → zS → Int32 → Int32 → Int32 → Int32 → Option (zS × Int32)
  | 0, _, _, _, _, _ => none
  | n25 + 1, st, x3, x4, x5, x6 => (if zTg st o ∈ [22] then (Option.bind (zR st o 1) (fun b3 => (if zTg st b3 ∈ [1] then (if zin (nI 4) (zLn st b3) then (if (zM st b3 ((nI 4)).toNatClampNeg) ≤ x6 then (if (zM st o 18) ≤ x5 then (f_X12_stockOf_94 N o a1 a2 k12 st x4 x5 x3) else (f_X12_stockOf_94 N o a1 a2 k12 st x4 x5 x4)) else (if zin ((nI 104) + x6) (zLn st b3) then (zl (x4 - (zM st b3 (((nI 104) + x6)).toNatClampNeg)) (fun v9 => (if v9 ≤ 0 then (f_X12_stockOf_70 N o a1 a2 k12 (f_X12_stockOf_25 N o a1 a2 k12 n25) st x3 x4 x6 ((-a2) * v9) x5) else (f_X12_stockOf_70 N o a1 a2 k12 (f_X12_stockOf_25 N o a1 a2 k12 n25) st x3 x4 x6 (a1 * v9) x5)))) else none)) else none) else none))) else none)
def f_X12_stockOf_12 (N : Nat) (o : Nat) (a1 : Int32) (a2 : Int32)  : Nat → zS → Int32 → Int32 → Option (zS × Int32)
  | 0, _, _, _ => none
  | n12 + 1, st, x3, x4 => (if (nI 40) < x4 then (some (st, x3)) else (f_X12_stockOf_25 N o a1 a2 (f_X12_stockOf_12 N o a1 a2 n12) N st x3 x4 (nI 0) (nI 0)))
def f_X12_stockOf (N : Nat) (st : zS) (o : Nat) (a1 : Int32) (a2 : Int32) : Option (zS × Int32) := (if zTg st o ∈ [22] then (f_X12_stockOf_12 N o a1 a2 N (zPM st o 18 (nI 1000000)) (-5 : Int32) (nI 0)) else none)
set_option maxHeartbeats 1000000 in
set_option maxRecDepth 100000 in
theorem c_X12_stockOf (l : Launch) (G : zG) (N : Nat) (st : zS) (o : Nat) (a1 : Int32) (a2 : Int32) {st' : zS} {r : Int32} (h : f_X12_stockOf N st o a1 a2 = some (st', r)) : zMet l G yX12_stockOf cX12_stockOf 8 (some .int) 0 0 0 [.ref (G.2.2.2 + o), .int a1, .int a2] st (some (.int r)) st' := by
  refine zMet_of (by decide +kernel) ?_
  intro p e s m args below meth c X
  obtain ⟨hx, hb, hr, hml, hown, hq, hlk, hK, -, hin, hW, hS⟩ := X
  have hown : s.vm.findClass RX12 = some m.cls := hown
  refine z_ent (by exact Nat.le_of_ble_eq_true rfl) (fun ls hl => ?_)
  have hl : lv_has ls 8 [(0, .ref (G.2.2.2 + o)), (1, .int a1), (2, .int a2)] := hl
  unfold f_X12_stockOf at h
  have B12 : ∀ (n12 : Nat) (st : zS) (x3 : Int32) (x4 : Int32) (H : Heap) (locs : List Loc) (ls : Array Slot), f_X12_stockOf_12 N o a1 a2 n12 st x3 x4 = some (st', r) → zWd G st H → va_S (zA G) s.heap H locs → lv_has ls 8 [(0, .ref (G.2.2.2 + o)), (1, .int a1), (2, .int a2), (3, .int x3), (4, .int x4)] → W p l e (zRm 0 0 0) s m args below meth c H locs 0 0 (MQ below (zQ G (some (.int r)) st') args s 0 0 (zA G)) (F0 m 12 ls []) := by
    intro n12
    induction n12 with
    | zero =>
      intro st x3 x4 H locs ls h
      unfold f_X12_stockOf_12 at h
      cases h
    | succ n12 ih12 =>
      have B114 : ∀ (st : zS) (x3 : Int32) (x4 : Int32) (y0 : Int32) (H : Heap) (locs : List Loc) (ls : Array Slot), f_X12_stockOf_114 N o a1 a2 (f_X12_stockOf_12 N o a1 a2 n12) st x3 x4 y0 = some (st', r) → zWd G st H → va_S (zA G) s.heap H locs → lv_has ls 8 [(0, .ref (G.2.2.2 + o)), (1, .int a1), (2, .int a2), (3, .int x3), (4, .int x4)] → W p l e (zRm 0 0 0) s m args below meth c H locs 0 0 (MQ below (zQ G (some (.int r)) st') args s 0 0 (zA G)) (F0 m 114 ls [.int y0, .ref (G.2.2.2 + o)]) := by
        intro st x3 x4 y0 H locs ls h hW hS hl
        unfold f_X12_stockOf_114 at h
        obtain ⟨t7, h⟩ := zc_at h
        refine z_pI hx hb hq hown hK hW hS fp_RX12_214 t7 (fun h => by cases h) rfl rfl dX12_stockOf_114 (fun H locs hW hS => ?_)
        refine lv_iinc (v := (x4 + (nI 1))) (lv' := [(4, .int ((x4 + (nI 1)))), (0, .ref (G.2.2.2 + o)), (1, .int a1), (2, .int a2), (3, .int x3)]) hx hb dX12_stockOf_117 hl (k := 4) rfl rfl (by decide) rfl (fun ls hl => ?_)
        refine lv_goto (tgt := 12) hx hb dX12_stockOf_120 (by decide) ?_
        exact ih12 (zPM st o 18 y0) x3 (x4 + (nI 1)) _ _ _ h hW hS (lv_sub hl [1, 2, 3, 4, 0] rfl)
      have B94 : ∀ (st : zS) (x4 : Int32) (x5 : Int32) (y0 : Int32) (H : Heap) (locs : List Loc) (ls : Array Slot), f_X12_stockOf_94 N o a1 a2 (f_X12_stockOf_12 N o a1 a2 n12) st x4 x5 y0 = some (st', r) → zWd G st H → va_S (zA G) s.heap H locs → lv_has ls 8 [(0, .ref (G.2.2.2 + o)), (1, .int a1), (2, .int a2), (4, .int x4), (5, .int x5)] → W p l e (zRm 0 0 0) s m args below meth c H locs 0 0 (MQ below (zQ G (some (.int r)) st') args s 0 0 (zA G)) (F0 m 94 ls [.int y0]) := by
        intro st x4 x5 y0 H locs ls h hW hS hl
        unfold f_X12_stockOf_94 at h
        refine lv_istore_n (lv' := [(3, .int y0), (0, .ref (G.2.2.2 + o)), (1, .int a1), (2, .int a2), (4, .int x4), (5, .int x5)]) hx hb dX12_stockOf_94 rfl hl (by decide) rfl (fun ls hl => ?_)
        refine lv_aload_n hx hb dX12_stockOf_95 rfl (lv_at hl 1 rfl) ?_
        refine lv_iload hx hb dX12_stockOf_96 (lv_at hl 5 rfl) ?_
        refine lv_aload_n hx hb dX12_stockOf_98 rfl (lv_at hl 1 rfl) ?_
        obtain ⟨t6, h⟩ := zc_at h
        refine z_gI hx hb hq hown hK hW fs_RX12_214 t6 dX12_stockOf_99 ?_
        refine z_br (lv_icmp_ge (tgt := 110) hx hb dX12_stockOf_102 (by decide)) h (fun h => ?_) (fun h => ?_)
        · refine lv_aload_n hx hb dX12_stockOf_110 rfl (lv_at hl 1 rfl) ?_
          refine z_gI hx hb hq hown hK hW fs_RX12_214 t6 dX12_stockOf_111 ?_
          exact B114 st y0 x4 (zM st o 18) _ _ _ h hW hS (lv_sub hl [1, 2, 3, 0, 4] rfl)
        · refine lv_iload hx hb dX12_stockOf_105 (lv_at hl 5 rfl) ?_
          refine lv_goto (tgt := 114) hx hb dX12_stockOf_107 (by decide) ?_
          exact B114 st y0 x4 x5 _ _ _ h hW hS (lv_sub hl [1, 2, 3, 0, 4] rfl)
      have B25 : ∀ (n25 : Nat) (st : zS) (x3 : Int32) (x4 : Int32) (x5 : Int32) (x6 : Int32) (H : Heap) (locs : List Loc) (ls : Array Slot), f_X12_stockOf_25 N o a1 a2 (f_X12_stockOf_12 N o a1 a2 n12) n25 st x3 x4 x5 x6 = some (st', r) → zWd G st H → va_S (zA G) s.heap H locs → lv_has ls 8 [(0, .ref (G.2.2.2 + o)), (1, .int a1), (2, .int a2), (3, .int x3), (4, .int x4), (5, .int x5), (6, .int x6)] → W p l e (zRm 0 0 0) s m args below meth c H locs 0 0 (MQ below (zQ G (some (.int r)) st') args s 0 0 (zA G)) (F0 m 25 ls []) := by
        intro n25
        induction n25 with
        | zero =>
          intro st x3 x4 x5 x6 H locs ls h
          unfold f_X12_stockOf_25 at h
          cases h
        | succ n25 ih25 =>
          have B70 : ∀ (st : zS) (x3 : Int32) (x4 : Int32) (x6 : Int32) (y0 : Int32) (y1 : Int32) (H : Heap) (locs : List Loc) (ls : Array Slot), f_X12_stockOf_70 N o a1 a2 (f_X12_stockOf_12 N o a1 a2 n12) (f_X12_stockOf_25 N o a1 a2 (f_X12_stockOf_12 N o a1 a2 n12) n25) st x3 x4 x6 y0 y1 = some (st', r) → zWd G st H → va_S (zA G) s.heap H locs → lv_has ls 8 [(0, .ref (G.2.2.2 + o)), (1, .int a1), (2, .int a2), (3, .int x3), (4, .int x4), (6, .int x6)] → W p l e (zRm 0 0 0) s m args below meth c H locs 0 0 (MQ below (zQ G (some (.int r)) st') args s 0 0 (zA G)) (F0 m 70 ls [.int y0, .int y1]) := by
            intro st x3 x4 x6 y0 y1 H locs ls h hW hS hl
            unfold f_X12_stockOf_70 at h
            refine lv_iadd hx hb dX12_stockOf_70 ?_
            refine lv_topi (fun v10 ev10 => ?_)
            have h := zl_at ev10 h
            refine lv_istore (lv' := [(5, .int v10), (0, .ref (G.2.2.2 + o)), (1, .int a1), (2, .int a2), (3, .int x3), (4, .int x4), (6, .int x6)]) hx hb dX12_stockOf_71 hl (by decide) rfl (fun ls hl => ?_)
            refine lv_iinc (v := (x6 + (nI 1))) (lv' := [(6, .int ((x6 + (nI 1)))), (5, .int v10), (0, .ref (G.2.2.2 + o)), (1, .int a1), (2, .int a2), (3, .int x3), (4, .int x4)]) hx hb dX12_stockOf_73 hl (k := 6) rfl rfl (by decide) rfl (fun ls hl => ?_)
            refine lv_goto (tgt := 25) hx hb dX12_stockOf_76 (by decide) ?_
            exact ih25 st x3 x4 v10 (x6 + (nI 1)) _ _ _ h hW hS (lv_sub hl [2, 3, 4, 5, 6, 1, 0] rfl)
          intro st x3 x4 x5 x6 H locs ls h hW hS hl
          unfold f_X12_stockOf_25 at h
          refine lv_iload hx hb dX12_stockOf_25 (lv_at hl 6 rfl) ?_
          refine lv_aload_n hx hb dX12_stockOf_27 rfl (lv_at hl 0 rfl) ?_
          obtain ⟨t2, h⟩ := zc_at h
          obtain ⟨b3, hb3, h⟩ := zd_at h
          refine z_gR hx hb hq hown hK hW fs_RX12_9 t2 hb3 dX12_stockOf_28 ?_
          refine lv_iconst (v := (nI 4)) hx hb dX12_stockOf_31 (by decide) ?_
          obtain ⟨t4, h⟩ := zc_at h
          obtain ⟨t5, h⟩ := zc_at h
          refine z_alI hx hb hK hW (List.mem_singleton.mp t4) t5 dX12_stockOf_32 ?_
          refine z_br (lv_icmp_ge (tgt := 79) hx hb dX12_stockOf_33 (by decide)) h (fun h => ?_) (fun h => ?_)
          · refine lv_iload hx hb dX12_stockOf_79 (lv_at hl 5 rfl) ?_
            refine lv_aload_n hx hb dX12_stockOf_81 rfl (lv_at hl 0 rfl) ?_
            refine z_gI hx hb hq hown hK hW fs_RX12_214 t2 dX12_stockOf_82 ?_
            refine z_br (lv_icmp_ge (tgt := 93) hx hb dX12_stockOf_85 (by decide)) h (fun h => ?_) (fun h => ?_)
            · refine lv_iload_n hx hb dX12_stockOf_93 rfl (lv_at hl 3 rfl) ?_
              exact B94 st x4 x5 x3 _ _ _ h hW hS (lv_sub hl [0, 1, 2, 4, 5] rfl)
            · refine lv_iload hx hb dX12_stockOf_88 (lv_at hl 4 rfl) ?_
              refine lv_goto (tgt := 94) hx hb dX12_stockOf_90 (by decide) ?_
              exact B94 st x4 x5 x4 _ _ _ h hW hS (lv_sub hl [0, 1, 2, 4, 5] rfl)
          · refine lv_iload hx hb dX12_stockOf_36 (lv_at hl 4 rfl) ?_
            refine lv_aload_n hx hb dX12_stockOf_38 rfl (lv_at hl 0 rfl) ?_
            refine z_gR hx hb hq hown hK hW fs_RX12_9 t2 hb3 dX12_stockOf_39 ?_
            refine lv_bipush (v := (nI 104)) hx hb dX12_stockOf_42 (by decide) ?_
            refine lv_iload hx hb dX12_stockOf_44 (lv_at hl 6 rfl) ?_
            refine lv_iadd hx hb dX12_stockOf_46 ?_
            obtain ⟨t8, h⟩ := zc_at h
            refine z_alI hx hb hK hW (List.mem_singleton.mp t4) t8 dX12_stockOf_47 ?_
            refine lv_isub hx hb dX12_stockOf_48 ?_
            refine lv_topi (fun v9 ev9 => ?_)
            have h := zl_at ev9 h
            refine lv_istore (lv' := [(7, .int v9), (0, .ref (G.2.2.2 + o)), (1, .int a1), (2, .int a2), (3, .int x3), (4, .int x4), (5, .int x5), (6, .int x6)]) hx hb dX12_stockOf_49 hl (by decide) rfl (fun ls hl => ?_)
            refine lv_iload hx hb dX12_stockOf_51 (lv_at hl 6 rfl) ?_
            refine lv_iload hx hb dX12_stockOf_53 (lv_at hl 0 rfl) ?_
            refine z_br (lv_if_le (tgt := 65) hx hb dX12_stockOf_55 (by decide)) h (fun h => ?_) (fun h => ?_)
            · refine lv_iload_n hx hb dX12_stockOf_65 rfl (lv_at hl 3 rfl) ?_
              refine lv_ineg hx hb dX12_stockOf_66 ?_
              refine lv_iload hx hb dX12_stockOf_67 (lv_at hl 0 rfl) ?_
              refine lv_imul hx hb dX12_stockOf_69 ?_
              exact B70 st x3 x4 x6 ((-a2) * v9) x5 _ _ _ h hW hS (lv_sub hl [1, 2, 3, 4, 5, 7] rfl)
            · refine lv_iload_n hx hb dX12_stockOf_58 rfl (lv_at hl 2 rfl) ?_
              refine lv_iload hx hb dX12_stockOf_59 (lv_at hl 0 rfl) ?_
              refine lv_imul hx hb dX12_stockOf_61 ?_
              refine lv_goto (tgt := 70) hx hb dX12_stockOf_62 (by decide) ?_
              exact B70 st x3 x4 x6 (a1 * v9) x5 _ _ _ h hW hS (lv_sub hl [1, 2, 3, 4, 5, 7] rfl)
      intro st x3 x4 H locs ls h hW hS hl
      unfold f_X12_stockOf_12 at h
      refine lv_iload hx hb dX12_stockOf_12 (lv_at hl 4 rfl) ?_
      refine lv_bipush (v := (nI 40)) hx hb dX12_stockOf_14 (by decide) ?_
      refine z_br (lv_icmp_gt (tgt := 123) hx hb dX12_stockOf_16 (by decide)) h (fun h => ?_) (fun h => ?_)
      · refine lv_iload_n hx hb dX12_stockOf_123 rfl (lv_at hl 3 rfl) ?_
        obtain ⟨rfl, rfl⟩ := Prod.mk.inj (Option.some.inj h)
        exact z_ri hx hb hr hlk hW hS (Nat.le_of_ble_eq_true rfl) (Nat.le_of_ble_eq_true rfl) dX12_stockOf_124
      · refine lv_iconst (v := (nI 0)) hx hb dX12_stockOf_19 (by decide) ?_
        refine lv_istore (lv' := [(5, .int ((nI 0))), (0, .ref (G.2.2.2 + o)), (1, .int a1), (2, .int a2), (3, .int x3), (4, .int x4)]) hx hb dX12_stockOf_20 hl (by decide) rfl (fun ls hl => ?_)
        refine lv_iconst (v := (nI 0)) hx hb dX12_stockOf_22 (by decide) ?_
        refine lv_istore (lv' := [(6, .int ((nI 0))), (5, .int ((nI 0))), (0, .ref (G.2.2.2 + o)), (1, .int a1), (2, .int a2), (3, .int x3), (4, .int x4)]) hx hb dX12_stockOf_23 hl (by decide) rfl (fun ls hl => ?_)
        exact B25 N st x3 x4 (nI 0) (nI 0) _ _ _ h hW hS (lv_sub hl [2, 3, 4, 5, 6, 1, 0] rfl)
  refine lv_bipush (v := (-5)) hx hb dX12_stockOf_0 (by decide) ?_
  refine lv_istore_n (lv' := [(3, .int ((-5))), (0, .ref (G.2.2.2 + o)), (1, .int a1), (2, .int a2)]) hx hb dX12_stockOf_2 rfl hl (by decide) rfl (fun ls hl => ?_)
  refine lv_aload_n hx hb dX12_stockOf_3 rfl (lv_at hl 1 rfl) ?_
  refine lv_ldc (v := (nI 1000000)) hx hb hown (hq _ (zi zm824)) dX12_stockOf_4 ?_
  obtain ⟨t1, h⟩ := zc_at h
  refine z_pI hx hb hq hown hK hW hS fp_RX12_214 t1 (fun h => by cases h) rfl rfl dX12_stockOf_6 (fun H locs hW hS => ?_)
  refine lv_iconst (v := (nI 0)) hx hb dX12_stockOf_9 (by decide) ?_
  refine lv_istore (lv' := [(4, .int ((nI 0))), (3, .int ((-5))), (0, .ref (G.2.2.2 + o)), (1, .int a1), (2, .int a2)]) hx hb dX12_stockOf_10 hl (by decide) rfl (fun ls hl => ?_)
  exact B12 N (zPM st o 18 (nI 1000000)) (-5 : Int32) (nI 0) _ _ _ h hW hS (lv_sub hl [2, 3, 4, 1, 0] rfl)
def f_X12_stock (N : Nat) (st : zS) (o : Nat) (a1 : Int32) (a2 : Int32) : Option (zS × Int32) := (Option.bind (f_X12_in a1 (nI 0) (nI 99)) (fun r2 => (if r2 = 0 then (some (st, (-2 : Int32))) else (Option.bind (f_X12_in a2 (nI 0) (nI 99)) (fun r4 => (if r4 = 0 then (some (st, (-2 : Int32))) else (if zTg st o ∈ [22] then (Option.bind (zR st o 1) (fun b6 => (if zTg st b6 ∈ [1] then (if zin (nI 4) (zLn st b6) then (if (zM st b6 ((nI 4)).toNatClampNeg) = 0 then (some (st, (-5 : Int32))) else (zb (f_X12_stockOf N st o a1 a2) (fun st10 r11 => (some (st10, r11))))) else none) else none))) else none)))))))
set_option maxHeartbeats 1000000 in
set_option maxRecDepth 100000 in
theorem c_X12_stock (l : Launch) (G : zG) (N : Nat) (st : zS) (o : Nat) (a1 : Int32) (a2 : Int32) {st' : zS} {r : Int32} (h : f_X12_stock N st o a1 a2 = some (st', r)) : zMet l G yX12_stock cX12_stock 3 (some .int) 1 0 0 [.ref (G.2.2.2 + o), .int a1, .int a2] st (some (.int r)) st' := by
  refine zMet_of (by decide +kernel) ?_
  intro p e s m args below meth c X
  obtain ⟨hx, hb, hr, hml, hown, hq, hlk, hK, -, hin, hW, hS⟩ := X
  have hown : s.vm.findClass RX12 = some m.cls := hown
  refine z_ent (by exact Nat.le_of_ble_eq_true rfl) (fun ls hl => ?_)
  have hl : lv_has ls 3 [(0, .ref (G.2.2.2 + o)), (1, .int a1), (2, .int a2)] := hl
  unfold f_X12_stock at h
  refine lv_iload_n hx hb dX12_stock_0 rfl (lv_at hl 1 rfl) ?_
  refine lv_iconst (v := (nI 0)) hx hb dX12_stock_1 (by decide) ?_
  refine lv_bipush (v := (nI 99)) hx hb dX12_stock_2 (by decide) ?_
  obtain ⟨r2, c1, h⟩ := zd_at h
  refine z_cS hx hb hq hml hown hK hW hS [.int a1, .int ((nI 0)), .int ((nI 99))] [] (c_X12_in l G st a1 (nI 0) (nI 99) c1) (zi zm90) (zi zm91) (zi zm5) (zi zm92) cal_X12_in rfl hl.1 rfl (Nat.le_of_ble_eq_true rfl) (zR_ok (by omega) (by decide)) ⟨(Nat.le_of_ble_eq_true rfl), (Nat.le_of_ble_eq_true rfl)⟩ dX12_stock_4 (fun H locs hW hS => ?_)
  refine W.eq (g2 := F0 m 7 ls [.int r2]) rfl ?_
  refine z_br (lv_if_eq (tgt := 20) hx hb dX12_stock_7 (by decide)) h (fun h => ?_) (fun h => ?_)
  · refine lv_bipush (v := (-2)) hx hb dX12_stock_20 (by decide) ?_
    obtain ⟨rfl, rfl⟩ := Prod.mk.inj (Option.some.inj h)
    exact z_ri hx hb hr hlk hW hS (Nat.le_of_ble_eq_true rfl) (Nat.le_of_ble_eq_true rfl) dX12_stock_22
  · refine lv_iload_n hx hb dX12_stock_10 rfl (lv_at hl 2 rfl) ?_
    refine lv_iconst (v := (nI 0)) hx hb dX12_stock_11 (by decide) ?_
    refine lv_bipush (v := (nI 99)) hx hb dX12_stock_12 (by decide) ?_
    obtain ⟨r4, c3, h⟩ := zd_at h
    refine z_cS hx hb hq hml hown hK hW hS [.int a2, .int ((nI 0)), .int ((nI 99))] [] (c_X12_in l G st a2 (nI 0) (nI 99) c3) (zi zm90) (zi zm91) (zi zm5) (zi zm92) cal_X12_in rfl hl.1 rfl (Nat.le_of_ble_eq_true rfl) (zR_ok (by omega) (by decide)) ⟨(Nat.le_of_ble_eq_true rfl), (Nat.le_of_ble_eq_true rfl)⟩ dX12_stock_14 (fun H locs hW hS => ?_)
    refine W.eq (g2 := F0 m 17 ls [.int r4]) rfl ?_
    refine z_brn (lv_if_ne (tgt := 23) hx hb dX12_stock_17 (by decide)) h (fun h => ?_) (fun h => ?_)
    · refine lv_aload_n hx hb dX12_stock_23 rfl (lv_at hl 0 rfl) ?_
      obtain ⟨t5, h⟩ := zc_at h
      obtain ⟨b6, hb6, h⟩ := zd_at h
      refine z_gR hx hb hq hown hK hW fs_RX12_9 t5 hb6 dX12_stock_24 ?_
      refine lv_iconst (v := (nI 4)) hx hb dX12_stock_27 (by decide) ?_
      obtain ⟨t7, h⟩ := zc_at h
      obtain ⟨t8, h⟩ := zc_at h
      refine z_alI hx hb hK hW (List.mem_singleton.mp t7) t8 dX12_stock_28 ?_
      refine z_brn (lv_if_ne (tgt := 37) hx hb dX12_stock_29 (by decide)) h (fun h => ?_) (fun h => ?_)
      · refine lv_aload_n hx hb dX12_stock_37 rfl (lv_at hl 0 rfl) ?_
        refine lv_iload_n hx hb dX12_stock_38 rfl (lv_at hl 1 rfl) ?_
        refine lv_iload_n hx hb dX12_stock_39 rfl (lv_at hl 2 rfl) ?_
        obtain ⟨st10, r11, c9, h⟩ := zb_at h
        refine z_cV hx hb hq hml hown hK hW hS 12 [.int a1, .int a2] [] rfl (List.mem_singleton.mp t5) (c_X12_stockOf l G N st o a1 a2 c9) (zi zm915) (zi zm916) (zi zm917) (zi zm5) (zi zm918) cal_X12_stockOf rfl rfl hl.1 rfl (Nat.le_of_ble_eq_true rfl) (zR_ok (by omega) (by decide)) ⟨(Nat.le_of_ble_eq_true rfl), (Nat.le_of_ble_eq_true rfl)⟩ dX12_stock_40 (fun H locs hW hS => ?_)
        refine W.eq (g2 := F0 m 43 ls [.int r11]) rfl ?_
        obtain ⟨rfl, rfl⟩ := Prod.mk.inj (Option.some.inj h)
        exact z_ri hx hb hr hlk hW hS (Nat.le_of_ble_eq_true rfl) (Nat.le_of_ble_eq_true rfl) dX12_stock_43
      · refine lv_bipush (v := (-5)) hx hb dX12_stock_32 (by decide) ?_
        refine lv_goto (tgt := 43) hx hb dX12_stock_34 (by decide) ?_
        obtain ⟨rfl, rfl⟩ := Prod.mk.inj (Option.some.inj h)
        exact z_ri hx hb hr hlk hW hS (Nat.le_of_ble_eq_true rfl) (Nat.le_of_ble_eq_true rfl) dX12_stock_43
    · refine lv_bipush (v := (-2)) hx hb dX12_stock_20 (by decide) ?_
      obtain ⟨rfl, rfl⟩ := Prod.mk.inj (Option.some.inj h)
      exact z_ri hx hb hr hlk hW hS (Nat.le_of_ble_eq_true rfl) (Nat.le_of_ble_eq_true rfl) dX12_stock_22
def f_X12_mean (N : Nat) (st : zS) (o : Nat) (a1 : Int32) (a2 : Int32) (a3 : Int32) : Option (zS × Int64) := (Option.bind (f_X12_in a1 (nI 0) (nI 99)) (fun r2 => (if r2 = 0 then (some (st, (-9223372036854775808 : Int64))) else (Option.bind (f_X12_in a2 (nI 0) (nI 99)) (fun r4 => (if r4 = 0 then (some (st, (-9223372036854775808 : Int64))) else (Option.bind (f_X12_in a3 (nI 0) (nI 1)) (fun r6 => (if r6 = 0 then (some (st, (-9223372036854775808 : Int64))) else (if zTg st o ∈ [22] then (Option.bind (zR st o 1) (fun b8 => (if zTg st b8 ∈ [1] then (if zin (nI 4) (zLn st b8) then (if (zM st b8 ((nI 4)).toNatClampNeg) = 0 then (some (st, (-9223372036854775808 : Int64))) else (zb (f_X12_stockOf N st o a1 a2) (fun st12 r13 => (if zTg st12 o ∈ [22] then (Option.bind (zR st12 o 1) (fun b15 => (if zTg st12 b15 ∈ [1] then (if zin (nI 4) (zLn st12 b15) then (Option.bind (f_X12_lowest N (((zM st12 o 18)).toInt64) (((zM st12 b15 ((nI 4)).toNatClampNeg)).toInt64) a3) (fun r19 => (some (st12, r19)))) else none) else none))) else none)))) else none) else none))) else none))))))))))
set_option maxHeartbeats 1000000 in
set_option maxRecDepth 100000 in
theorem c_X12_mean (l : Launch) (G : zG) (N : Nat) (st : zS) (o : Nat) (a1 : Int32) (a2 : Int32) (a3 : Int32) {st' : zS} {r : Int64} (h : f_X12_mean N st o a1 a2 a3 = some (st', r)) : zMet l G yX12_mean cX12_mean 4 (some .long) 1 0 0 [.ref (G.2.2.2 + o), .int a1, .int a2, .int a3] st (some (.long r)) st' := by
  refine zMet_of (by decide +kernel) ?_
  intro p e s m args below meth c X
  obtain ⟨hx, hb, hr, hml, hown, hq, hlk, hK, -, hin, hW, hS⟩ := X
  have hown : s.vm.findClass RX12 = some m.cls := hown
  refine z_ent (by exact Nat.le_of_ble_eq_true rfl) (fun ls hl => ?_)
  have hl : lv_has ls 4 [(0, .ref (G.2.2.2 + o)), (1, .int a1), (2, .int a2), (3, .int a3)] := hl
  unfold f_X12_mean at h
  refine lv_iload_n hx hb dX12_mean_0 rfl (lv_at hl 1 rfl) ?_
  refine lv_iconst (v := (nI 0)) hx hb dX12_mean_1 (by decide) ?_
  refine lv_bipush (v := (nI 99)) hx hb dX12_mean_2 (by decide) ?_
  obtain ⟨r2, c1, h⟩ := zd_at h
  refine z_cS hx hb hq hml hown hK hW hS [.int a1, .int ((nI 0)), .int ((nI 99))] [] (c_X12_in l G st a1 (nI 0) (nI 99) c1) (zi zm90) (zi zm91) (zi zm5) (zi zm92) cal_X12_in rfl hl.1 rfl (Nat.le_of_ble_eq_true rfl) (zR_ok (by omega) (by decide)) ⟨(Nat.le_of_ble_eq_true rfl), (Nat.le_of_ble_eq_true rfl)⟩ dX12_mean_4 (fun H locs hW hS => ?_)
  refine W.eq (g2 := F0 m 7 ls [.int r2]) rfl ?_
  refine z_br (lv_if_eq (tgt := 38) hx hb dX12_mean_7 (by decide)) h (fun h => ?_) (fun h => ?_)
  · refine lv_ldc2 (v := (-9223372036854775808)) hx hb hown (hq _ (zi zm740)) dX12_mean_38 ?_
    obtain ⟨rfl, rfl⟩ := Prod.mk.inj (Option.some.inj h)
    exact z_rl hx hb hr hlk hW hS (Nat.le_of_ble_eq_true rfl) (Nat.le_of_ble_eq_true rfl) dX12_mean_41
  · refine lv_iload_n hx hb dX12_mean_10 rfl (lv_at hl 2 rfl) ?_
    refine lv_iconst (v := (nI 0)) hx hb dX12_mean_11 (by decide) ?_
    refine lv_bipush (v := (nI 99)) hx hb dX12_mean_12 (by decide) ?_
    obtain ⟨r4, c3, h⟩ := zd_at h
    refine z_cS hx hb hq hml hown hK hW hS [.int a2, .int ((nI 0)), .int ((nI 99))] [] (c_X12_in l G st a2 (nI 0) (nI 99) c3) (zi zm90) (zi zm91) (zi zm5) (zi zm92) cal_X12_in rfl hl.1 rfl (Nat.le_of_ble_eq_true rfl) (zR_ok (by omega) (by decide)) ⟨(Nat.le_of_ble_eq_true rfl), (Nat.le_of_ble_eq_true rfl)⟩ dX12_mean_14 (fun H locs hW hS => ?_)
    refine W.eq (g2 := F0 m 17 ls [.int r4]) rfl ?_
    refine z_br (lv_if_eq (tgt := 38) hx hb dX12_mean_17 (by decide)) h (fun h => ?_) (fun h => ?_)
    · refine lv_ldc2 (v := (-9223372036854775808)) hx hb hown (hq _ (zi zm740)) dX12_mean_38 ?_
      obtain ⟨rfl, rfl⟩ := Prod.mk.inj (Option.some.inj h)
      exact z_rl hx hb hr hlk hW hS (Nat.le_of_ble_eq_true rfl) (Nat.le_of_ble_eq_true rfl) dX12_mean_41
    · refine lv_iload_n hx hb dX12_mean_20 rfl (lv_at hl 3 rfl) ?_
      refine lv_iconst (v := (nI 0)) hx hb dX12_mean_21 (by decide) ?_
      refine lv_iconst (v := (nI 1)) hx hb dX12_mean_22 (by decide) ?_
      obtain ⟨r6, c5, h⟩ := zd_at h
      refine z_cS hx hb hq hml hown hK hW hS [.int a3, .int ((nI 0)), .int ((nI 1))] [] (c_X12_in l G st a3 (nI 0) (nI 1) c5) (zi zm90) (zi zm91) (zi zm5) (zi zm92) cal_X12_in rfl hl.1 rfl (Nat.le_of_ble_eq_true rfl) (zR_ok (by omega) (by decide)) ⟨(Nat.le_of_ble_eq_true rfl), (Nat.le_of_ble_eq_true rfl)⟩ dX12_mean_23 (fun H locs hW hS => ?_)
      refine W.eq (g2 := F0 m 26 ls [.int r6]) rfl ?_
      refine z_br (lv_if_eq (tgt := 38) hx hb dX12_mean_26 (by decide)) h (fun h => ?_) (fun h => ?_)
      · refine lv_ldc2 (v := (-9223372036854775808)) hx hb hown (hq _ (zi zm740)) dX12_mean_38 ?_
        obtain ⟨rfl, rfl⟩ := Prod.mk.inj (Option.some.inj h)
        exact z_rl hx hb hr hlk hW hS (Nat.le_of_ble_eq_true rfl) (Nat.le_of_ble_eq_true rfl) dX12_mean_41
      · refine lv_aload_n hx hb dX12_mean_29 rfl (lv_at hl 0 rfl) ?_
        obtain ⟨t7, h⟩ := zc_at h
        obtain ⟨b8, hb8, h⟩ := zd_at h
        refine z_gR hx hb hq hown hK hW fs_RX12_9 t7 hb8 dX12_mean_30 ?_
        refine lv_iconst (v := (nI 4)) hx hb dX12_mean_33 (by decide) ?_
        obtain ⟨t9, h⟩ := zc_at h
        obtain ⟨t10, h⟩ := zc_at h
        refine z_alI hx hb hK hW (List.mem_singleton.mp t9) t10 dX12_mean_34 ?_
        refine z_brn (lv_if_ne (tgt := 42) hx hb dX12_mean_35 (by decide)) h (fun h => ?_) (fun h => ?_)
        · refine lv_aload_n hx hb dX12_mean_42 rfl (lv_at hl 0 rfl) ?_
          refine lv_iload_n hx hb dX12_mean_43 rfl (lv_at hl 1 rfl) ?_
          refine lv_iload_n hx hb dX12_mean_44 rfl (lv_at hl 2 rfl) ?_
          obtain ⟨st12, r13, c11, h⟩ := zb_at h
          refine z_cV hx hb hq hml hown hK hW hS 12 [.int a1, .int a2] [] rfl (List.mem_singleton.mp t7) (c_X12_stockOf l G N st o a1 a2 c11) (zi zm915) (zi zm916) (zi zm917) (zi zm5) (zi zm918) cal_X12_stockOf rfl rfl hl.1 rfl (Nat.le_of_ble_eq_true rfl) (zR_ok (by omega) (by decide)) ⟨(Nat.le_of_ble_eq_true rfl), (Nat.le_of_ble_eq_true rfl)⟩ dX12_mean_45 (fun H locs hW hS => ?_)
          refine W.eq (g2 := F0 m 48 ls [.int r13]) rfl ?_
          refine lv_pop hx hb dX12_mean_48 rfl ?_
          refine lv_aload_n hx hb dX12_mean_49 rfl (lv_at hl 0 rfl) ?_
          obtain ⟨t14, h⟩ := zc_at h
          refine z_gI hx hb hq hown hK hW fs_RX12_214 t14 dX12_mean_50 ?_
          refine lv_i2l (v := ((zM st12 o 18)).toInt64) hx hb dX12_mean_53 rfl ?_
          refine lv_aload_n hx hb dX12_mean_54 rfl (lv_at hl 0 rfl) ?_
          obtain ⟨b15, hb15, h⟩ := zd_at h
          refine z_gR hx hb hq hown hK hW fs_RX12_9 t14 hb15 dX12_mean_55 ?_
          refine lv_iconst (v := (nI 4)) hx hb dX12_mean_58 (by decide) ?_
          obtain ⟨t16, h⟩ := zc_at h
          obtain ⟨t17, h⟩ := zc_at h
          refine z_alI hx hb hK hW (List.mem_singleton.mp t16) t17 dX12_mean_59 ?_
          refine lv_i2l (v := ((zM st12 b15 ((nI 4)).toNatClampNeg)).toInt64) hx hb dX12_mean_60 rfl ?_
          refine lv_iload_n hx hb dX12_mean_61 rfl (lv_at hl 3 rfl) ?_
          obtain ⟨r19, c18, h⟩ := zd_at h
          refine z_cS hx hb hq hml hown hK hW hS [.long (((zM st12 o 18)).toInt64), .long (((zM st12 b15 ((nI 4)).toNatClampNeg)).toInt64), .int a3] [] (c_X12_lowest l G N st12 (((zM st12 o 18)).toInt64) (((zM st12 b15 ((nI 4)).toNatClampNeg)).toInt64) a3 c18) (zi zm758) (zi zm759) (zi zm5) (zi zm760) cal_X12_lowest rfl hl.1 rfl (Nat.le_of_ble_eq_true rfl) (zR_ok (by omega) (by decide)) ⟨(Nat.le_of_ble_eq_true rfl), (Nat.le_of_ble_eq_true rfl)⟩ dX12_mean_62 (fun H locs hW hS => ?_)
          refine W.eq (g2 := F0 m 65 ls [.long (r19)]) rfl ?_
          obtain ⟨rfl, rfl⟩ := Prod.mk.inj (Option.some.inj h)
          exact z_rl hx hb hr hlk hW hS (Nat.le_of_ble_eq_true rfl) (Nat.le_of_ble_eq_true rfl) dX12_mean_65
        · refine lv_ldc2 (v := (-9223372036854775808)) hx hb hown (hq _ (zi zm740)) dX12_mean_38 ?_
          obtain ⟨rfl, rfl⟩ := Prod.mk.inj (Option.some.inj h)
          exact z_rl hx hb hr hlk hW hS (Nat.le_of_ble_eq_true rfl) (Nat.le_of_ble_eq_true rfl) dX12_mean_41
def f_X12_isPaid (a0 : Int32) : Option Int32 := (Option.bind (f_X12_in a0 (-99 : Int32) (nI 99)) (fun r2 => (if zB r2 then (some r2) else none)))
set_option maxHeartbeats 1000000 in
set_option maxRecDepth 100000 in
theorem c_X12_isPaid (l : Launch) (G : zG) (st : zS) (a0 : Int32) {r : Int32} (h : f_X12_isPaid a0 = some r) : zMet l G yX12_isPaid cX12_isPaid 1 (some .boolean) 1 0 0 [.int a0] st (some (.int r)) st := by
  refine zMet_of (by decide +kernel) ?_
  intro p e s m args below meth c X
  obtain ⟨hx, hb, hr, hml, hown, hq, hlk, hK, -, hin, hW, hS⟩ := X
  have hown : s.vm.findClass RX12 = some m.cls := hown
  refine z_ent (by exact Nat.le_of_ble_eq_true rfl) (fun ls hl => ?_)
  have hl : lv_has ls 1 [(0, .int a0)] := hl
  unfold f_X12_isPaid at h
  refine lv_iload_n hx hb dX12_isPaid_0 rfl (lv_at hl 0 rfl) ?_
  refine lv_bipush (v := (-99)) hx hb dX12_isPaid_1 (by decide) ?_
  refine lv_bipush (v := (nI 99)) hx hb dX12_isPaid_3 (by decide) ?_
  obtain ⟨r2, c1, h⟩ := zd_at h
  refine z_cS hx hb hq hml hown hK hW hS [.int a0, .int ((-99)), .int ((nI 99))] [] (c_X12_in l G st a0 (-99 : Int32) (nI 99) c1) (zi zm90) (zi zm91) (zi zm5) (zi zm92) cal_X12_in rfl hl.1 rfl (Nat.le_of_ble_eq_true rfl) (zR_ok (by omega) (by decide)) ⟨(Nat.le_of_ble_eq_true rfl), (Nat.le_of_ble_eq_true rfl)⟩ dX12_isPaid_5 (fun H locs hW hS => ?_)
  refine W.eq (g2 := F0 m 8 ls [.int r2]) rfl ?_
  obtain ⟨t3, h⟩ := zc_at h
  obtain rfl := Option.some.inj h
  exact z_rz hx hb hr hlk (zB_n t3) hW hS (Nat.le_of_ble_eq_true rfl) (Nat.le_of_ble_eq_true rfl) dX12_isPaid_8
def f_X12_table_125 (N : Nat) (o : Nat) (a1 : Int32) (a2 : Int32) (a3 : Int32) (a4 : Int32) (a5 : Int32)  (x8 : Int32) (y0 : Int32) : Option Int64 := (if x8 = y0 then (if a5 = 0 then (some (x8).toInt64) else (some (lN 1))) else (zl (((a1).toInt64 * (a4).toInt64) - ((a2).toInt64 * (a3).toInt64)) (fun v11 => (zl ((((a1 + a4) - a2) - a3)).toInt64 (fun v12 => (if 0 ≤ (lg_cmp v12 (lN 0)) then (Option.bind (f_X12_lowest N v11 v12 a5) (fun r14 => (some r14))) else (Option.bind (f_X12_lowest N (-v11) (-v12) a5) (fun r16 => (some r16)))))))))
def f_X12_table_109 (N : Nat) (o : Nat) (a1 : Int32) (a2 : Int32) (a3 : Int32) (a4 : Int32) (a5 : Int32)  (x8 : Int32) (x9 : Int32) (y0 : Int32) : Option Int64 := (if y0 ≤ x9 then (f_X12_table_125 N o a1 a2 a3 a4 a5 x8 y0) else (f_X12_table_125 N o a1 a2 a3 a4 a5 x8 x9))
def f_X12_table_95 (N : Nat) (o : Nat) (a1 : Int32) (a2 : Int32) (a3 : Int32) (a4 : Int32) (a5 : Int32)  (x8 : Int32) (y0 : Int32) : Option Int64 := (if a2 ≤ a4 then (f_X12_table_109 N o a1 a2 a3 a4 a5 x8 y0 a4) else (f_X12_table_109 N o a1 a2 a3 a4 a5 x8 y0 a2))
def f_X12_table_83 (N : Nat) (o : Nat) (a1 : Int32) (a2 : Int32) (a3 : Int32) (a4 : Int32) (a5 : Int32)  (y0 : Int32) : Option Int64 := (if a1 ≤ a3 then (f_X12_table_95 N o a1 a2 a3 a4 a5 y0 a3) else (f_X12_table_95 N o a1 a2 a3 a4 a5 y0 a1))
def f_X12_table_67 (N : Nat) (o : Nat) (a1 : Int32) (a2 : Int32) (a3 : Int32) (a4 : Int32) (a5 : Int32)  (x6 : Int32) (y0 : Int32) : Option Int64 := (if x6 ≤ y0 then (f_X12_table_83 N o a1 a2 a3 a4 a5 y0) else (f_X12_table_83 N o a1 a2 a3 a4 a5 x6))
def f_X12_table_53 (N : Nat) (o : Nat) (a1 : Int32) (a2 : Int32) (a3 : Int32) (a4 : Int32) (a5 : Int32)  (y0 : Int32) : Option Int64 := (if a4 ≤ a3 then (f_X12_table_67 N o a1 a2 a3 a4 a5 y0 a4) else (f_X12_table_67 N o a1 a2 a3 a4 a5 y0 a3))
def f_X12_table (N : Nat) (o : Nat) (a1 : Int32) (a2 : Int32) (a3 : Int32) (a4 : Int32) (a5 : Int32) : Option Int64 := (Option.bind (f_X12_isPaid a1) (fun r2 => (if r2 = 0 then (some (-9223372036854775808 : Int64)) else (Option.bind (f_X12_isPaid a2) (fun r4 => (if r4 = 0 then (some (-9223372036854775808 : Int64)) else (Option.bind (f_X12_isPaid a3) (fun r6 => (if r6 = 0 then (some (-9223372036854775808 : Int64)) else (Option.bind (f_X12_isPaid a4) (fun r8 => (if r8 = 0 then (some (-9223372036854775808 : Int64)) else (Option.bind (f_X12_in a5 (nI 0) (nI 1)) (fun r10 => (if r10 = 0 then (some (-9223372036854775808 : Int64)) else (if a2 ≤ a1 then (f_X12_table_53 N o a1 a2 a3 a4 a5 a2) else (f_X12_table_53 N o a1 a2 a3 a4 a5 a1)))))))))))))))))
set_option maxHeartbeats 1000000 in
set_option maxRecDepth 100000 in
theorem c_X12_table (l : Launch) (G : zG) (N : Nat) (st : zS) (o : Nat) (a1 : Int32) (a2 : Int32) (a3 : Int32) (a4 : Int32) (a5 : Int32) {r : Int64} (h : f_X12_table N o a1 a2 a3 a4 a5 = some r) : zMet l G yX12_table cX12_table 16 (some .long) 2 0 0 [.ref (G.2.2.2 + o), .int a1, .int a2, .int a3, .int a4, .int a5] st (some (.long r)) st := by
  refine zMet_of (by decide +kernel) ?_
  intro p e s m args below meth c X
  obtain ⟨hx, hb, hr, hml, hown, hq, hlk, hK, -, hin, hW, hS⟩ := X
  have hown : s.vm.findClass RX12 = some m.cls := hown
  refine z_ent (by exact Nat.le_of_ble_eq_true rfl) (fun ls hl => ?_)
  have hl : lv_has ls 16 [(0, .ref (G.2.2.2 + o)), (1, .int a1), (2, .int a2), (3, .int a3), (4, .int a4), (5, .int a5)] := hl
  unfold f_X12_table at h
  have B125 : ∀ (x8 : Int32) (y0 : Int32) (H : Heap) (locs : List Loc) (ls : Array Slot), f_X12_table_125 N o a1 a2 a3 a4 a5 x8 y0 = some r → zWd G st H → va_S (zA G) s.heap H locs → lv_has ls 16 [(1, .int a1), (2, .int a2), (3, .int a3), (4, .int a4), (5, .int a5), (8, .int x8)] → W p l e (zRm 2 0 0) s m args below meth c H locs 0 0 (MQ below (zQ G (some (.long r)) st) args s 0 0 (zA G)) (F0 m 125 ls [.int y0]) := by
    intro x8 y0 H locs ls h hW hS hl
    unfold f_X12_table_125 at h
    refine lv_istore (lv' := [(11, .int y0), (1, .int a1), (2, .int a2), (3, .int a3), (4, .int a4), (5, .int a5), (8, .int x8)]) hx hb dX12_table_125 hl (by decide) rfl (fun ls hl => ?_)
    refine lv_iload hx hb dX12_table_127 (lv_at hl 6 rfl) ?_
    refine lv_iload hx hb dX12_table_129 (lv_at hl 0 rfl) ?_
    refine z_brn (lv_icmp_ne (tgt := 147) hx hb dX12_table_131 (by decide)) h (fun h => ?_) (fun h => ?_)
    · refine lv_iload_n hx hb dX12_table_147 rfl (lv_at hl 1 rfl) ?_
      refine lv_i2l (v := (a1).toInt64) hx hb dX12_table_148 rfl ?_
      refine lv_iload hx hb dX12_table_149 (lv_at hl 4 rfl) ?_
      refine lv_i2l (v := (a4).toInt64) hx hb dX12_table_151 rfl ?_
      refine lv_lmul hx hb dX12_table_152 ?_
      refine lv_iload_n hx hb dX12_table_153 rfl (lv_at hl 2 rfl) ?_
      refine lv_i2l (v := (a2).toInt64) hx hb dX12_table_154 rfl ?_
      refine lv_iload_n hx hb dX12_table_155 rfl (lv_at hl 3 rfl) ?_
      refine lv_i2l (v := (a3).toInt64) hx hb dX12_table_156 rfl ?_
      refine lv_lmul hx hb dX12_table_157 ?_
      refine lv_lsub hx hb dX12_table_158 ?_
      refine lv_topl (fun v11 ev11 => ?_)
      have h := zl_at ev11 h
      refine lv_lstore (lv' := [(12, .long (v11)), (11, .int y0), (1, .int a1), (2, .int a2), (3, .int a3), (4, .int a4), (5, .int a5), (8, .int x8)]) hx hb dX12_table_159 hl (by decide) rfl (fun ls hl => ?_)
      refine lv_iload_n hx hb dX12_table_161 rfl (lv_at hl 2 rfl) ?_
      refine lv_iload hx hb dX12_table_162 (lv_at hl 5 rfl) ?_
      refine lv_iadd hx hb dX12_table_164 ?_
      refine lv_iload_n hx hb dX12_table_165 rfl (lv_at hl 3 rfl) ?_
      refine lv_isub hx hb dX12_table_166 ?_
      refine lv_iload_n hx hb dX12_table_167 rfl (lv_at hl 4 rfl) ?_
      refine lv_isub hx hb dX12_table_168 ?_
      refine lv_i2l (v := ((((a1 + a4) - a2) - a3)).toInt64) hx hb dX12_table_169 rfl ?_
      refine lv_topl (fun v12 ev12 => ?_)
      have h := zl_at ev12 h
      refine lv_lstore (lv' := [(14, .long (v12)), (12, .long (v11)), (11, .int y0), (1, .int a1), (2, .int a2), (3, .int a3), (4, .int a4), (5, .int a5), (8, .int x8)]) hx hb dX12_table_170 hl (by decide) rfl (fun ls hl => ?_)
      refine lv_lload hx hb dX12_table_172 (lv_at hl 0 rfl) ?_
      refine lv_lconst (v := (lN 0)) hx hb dX12_table_174 (by decide) ?_
      refine W.lcmp hx hb dX12_table_175 ?_
      refine z_br (lv_if_ge (tgt := 193) hx hb dX12_table_176 (by decide)) h (fun h => ?_) (fun h => ?_)
      · refine lv_lload hx hb dX12_table_193 (lv_at hl 1 rfl) ?_
        refine lv_lload hx hb dX12_table_195 (lv_at hl 0 rfl) ?_
        refine lv_iload hx hb dX12_table_197 (lv_at hl 7 rfl) ?_
        obtain ⟨r14, c13, h⟩ := zd_at h
        refine z_cS hx hb hq hml hown hK hW hS [.long (v11), .long (v12), .int a5] [] (c_X12_lowest l G N st v11 v12 a5 c13) (zi zm758) (zi zm759) (zi zm5) (zi zm760) cal_X12_lowest rfl hl.1 rfl (Nat.le_of_ble_eq_true rfl) (zR_ok (by omega) (by decide)) ⟨(Nat.le_of_ble_eq_true rfl), (Nat.le_of_ble_eq_true rfl)⟩ dX12_table_199 (fun H locs hW hS => ?_)
        refine W.eq (g2 := F0 m 202 ls [.long (r14)]) rfl ?_
        obtain rfl := Option.some.inj h
        exact z_rl hx hb hr hlk hW hS (Nat.le_of_ble_eq_true rfl) (Nat.le_of_ble_eq_true rfl) dX12_table_202
      · refine lv_lload hx hb dX12_table_179 (lv_at hl 1 rfl) ?_
        refine lv_lneg hx hb dX12_table_181 ?_
        refine lv_lload hx hb dX12_table_182 (lv_at hl 0 rfl) ?_
        refine lv_lneg hx hb dX12_table_184 ?_
        refine lv_iload hx hb dX12_table_185 (lv_at hl 7 rfl) ?_
        obtain ⟨r16, c15, h⟩ := zd_at h
        refine z_cS hx hb hq hml hown hK hW hS [.long ((-v11)), .long ((-v12)), .int a5] [] (c_X12_lowest l G N st (-v11) (-v12) a5 c15) (zi zm758) (zi zm759) (zi zm5) (zi zm760) cal_X12_lowest rfl hl.1 rfl (Nat.le_of_ble_eq_true rfl) (zR_ok (by omega) (by decide)) ⟨(Nat.le_of_ble_eq_true rfl), (Nat.le_of_ble_eq_true rfl)⟩ dX12_table_187 (fun H locs hW hS => ?_)
        refine W.eq (g2 := F0 m 190 ls [.long (r16)]) rfl ?_
        refine lv_goto (tgt := 202) hx hb dX12_table_190 (by decide) ?_
        obtain rfl := Option.some.inj h
        exact z_rl hx hb hr hlk hW hS (Nat.le_of_ble_eq_true rfl) (Nat.le_of_ble_eq_true rfl) dX12_table_202
    · refine lv_iload hx hb dX12_table_134 (lv_at hl 5 rfl) ?_
      refine z_brn (lv_if_ne (tgt := 145) hx hb dX12_table_136 (by decide)) h (fun h => ?_) (fun h => ?_)
      · refine lv_lconst (v := (lN 1)) hx hb dX12_table_145 (by decide) ?_
        obtain rfl := Option.some.inj h
        exact z_rl hx hb hr hlk hW hS (Nat.le_of_ble_eq_true rfl) (Nat.le_of_ble_eq_true rfl) dX12_table_146
      · refine lv_iload hx hb dX12_table_139 (lv_at hl 6 rfl) ?_
        refine lv_i2l (v := (x8).toInt64) hx hb dX12_table_141 rfl ?_
        refine lv_goto (tgt := 146) hx hb dX12_table_142 (by decide) ?_
        obtain rfl := Option.some.inj h
        exact z_rl hx hb hr hlk hW hS (Nat.le_of_ble_eq_true rfl) (Nat.le_of_ble_eq_true rfl) dX12_table_146
  have B109 : ∀ (x8 : Int32) (x9 : Int32) (y0 : Int32) (H : Heap) (locs : List Loc) (ls : Array Slot), f_X12_table_109 N o a1 a2 a3 a4 a5 x8 x9 y0 = some r → zWd G st H → va_S (zA G) s.heap H locs → lv_has ls 16 [(1, .int a1), (2, .int a2), (3, .int a3), (4, .int a4), (5, .int a5), (8, .int x8), (9, .int x9)] → W p l e (zRm 2 0 0) s m args below meth c H locs 0 0 (MQ below (zQ G (some (.long r)) st) args s 0 0 (zA G)) (F0 m 109 ls [.int y0]) := by
    intro x8 x9 y0 H locs ls h hW hS hl
    unfold f_X12_table_109 at h
    refine lv_istore (lv' := [(10, .int y0), (1, .int a1), (2, .int a2), (3, .int a3), (4, .int a4), (5, .int a5), (8, .int x8), (9, .int x9)]) hx hb dX12_table_109 hl (by decide) rfl (fun ls hl => ?_)
    refine lv_iload hx hb dX12_table_111 (lv_at hl 7 rfl) ?_
    refine lv_iload hx hb dX12_table_113 (lv_at hl 0 rfl) ?_
    refine z_br (lv_icmp_ge (tgt := 123) hx hb dX12_table_115 (by decide)) h (fun h => ?_) (fun h => ?_)
    · refine lv_iload hx hb dX12_table_123 (lv_at hl 0 rfl) ?_
      exact B125 x8 y0 _ _ _ h hW hS (lv_sub hl [1, 2, 3, 4, 5, 6] rfl)
    · refine lv_iload hx hb dX12_table_118 (lv_at hl 7 rfl) ?_
      refine lv_goto (tgt := 125) hx hb dX12_table_120 (by decide) ?_
      exact B125 x8 x9 _ _ _ h hW hS (lv_sub hl [1, 2, 3, 4, 5, 6] rfl)
  have B95 : ∀ (x8 : Int32) (y0 : Int32) (H : Heap) (locs : List Loc) (ls : Array Slot), f_X12_table_95 N o a1 a2 a3 a4 a5 x8 y0 = some r → zWd G st H → va_S (zA G) s.heap H locs → lv_has ls 16 [(1, .int a1), (2, .int a2), (3, .int a3), (4, .int a4), (5, .int a5), (8, .int x8)] → W p l e (zRm 2 0 0) s m args below meth c H locs 0 0 (MQ below (zQ G (some (.long r)) st) args s 0 0 (zA G)) (F0 m 95 ls [.int y0]) := by
    intro x8 y0 H locs ls h hW hS hl
    unfold f_X12_table_95 at h
    refine lv_istore (lv' := [(9, .int y0), (1, .int a1), (2, .int a2), (3, .int a3), (4, .int a4), (5, .int a5), (8, .int x8)]) hx hb dX12_table_95 hl (by decide) rfl (fun ls hl => ?_)
    refine lv_iload_n hx hb dX12_table_97 rfl (lv_at hl 2 rfl) ?_
    refine lv_iload hx hb dX12_table_98 (lv_at hl 4 rfl) ?_
    refine z_br (lv_icmp_le (tgt := 107) hx hb dX12_table_100 (by decide)) h (fun h => ?_) (fun h => ?_)
    · refine lv_iload hx hb dX12_table_107 (lv_at hl 4 rfl) ?_
      exact B109 x8 y0 a4 _ _ _ h hW hS (lv_sub hl [1, 2, 3, 4, 5, 6, 0] rfl)
    · refine lv_iload_n hx hb dX12_table_103 rfl (lv_at hl 2 rfl) ?_
      refine lv_goto (tgt := 109) hx hb dX12_table_104 (by decide) ?_
      exact B109 x8 y0 a2 _ _ _ h hW hS (lv_sub hl [1, 2, 3, 4, 5, 6, 0] rfl)
  have B83 : ∀ (y0 : Int32) (H : Heap) (locs : List Loc) (ls : Array Slot), f_X12_table_83 N o a1 a2 a3 a4 a5 y0 = some r → zWd G st H → va_S (zA G) s.heap H locs → lv_has ls 16 [(1, .int a1), (2, .int a2), (3, .int a3), (4, .int a4), (5, .int a5)] → W p l e (zRm 2 0 0) s m args below meth c H locs 0 0 (MQ below (zQ G (some (.long r)) st) args s 0 0 (zA G)) (F0 m 83 ls [.int y0]) := by
    intro y0 H locs ls h hW hS hl
    unfold f_X12_table_83 at h
    refine lv_istore (lv' := [(8, .int y0), (1, .int a1), (2, .int a2), (3, .int a3), (4, .int a4), (5, .int a5)]) hx hb dX12_table_83 hl (by decide) rfl (fun ls hl => ?_)
    refine lv_iload_n hx hb dX12_table_85 rfl (lv_at hl 1 rfl) ?_
    refine lv_iload_n hx hb dX12_table_86 rfl (lv_at hl 3 rfl) ?_
    refine z_br (lv_icmp_le (tgt := 94) hx hb dX12_table_87 (by decide)) h (fun h => ?_) (fun h => ?_)
    · refine lv_iload_n hx hb dX12_table_94 rfl (lv_at hl 3 rfl) ?_
      exact B95 y0 a3 _ _ _ h hW hS (lv_sub hl [1, 2, 3, 4, 5, 0] rfl)
    · refine lv_iload_n hx hb dX12_table_90 rfl (lv_at hl 1 rfl) ?_
      refine lv_goto (tgt := 95) hx hb dX12_table_91 (by decide) ?_
      exact B95 y0 a1 _ _ _ h hW hS (lv_sub hl [1, 2, 3, 4, 5, 0] rfl)
  have B67 : ∀ (x6 : Int32) (y0 : Int32) (H : Heap) (locs : List Loc) (ls : Array Slot), f_X12_table_67 N o a1 a2 a3 a4 a5 x6 y0 = some r → zWd G st H → va_S (zA G) s.heap H locs → lv_has ls 16 [(1, .int a1), (2, .int a2), (3, .int a3), (4, .int a4), (5, .int a5), (6, .int x6)] → W p l e (zRm 2 0 0) s m args below meth c H locs 0 0 (MQ below (zQ G (some (.long r)) st) args s 0 0 (zA G)) (F0 m 67 ls [.int y0]) := by
    intro x6 y0 H locs ls h hW hS hl
    unfold f_X12_table_67 at h
    refine lv_istore (lv' := [(7, .int y0), (1, .int a1), (2, .int a2), (3, .int a3), (4, .int a4), (5, .int a5), (6, .int x6)]) hx hb dX12_table_67 hl (by decide) rfl (fun ls hl => ?_)
    refine lv_iload hx hb dX12_table_69 (lv_at hl 6 rfl) ?_
    refine lv_iload hx hb dX12_table_71 (lv_at hl 0 rfl) ?_
    refine z_br (lv_icmp_le (tgt := 81) hx hb dX12_table_73 (by decide)) h (fun h => ?_) (fun h => ?_)
    · refine lv_iload hx hb dX12_table_81 (lv_at hl 0 rfl) ?_
      exact B83 y0 _ _ _ h hW hS (lv_sub hl [1, 2, 3, 4, 5] rfl)
    · refine lv_iload hx hb dX12_table_76 (lv_at hl 6 rfl) ?_
      refine lv_goto (tgt := 83) hx hb dX12_table_78 (by decide) ?_
      exact B83 x6 _ _ _ h hW hS (lv_sub hl [1, 2, 3, 4, 5] rfl)
  have B53 : ∀ (y0 : Int32) (H : Heap) (locs : List Loc) (ls : Array Slot), f_X12_table_53 N o a1 a2 a3 a4 a5 y0 = some r → zWd G st H → va_S (zA G) s.heap H locs → lv_has ls 16 [(1, .int a1), (2, .int a2), (3, .int a3), (4, .int a4), (5, .int a5)] → W p l e (zRm 2 0 0) s m args below meth c H locs 0 0 (MQ below (zQ G (some (.long r)) st) args s 0 0 (zA G)) (F0 m 53 ls [.int y0]) := by
    intro y0 H locs ls h hW hS hl
    unfold f_X12_table_53 at h
    refine lv_istore (lv' := [(6, .int y0), (1, .int a1), (2, .int a2), (3, .int a3), (4, .int a4), (5, .int a5)]) hx hb dX12_table_53 hl (by decide) rfl (fun ls hl => ?_)
    refine lv_iload_n hx hb dX12_table_55 rfl (lv_at hl 3 rfl) ?_
    refine lv_iload hx hb dX12_table_56 (lv_at hl 4 rfl) ?_
    refine z_br (lv_icmp_ge (tgt := 65) hx hb dX12_table_58 (by decide)) h (fun h => ?_) (fun h => ?_)
    · refine lv_iload hx hb dX12_table_65 (lv_at hl 4 rfl) ?_
      exact B67 y0 a4 _ _ _ h hW hS (lv_sub hl [1, 2, 3, 4, 5, 0] rfl)
    · refine lv_iload_n hx hb dX12_table_61 rfl (lv_at hl 3 rfl) ?_
      refine lv_goto (tgt := 67) hx hb dX12_table_62 (by decide) ?_
      exact B67 y0 a3 _ _ _ h hW hS (lv_sub hl [1, 2, 3, 4, 5, 0] rfl)
  refine lv_iload_n hx hb dX12_table_0 rfl (lv_at hl 1 rfl) ?_
  obtain ⟨r2, c1, h⟩ := zd_at h
  refine z_cS hx hb hq hml hown hK hW hS [.int a1] [] (c_X12_isPaid l G st a1 c1) (zi zm940) (zi zm941) (zi zm5) (zi zm942) cal_X12_isPaid rfl hl.1 rfl (Nat.le_of_ble_eq_true rfl) (zR_ok (by omega) (by decide)) ⟨(Nat.le_of_ble_eq_true rfl), (Nat.le_of_ble_eq_true rfl)⟩ dX12_table_1 (fun H locs hW hS => ?_)
  refine W.eq (g2 := F0 m 4 ls [.int r2]) rfl ?_
  refine z_br (lv_if_eq (tgt := 39) hx hb dX12_table_4 (by decide)) h (fun h => ?_) (fun h => ?_)
  · refine lv_ldc2 (v := (-9223372036854775808)) hx hb hown (hq _ (zi zm740)) dX12_table_39 ?_
    obtain rfl := Option.some.inj h
    exact z_rl hx hb hr hlk hW hS (Nat.le_of_ble_eq_true rfl) (Nat.le_of_ble_eq_true rfl) dX12_table_42
  · refine lv_iload_n hx hb dX12_table_7 rfl (lv_at hl 2 rfl) ?_
    obtain ⟨r4, c3, h⟩ := zd_at h
    refine z_cS hx hb hq hml hown hK hW hS [.int a2] [] (c_X12_isPaid l G st a2 c3) (zi zm940) (zi zm941) (zi zm5) (zi zm942) cal_X12_isPaid rfl hl.1 rfl (Nat.le_of_ble_eq_true rfl) (zR_ok (by omega) (by decide)) ⟨(Nat.le_of_ble_eq_true rfl), (Nat.le_of_ble_eq_true rfl)⟩ dX12_table_8 (fun H locs hW hS => ?_)
    refine W.eq (g2 := F0 m 11 ls [.int r4]) rfl ?_
    refine z_br (lv_if_eq (tgt := 39) hx hb dX12_table_11 (by decide)) h (fun h => ?_) (fun h => ?_)
    · refine lv_ldc2 (v := (-9223372036854775808)) hx hb hown (hq _ (zi zm740)) dX12_table_39 ?_
      obtain rfl := Option.some.inj h
      exact z_rl hx hb hr hlk hW hS (Nat.le_of_ble_eq_true rfl) (Nat.le_of_ble_eq_true rfl) dX12_table_42
    · refine lv_iload_n hx hb dX12_table_14 rfl (lv_at hl 3 rfl) ?_
      obtain ⟨r6, c5, h⟩ := zd_at h
      refine z_cS hx hb hq hml hown hK hW hS [.int a3] [] (c_X12_isPaid l G st a3 c5) (zi zm940) (zi zm941) (zi zm5) (zi zm942) cal_X12_isPaid rfl hl.1 rfl (Nat.le_of_ble_eq_true rfl) (zR_ok (by omega) (by decide)) ⟨(Nat.le_of_ble_eq_true rfl), (Nat.le_of_ble_eq_true rfl)⟩ dX12_table_15 (fun H locs hW hS => ?_)
      refine W.eq (g2 := F0 m 18 ls [.int r6]) rfl ?_
      refine z_br (lv_if_eq (tgt := 39) hx hb dX12_table_18 (by decide)) h (fun h => ?_) (fun h => ?_)
      · refine lv_ldc2 (v := (-9223372036854775808)) hx hb hown (hq _ (zi zm740)) dX12_table_39 ?_
        obtain rfl := Option.some.inj h
        exact z_rl hx hb hr hlk hW hS (Nat.le_of_ble_eq_true rfl) (Nat.le_of_ble_eq_true rfl) dX12_table_42
      · refine lv_iload hx hb dX12_table_21 (lv_at hl 4 rfl) ?_
        obtain ⟨r8, c7, h⟩ := zd_at h
        refine z_cS hx hb hq hml hown hK hW hS [.int a4] [] (c_X12_isPaid l G st a4 c7) (zi zm940) (zi zm941) (zi zm5) (zi zm942) cal_X12_isPaid rfl hl.1 rfl (Nat.le_of_ble_eq_true rfl) (zR_ok (by omega) (by decide)) ⟨(Nat.le_of_ble_eq_true rfl), (Nat.le_of_ble_eq_true rfl)⟩ dX12_table_23 (fun H locs hW hS => ?_)
        refine W.eq (g2 := F0 m 26 ls [.int r8]) rfl ?_
        refine z_br (lv_if_eq (tgt := 39) hx hb dX12_table_26 (by decide)) h (fun h => ?_) (fun h => ?_)
        · refine lv_ldc2 (v := (-9223372036854775808)) hx hb hown (hq _ (zi zm740)) dX12_table_39 ?_
          obtain rfl := Option.some.inj h
          exact z_rl hx hb hr hlk hW hS (Nat.le_of_ble_eq_true rfl) (Nat.le_of_ble_eq_true rfl) dX12_table_42
        · refine lv_iload hx hb dX12_table_29 (lv_at hl 5 rfl) ?_
          refine lv_iconst (v := (nI 0)) hx hb dX12_table_31 (by decide) ?_
          refine lv_iconst (v := (nI 1)) hx hb dX12_table_32 (by decide) ?_
          obtain ⟨r10, c9, h⟩ := zd_at h
          refine z_cS hx hb hq hml hown hK hW hS [.int a5, .int ((nI 0)), .int ((nI 1))] [] (c_X12_in l G st a5 (nI 0) (nI 1) c9) (zi zm90) (zi zm91) (zi zm5) (zi zm92) cal_X12_in rfl hl.1 rfl (Nat.le_of_ble_eq_true rfl) (zR_ok (by omega) (by decide)) ⟨(Nat.le_of_ble_eq_true rfl), (Nat.le_of_ble_eq_true rfl)⟩ dX12_table_33 (fun H locs hW hS => ?_)
          refine W.eq (g2 := F0 m 36 ls [.int r10]) rfl ?_
          refine z_brn (lv_if_ne (tgt := 43) hx hb dX12_table_36 (by decide)) h (fun h => ?_) (fun h => ?_)
          · refine lv_iload_n hx hb dX12_table_43 rfl (lv_at hl 1 rfl) ?_
            refine lv_iload_n hx hb dX12_table_44 rfl (lv_at hl 2 rfl) ?_
            refine z_br (lv_icmp_ge (tgt := 52) hx hb dX12_table_45 (by decide)) h (fun h => ?_) (fun h => ?_)
            · refine lv_iload_n hx hb dX12_table_52 rfl (lv_at hl 2 rfl) ?_
              exact B53 a2 _ _ _ h hW hS (lv_sub hl [1, 2, 3, 4, 5] rfl)
            · refine lv_iload_n hx hb dX12_table_48 rfl (lv_at hl 1 rfl) ?_
              refine lv_goto (tgt := 53) hx hb dX12_table_49 (by decide) ?_
              exact B53 a1 _ _ _ h hW hS (lv_sub hl [1, 2, 3, 4, 5] rfl)
          · refine lv_ldc2 (v := (-9223372036854775808)) hx hb hown (hq _ (zi zm740)) dX12_table_39 ?_
            obtain rfl := Option.some.inj h
            exact z_rl hx hb hr hlk hW hS (Nat.le_of_ble_eq_true rfl) (Nat.le_of_ble_eq_true rfl) dX12_table_42
def f_X12_book_29 (o : Nat) (a1 : Int32) (a2 : Int32)  (st : zS) : Option (zS × Int32) := (Option.bind (f_X12_in a1 (nI 0) (nI 39)) (fun r2 => (if r2 = 0 then (some (st, (-2 : Int32))) else (if zTg st o ∈ [22] then (Option.bind (zR st o 1) (fun b4 => (if zTg st b4 ∈ [1] then (if zin (nI 5) (zLn st b4) then (if (zM st b4 ((nI 5)).toNatClampNeg) = (nI 8) then (some (st, (-4 : Int32))) else (if zin (nI 5) (zLn st b4) then (if zin ((nI 112) + (zM st b4 ((nI 5)).toNatClampNeg)) (zLn st b4) then (if zin (nI 5) (zLn (zPM st b4 (((nI 112) + (zM st b4 ((nI 5)).toNatClampNeg))).toNatClampNeg a1) b4) then (if zin ((nI 120) + (zM (zPM st b4 (((nI 112) + (zM st b4 ((nI 5)).toNatClampNeg))).toNatClampNeg a1) b4 ((nI 5)).toNatClampNeg)) (zLn (zPM st b4 (((nI 112) + (zM st b4 ((nI 5)).toNatClampNeg))).toNatClampNeg a1) b4) then (if zin (nI 5) (zLn (zPM (zPM st b4 (((nI 112) + (zM st b4 ((nI 5)).toNatClampNeg))).toNatClampNeg a1) b4 (((nI 120) + (zM (zPM st b4 (((nI 112) + (zM st b4 ((nI 5)).toNatClampNeg))).toNatClampNeg a1) b4 ((nI 5)).toNatClampNeg))).toNatClampNeg a2) b4) then (if zin (nI 5) (zLn (zPM (zPM st b4 (((nI 112) + (zM st b4 ((nI 5)).toNatClampNeg))).toNatClampNeg a1) b4 (((nI 120) + (zM (zPM st b4 (((nI 112) + (zM st b4 ((nI 5)).toNatClampNeg))).toNatClampNeg a1) b4 ((nI 5)).toNatClampNeg))).toNatClampNeg a2) b4) then (if zin (nI 5) (zLn (zPM (zPM (zPM st b4 (((nI 112) + (zM st b4 ((nI 5)).toNatClampNeg))).toNatClampNeg a1) b4 (((nI 120) + (zM (zPM st b4 (((nI 112) + (zM st b4 ((nI 5)).toNatClampNeg))).toNatClampNeg a1) b4 ((nI 5)).toNatClampNeg))).toNatClampNeg a2) b4 ((nI 5)).toNatClampNeg ((zM (zPM (zPM st b4 (((nI 112) + (zM st b4 ((nI 5)).toNatClampNeg))).toNatClampNeg a1) b4 (((nI 120) + (zM (zPM st b4 (((nI 112) + (zM st b4 ((nI 5)).toNatClampNeg))).toNatClampNeg a1) b4 ((nI 5)).toNatClampNeg))).toNatClampNeg a2) b4 ((nI 5)).toNatClampNeg) + (nI 1))) b4) then (some ((zPM (zPM (zPM st b4 (((nI 112) + (zM st b4 ((nI 5)).toNatClampNeg))).toNatClampNeg a1) b4 (((nI 120) + (zM (zPM st b4 (((nI 112) + (zM st b4 ((nI 5)).toNatClampNeg))).toNatClampNeg a1) b4 ((nI 5)).toNatClampNeg))).toNatClampNeg a2) b4 ((nI 5)).toNatClampNeg ((zM (zPM (zPM st b4 (((nI 112) + (zM st b4 ((nI 5)).toNatClampNeg))).toNatClampNeg a1) b4 (((nI 120) + (zM (zPM st b4 (((nI 112) + (zM st b4 ((nI 5)).toNatClampNeg))).toNatClampNeg a1) b4 ((nI 5)).toNatClampNeg))).toNatClampNeg a2) b4 ((nI 5)).toNatClampNeg) + (nI 1))), (zM (zPM (zPM (zPM st b4 (((nI 112) + (zM st b4 ((nI 5)).toNatClampNeg))).toNatClampNeg a1) b4 (((nI 120) + (zM (zPM st b4 (((nI 112) + (zM st b4 ((nI 5)).toNatClampNeg))).toNatClampNeg a1) b4 ((nI 5)).toNatClampNeg))).toNatClampNeg a2) b4 ((nI 5)).toNatClampNeg ((zM (zPM (zPM st b4 (((nI 112) + (zM st b4 ((nI 5)).toNatClampNeg))).toNatClampNeg a1) b4 (((nI 120) + (zM (zPM st b4 (((nI 112) + (zM st b4 ((nI 5)).toNatClampNeg))).toNatClampNeg a1) b4 ((nI 5)).toNatClampNeg))).toNatClampNeg a2) b4 ((nI 5)).toNatClampNeg) + (nI 1))) b4 ((nI 5)).toNatClampNeg))) else none) else none) else none) else none) else none) else none) else none)) else none) else none))) else none))))
def f_X12_book (st : zS) (o : Nat) (a1 : Int32) (a2 : Int32) : Option (zS × Int32) := (if a1 = (-1 : Int32) then (if zTg st o ∈ [22] then (Option.bind (zR st o 1) (fun b18 => (if zTg st b18 ∈ [1] then (if zin (nI 5) (zLn st b18) then (some ((zPM st b18 ((nI 5)).toNatClampNeg (nI 0)), (nI 0))) else none) else none))) else none) else (if a2 = (-1 : Int32) then (f_X12_book_29 o a1 a2 st) else (if zTg st o ∈ [22] then (Option.bind (f_X12_isWay st o a2) (fun r16 => (if r16 = 0 then (some (st, (-1 : Int32))) else (f_X12_book_29 o a1 a2 st)))) else none)))
set_option maxHeartbeats 1000000 in
set_option maxRecDepth 100000 in
theorem c_X12_book (l : Launch) (G : zG) (st : zS) (o : Nat) (a1 : Int32) (a2 : Int32) {st' : zS} {r : Int32} (h : f_X12_book st o a1 a2 = some (st', r)) : zMet l G yX12_book cX12_book 3 (some .int) 2 0 0 [.ref (G.2.2.2 + o), .int a1, .int a2] st (some (.int r)) st' := by
  refine zMet_of (by decide +kernel) ?_
  intro p e s m args below meth c X
  obtain ⟨hx, hb, hr, hml, hown, hq, hlk, hK, -, hin, hW, hS⟩ := X
  have hown : s.vm.findClass RX12 = some m.cls := hown
  refine z_ent (by exact Nat.le_of_ble_eq_true rfl) (fun ls hl => ?_)
  have hl : lv_has ls 3 [(0, .ref (G.2.2.2 + o)), (1, .int a1), (2, .int a2)] := hl
  unfold f_X12_book at h
  have B29 : ∀ (st : zS) (H : Heap) (locs : List Loc) (ls : Array Slot), f_X12_book_29 o a1 a2 st = some (st', r) → zWd G st H → va_S (zA G) s.heap H locs → lv_has ls 3 [(0, .ref (G.2.2.2 + o)), (1, .int a1), (2, .int a2)] → W p l e (zRm 2 0 0) s m args below meth c H locs 0 0 (MQ below (zQ G (some (.int r)) st') args s 0 0 (zA G)) (F0 m 29 ls []) := by
    intro st H locs ls h hW hS hl
    unfold f_X12_book_29 at h
    refine lv_iload_n hx hb dX12_book_29 rfl (lv_at hl 1 rfl) ?_
    refine lv_iconst (v := (nI 0)) hx hb dX12_book_30 (by decide) ?_
    refine lv_bipush (v := (nI 39)) hx hb dX12_book_31 (by decide) ?_
    obtain ⟨r2, c1, h⟩ := zd_at h
    refine z_cS hx hb hq hml hown hK hW hS [.int a1, .int ((nI 0)), .int ((nI 39))] [] (c_X12_in l G st a1 (nI 0) (nI 39) c1) (zi zm90) (zi zm91) (zi zm5) (zi zm92) cal_X12_in rfl hl.1 rfl (Nat.le_of_ble_eq_true rfl) (zR_ok (by omega) (by decide)) ⟨(Nat.le_of_ble_eq_true rfl), (Nat.le_of_ble_eq_true rfl)⟩ dX12_book_33 (fun H locs hW hS => ?_)
    refine W.eq (g2 := F0 m 36 ls [.int r2]) rfl ?_
    refine z_brn (lv_if_ne (tgt := 42) hx hb dX12_book_36 (by decide)) h (fun h => ?_) (fun h => ?_)
    · refine lv_aload_n hx hb dX12_book_42 rfl (lv_at hl 0 rfl) ?_
      obtain ⟨t3, h⟩ := zc_at h
      obtain ⟨b4, hb4, h⟩ := zd_at h
      refine z_gR hx hb hq hown hK hW fs_RX12_9 t3 hb4 dX12_book_43 ?_
      refine lv_iconst (v := (nI 5)) hx hb dX12_book_46 (by decide) ?_
      obtain ⟨t5, h⟩ := zc_at h
      obtain ⟨t6, h⟩ := zc_at h
      refine z_alI hx hb hK hW (List.mem_singleton.mp t5) t6 dX12_book_47 ?_
      refine lv_bipush (v := (nI 8)) hx hb dX12_book_48 (by decide) ?_
      refine z_brn (lv_icmp_ne (tgt := 56) hx hb dX12_book_50 (by decide)) h (fun h => ?_) (fun h => ?_)
      · refine lv_aload_n hx hb dX12_book_56 rfl (lv_at hl 0 rfl) ?_
        refine z_gR hx hb hq hown hK hW fs_RX12_9 t3 hb4 dX12_book_57 ?_
        refine lv_bipush (v := (nI 112)) hx hb dX12_book_60 (by decide) ?_
        refine lv_aload_n hx hb dX12_book_62 rfl (lv_at hl 0 rfl) ?_
        refine z_gR hx hb hq hown hK hW fs_RX12_9 t3 hb4 dX12_book_63 ?_
        refine lv_iconst (v := (nI 5)) hx hb dX12_book_66 (by decide) ?_
        obtain ⟨t7, h⟩ := zc_at h
        refine z_alI hx hb hK hW (List.mem_singleton.mp t5) t7 dX12_book_67 ?_
        refine lv_iadd hx hb dX12_book_68 ?_
        refine lv_iload_n hx hb dX12_book_69 rfl (lv_at hl 1 rfl) ?_
        obtain ⟨t8, h⟩ := zc_at h
        refine z_asI hx hb hK hW hS (List.mem_singleton.mp t5) t8 dX12_book_70 (fun H locs hW hS => ?_)
        refine lv_aload_n hx hb dX12_book_71 rfl (lv_at hl 0 rfl) ?_
        refine z_gR hx hb hq hown hK hW fs_RX12_9 t3 hb4 dX12_book_72 ?_
        refine lv_bipush (v := (nI 120)) hx hb dX12_book_75 (by decide) ?_
        refine lv_aload_n hx hb dX12_book_77 rfl (lv_at hl 0 rfl) ?_
        refine z_gR hx hb hq hown hK hW fs_RX12_9 t3 hb4 dX12_book_78 ?_
        refine lv_iconst (v := (nI 5)) hx hb dX12_book_81 (by decide) ?_
        obtain ⟨t9, h⟩ := zc_at h
        refine z_alI hx hb hK hW (List.mem_singleton.mp t5) t9 dX12_book_82 ?_
        refine lv_iadd hx hb dX12_book_83 ?_
        refine lv_iload_n hx hb dX12_book_84 rfl (lv_at hl 2 rfl) ?_
        obtain ⟨t10, h⟩ := zc_at h
        refine z_asI hx hb hK hW hS (List.mem_singleton.mp t5) t10 dX12_book_85 (fun H locs hW hS => ?_)
        refine lv_aload_n hx hb dX12_book_86 rfl (lv_at hl 0 rfl) ?_
        refine z_gR hx hb hq hown hK hW fs_RX12_9 t3 hb4 dX12_book_87 ?_
        refine lv_iconst (v := (nI 5)) hx hb dX12_book_90 (by decide) ?_
        refine lv_dup2_11 hx hb dX12_book_91 rfl rfl ?_
        obtain ⟨t11, h⟩ := zc_at h
        refine z_alI hx hb hK hW (List.mem_singleton.mp t5) t11 dX12_book_92 ?_
        refine lv_iconst (v := (nI 1)) hx hb dX12_book_93 (by decide) ?_
        refine lv_iadd hx hb dX12_book_94 ?_
        obtain ⟨t12, h⟩ := zc_at h
        refine z_asI hx hb hK hW hS (List.mem_singleton.mp t5) t12 dX12_book_95 (fun H locs hW hS => ?_)
        refine lv_aload_n hx hb dX12_book_96 rfl (lv_at hl 0 rfl) ?_
        refine z_gR hx hb hq hown hK hW fs_RX12_9 t3 hb4 dX12_book_97 ?_
        refine lv_iconst (v := (nI 5)) hx hb dX12_book_100 (by decide) ?_
        obtain ⟨t13, h⟩ := zc_at h
        refine z_alI hx hb hK hW (List.mem_singleton.mp t5) t13 dX12_book_101 ?_
        obtain ⟨rfl, rfl⟩ := Prod.mk.inj (Option.some.inj h)
        exact z_ri hx hb hr hlk hW hS (Nat.le_of_ble_eq_true rfl) (Nat.le_of_ble_eq_true rfl) dX12_book_102
      · refine lv_bipush (v := (-4)) hx hb dX12_book_53 (by decide) ?_
        obtain ⟨rfl, rfl⟩ := Prod.mk.inj (Option.some.inj h)
        exact z_ri hx hb hr hlk hW hS (Nat.le_of_ble_eq_true rfl) (Nat.le_of_ble_eq_true rfl) dX12_book_55
    · refine lv_bipush (v := (-2)) hx hb dX12_book_39 (by decide) ?_
      obtain ⟨rfl, rfl⟩ := Prod.mk.inj (Option.some.inj h)
      exact z_ri hx hb hr hlk hW hS (Nat.le_of_ble_eq_true rfl) (Nat.le_of_ble_eq_true rfl) dX12_book_41
  refine lv_iload_n hx hb dX12_book_0 rfl (lv_at hl 1 rfl) ?_
  refine lv_iconst (v := (-1)) hx hb dX12_book_1 (by decide) ?_
  refine z_brn (lv_icmp_ne (tgt := 14) hx hb dX12_book_2 (by decide)) h (fun h => ?_) (fun h => ?_)
  · refine lv_iload_n hx hb dX12_book_14 rfl (lv_at hl 2 rfl) ?_
    refine lv_iconst (v := (-1)) hx hb dX12_book_15 (by decide) ?_
    refine z_br (lv_icmp_eq (tgt := 29) hx hb dX12_book_16 (by decide)) h (fun h => ?_) (fun h => ?_)
    · exact B29 st _ _ _ h hW hS (lv_sub hl [0, 1, 2] rfl)
    · refine lv_aload_n hx hb dX12_book_19 rfl (lv_at hl 0 rfl) ?_
      refine lv_iload_n hx hb dX12_book_20 rfl (lv_at hl 2 rfl) ?_
      obtain ⟨t14, h⟩ := zc_at h
      obtain ⟨r16, c15, h⟩ := zd_at h
      refine z_cV hx hb hq hml hown hK hW hS 12 [.int a2] [] rfl (List.mem_singleton.mp t14) (c_X12_isWay l G st o a2 c15) (zi zm430) (zi zm431) (zi zm432) (zi zm5) (zi zm433) cal_X12_isWay rfl rfl hl.1 rfl (Nat.le_of_ble_eq_true rfl) (zR_ok (by omega) (by decide)) ⟨(Nat.le_of_ble_eq_true rfl), (Nat.le_of_ble_eq_true rfl)⟩ dX12_book_21 (fun H locs hW hS => ?_)
      refine W.eq (g2 := F0 m 24 ls [.int r16]) rfl ?_
      refine z_brn (lv_if_ne (tgt := 29) hx hb dX12_book_24 (by decide)) h (fun h => ?_) (fun h => ?_)
      · exact B29 st _ _ _ h hW hS (lv_sub hl [0, 1, 2] rfl)
      · refine lv_iconst (v := (-1)) hx hb dX12_book_27 (by decide) ?_
        obtain ⟨rfl, rfl⟩ := Prod.mk.inj (Option.some.inj h)
        exact z_ri hx hb hr hlk hW hS (Nat.le_of_ble_eq_true rfl) (Nat.le_of_ble_eq_true rfl) dX12_book_28
  · refine lv_aload_n hx hb dX12_book_5 rfl (lv_at hl 0 rfl) ?_
    obtain ⟨t17, h⟩ := zc_at h
    obtain ⟨b18, hb18, h⟩ := zd_at h
    refine z_gR hx hb hq hown hK hW fs_RX12_9 t17 hb18 dX12_book_6 ?_
    refine lv_iconst (v := (nI 5)) hx hb dX12_book_9 (by decide) ?_
    refine lv_iconst (v := (nI 0)) hx hb dX12_book_10 (by decide) ?_
    obtain ⟨t19, h⟩ := zc_at h
    obtain ⟨t20, h⟩ := zc_at h
    refine z_asI hx hb hK hW hS (List.mem_singleton.mp t19) t20 dX12_book_11 (fun H locs hW hS => ?_)
    refine lv_iconst (v := (nI 0)) hx hb dX12_book_12 (by decide) ?_
    obtain ⟨rfl, rfl⟩ := Prod.mk.inj (Option.some.inj h)
    exact z_ri hx hb hr hlk hW hS (Nat.le_of_ble_eq_true rfl) (Nat.le_of_ble_eq_true rfl) dX12_book_13
def f_X12_looked_2 (N : Nat) (st : zS) (o : Nat)  : Nat → Int32 → Option Int32
  | 0, _ => none
  | n2 + 1, x1 => (if zTg st o ∈ [22] then (Option.bind (zR st o 1) (fun b2 => (if zTg st b2 ∈ [1] then (if zin (nI 5) (zLn st b2) then (if (zM st b2 ((nI 5)).toNatClampNeg) ≤ x1 then (some (-5 : Int32)) else (if zin ((nI 112) + x1) (zLn st b2) then (Option.bind (f_X12_wayAt st o (zM st b2 (((nI 112) + x1)).toNatClampNeg)) (fun r7 => (if zin ((nI 120) + x1) (zLn st b2) then (if r7 = (zM st b2 (((nI 120) + x1)).toNatClampNeg) then ((f_X12_looked_2 N st o n2) (x1 + (nI 1))) else (some x1)) else none))) else none)) else none) else none))) else none)
def f_X12_looked (N : Nat) (st : zS) (o : Nat) : Option Int32 := (f_X12_looked_2 N st o N (nI 0))
set_option maxHeartbeats 1000000 in
set_option maxRecDepth 100000 in
theorem c_X12_looked (l : Launch) (G : zG) (N : Nat) (st : zS) (o : Nat) {r : Int32} (h : f_X12_looked N st o = some r) : zMet l G yX12_looked cX12_looked 2 (some .int) 1 0 0 [.ref (G.2.2.2 + o)] st (some (.int r)) st := by
  refine zMet_of (by decide +kernel) ?_
  intro p e s m args below meth c X
  obtain ⟨hx, hb, hr, hml, hown, hq, hlk, hK, -, hin, hW, hS⟩ := X
  have hown : s.vm.findClass RX12 = some m.cls := hown
  refine z_ent (by exact Nat.le_of_ble_eq_true rfl) (fun ls hl => ?_)
  have hl : lv_has ls 2 [(0, .ref (G.2.2.2 + o))] := hl
  unfold f_X12_looked at h
  have B2 : ∀ (n2 : Nat) (x1 : Int32) (H : Heap) (locs : List Loc) (ls : Array Slot), f_X12_looked_2 N st o n2 x1 = some r → zWd G st H → va_S (zA G) s.heap H locs → lv_has ls 2 [(0, .ref (G.2.2.2 + o)), (1, .int x1)] → W p l e (zRm 1 0 0) s m args below meth c H locs 0 0 (MQ below (zQ G (some (.int r)) st) args s 0 0 (zA G)) (F0 m 2 ls []) := by
    intro n2
    induction n2 with
    | zero =>
      intro x1 H locs ls h
      unfold f_X12_looked_2 at h
      cases h
    | succ n2 ih2 =>
      intro x1 H locs ls h hW hS hl
      unfold f_X12_looked_2 at h
      refine lv_iload_n hx hb dX12_looked_2 rfl (lv_at hl 1 rfl) ?_
      refine lv_aload_n hx hb dX12_looked_3 rfl (lv_at hl 0 rfl) ?_
      obtain ⟨t1, h⟩ := zc_at h
      obtain ⟨b2, hb2, h⟩ := zd_at h
      refine z_gR hx hb hq hown hK hW fs_RX12_9 t1 hb2 dX12_looked_4 ?_
      refine lv_iconst (v := (nI 5)) hx hb dX12_looked_7 (by decide) ?_
      obtain ⟨t3, h⟩ := zc_at h
      obtain ⟨t4, h⟩ := zc_at h
      refine z_alI hx hb hK hW (List.mem_singleton.mp t3) t4 dX12_looked_8 ?_
      refine z_br (lv_icmp_ge (tgt := 45) hx hb dX12_looked_9 (by decide)) h (fun h => ?_) (fun h => ?_)
      · refine lv_bipush (v := (-5)) hx hb dX12_looked_45 (by decide) ?_
        obtain rfl := Option.some.inj h
        exact z_ri hx hb hr hlk hW hS (Nat.le_of_ble_eq_true rfl) (Nat.le_of_ble_eq_true rfl) dX12_looked_47
      · refine lv_aload_n hx hb dX12_looked_12 rfl (lv_at hl 0 rfl) ?_
        refine lv_aload_n hx hb dX12_looked_13 rfl (lv_at hl 0 rfl) ?_
        refine z_gR hx hb hq hown hK hW fs_RX12_9 t1 hb2 dX12_looked_14 ?_
        refine lv_bipush (v := (nI 112)) hx hb dX12_looked_17 (by decide) ?_
        refine lv_iload_n hx hb dX12_looked_19 rfl (lv_at hl 1 rfl) ?_
        refine lv_iadd hx hb dX12_looked_20 ?_
        obtain ⟨t5, h⟩ := zc_at h
        refine z_alI hx hb hK hW (List.mem_singleton.mp t3) t5 dX12_looked_21 ?_
        obtain ⟨r7, c6, h⟩ := zd_at h
        refine z_cV hx hb hq hml hown hK hW hS 12 [.int ((zM st b2 (((nI 112) + x1)).toNatClampNeg))] [] rfl (List.mem_singleton.mp t1) (c_X12_wayAt l G st o (zM st b2 (((nI 112) + x1)).toNatClampNeg) c6) (zi zm628) (zi zm629) (zi zm630) (zi zm5) (zi zm631) cal_X12_wayAt rfl rfl hl.1 rfl (Nat.le_of_ble_eq_true rfl) (zR_ok (by omega) (by decide)) ⟨(Nat.le_of_ble_eq_true rfl), (Nat.le_of_ble_eq_true rfl)⟩ dX12_looked_22 (fun H locs hW hS => ?_)
        refine W.eq (g2 := F0 m 25 ls [.int r7]) rfl ?_
        refine lv_aload_n hx hb dX12_looked_25 rfl (lv_at hl 0 rfl) ?_
        refine z_gR hx hb hq hown hK hW fs_RX12_9 t1 hb2 dX12_looked_26 ?_
        refine lv_bipush (v := (nI 120)) hx hb dX12_looked_29 (by decide) ?_
        refine lv_iload_n hx hb dX12_looked_31 rfl (lv_at hl 1 rfl) ?_
        refine lv_iadd hx hb dX12_looked_32 ?_
        obtain ⟨t8, h⟩ := zc_at h
        refine z_alI hx hb hK hW (List.mem_singleton.mp t3) t8 dX12_looked_33 ?_
        refine z_br (lv_icmp_eq (tgt := 39) hx hb dX12_looked_34 (by decide)) h (fun h => ?_) (fun h => ?_)
        · refine lv_iinc (v := (x1 + (nI 1))) (lv' := [(1, .int ((x1 + (nI 1)))), (0, .ref (G.2.2.2 + o))]) hx hb dX12_looked_39 hl (k := 1) rfl rfl (by decide) rfl (fun ls hl => ?_)
          refine lv_goto (tgt := 2) hx hb dX12_looked_42 (by decide) ?_
          exact ih2 (x1 + (nI 1)) _ _ _ h hW hS (lv_sub hl [1, 0] rfl)
        · refine lv_iload_n hx hb dX12_looked_37 rfl (lv_at hl 1 rfl) ?_
          obtain rfl := Option.some.inj h
          exact z_ri hx hb hr hlk hW hS (Nat.le_of_ble_eq_true rfl) (Nat.le_of_ble_eq_true rfl) dX12_looked_38
  refine lv_iconst (v := (nI 0)) hx hb dX12_looked_0 (by decide) ?_
  refine lv_istore_n (lv' := [(1, .int ((nI 0))), (0, .ref (G.2.2.2 + o))]) hx hb dX12_looked_1 rfl hl (by decide) rfl (fun ls hl => ?_)
  exact B2 N (nI 0) _ _ _ h hW hS (lv_sub hl [1, 0] rfl)
def f_X12_ranBody (st : zS) (o : Nat) (a1 : Int32) : Option zS := (if zTg st o ∈ [22] then (if (nI 20) ≤ (zM st o 20) then (some (zPM st o 20 ((zM st o 20) + (nI 1)))) else (Option.bind (zR st o 19) (fun b2 => (if zTg st b2 ∈ [1] then (if zin (zM st o 20) (zLn st b2) then (some (zPM (zPM st b2 ((zM st o 20)).toNatClampNeg a1) o 20 ((zM (zPM st b2 ((zM st o 20)).toNatClampNeg a1) o 20) + (nI 1)))) else none) else none)))) else none)
set_option maxHeartbeats 1000000 in
set_option maxRecDepth 100000 in
theorem c_X12_ranBody (l : Launch) (G : zG) (st : zS) (o : Nat) (a1 : Int32) {st' : zS} (h : f_X12_ranBody st o a1 = some st') : zMet l G yX12_ranBody cX12_ranBody 2 none 0 0 0 [.ref (G.2.2.2 + o), .int a1] st none st' := by
  refine zMet_of (by decide +kernel) ?_
  intro p e s m args below meth c X
  obtain ⟨hx, hb, hr, hml, hown, hq, hlk, hK, -, hin, hW, hS⟩ := X
  have hown : s.vm.findClass RX12 = some m.cls := hown
  refine z_ent (by exact Nat.le_of_ble_eq_true rfl) (fun ls hl => ?_)
  have hl : lv_has ls 2 [(0, .ref (G.2.2.2 + o)), (1, .int a1)] := hl
  unfold f_X12_ranBody at h
  refine lv_aload_n hx hb dX12_ranBody_0 rfl (lv_at hl 0 rfl) ?_
  obtain ⟨t1, h⟩ := zc_at h
  refine z_gI hx hb hq hown hK hW fs_RX12_223 t1 dX12_ranBody_1 ?_
  refine lv_bipush (v := (nI 20)) hx hb dX12_ranBody_4 (by decide) ?_
  refine z_br (lv_icmp_ge (tgt := 19) hx hb dX12_ranBody_6 (by decide)) h (fun h => ?_) (fun h => ?_)
  · refine lv_aload_n hx hb dX12_ranBody_19 rfl (lv_at hl 0 rfl) ?_
    refine lv_dup hx hb dX12_ranBody_20 rfl ?_
    refine z_gI hx hb hq hown hK hW fs_RX12_223 t1 dX12_ranBody_21 ?_
    refine lv_iconst (v := (nI 1)) hx hb dX12_ranBody_24 (by decide) ?_
    refine lv_iadd hx hb dX12_ranBody_25 ?_
    refine z_pI hx hb hq hown hK hW hS fp_RX12_223 t1 (fun h => by cases h) rfl rfl dX12_ranBody_26 (fun H locs hW hS => ?_)
    obtain rfl := Option.some.inj h
    exact z_rv hx hb hr hlk hW hS (Nat.le_of_ble_eq_true rfl) (Nat.le_of_ble_eq_true rfl) dX12_ranBody_29
  · refine lv_aload_n hx hb dX12_ranBody_9 rfl (lv_at hl 0 rfl) ?_
    obtain ⟨b2, hb2, h⟩ := zd_at h
    refine z_gR hx hb hq hown hK hW fs_RX12_31 t1 hb2 dX12_ranBody_10 ?_
    refine lv_aload_n hx hb dX12_ranBody_13 rfl (lv_at hl 0 rfl) ?_
    refine z_gI hx hb hq hown hK hW fs_RX12_223 t1 dX12_ranBody_14 ?_
    refine lv_iload_n hx hb dX12_ranBody_17 rfl (lv_at hl 1 rfl) ?_
    obtain ⟨t3, h⟩ := zc_at h
    obtain ⟨t4, h⟩ := zc_at h
    refine z_asI hx hb hK hW hS (List.mem_singleton.mp t3) t4 dX12_ranBody_18 (fun H locs hW hS => ?_)
    refine lv_aload_n hx hb dX12_ranBody_19 rfl (lv_at hl 0 rfl) ?_
    refine lv_dup hx hb dX12_ranBody_20 rfl ?_
    refine z_gI hx hb hq hown hK hW fs_RX12_223 t1 dX12_ranBody_21 ?_
    refine lv_iconst (v := (nI 1)) hx hb dX12_ranBody_24 (by decide) ?_
    refine lv_iadd hx hb dX12_ranBody_25 ?_
    refine z_pI hx hb hq hown hK hW hS fp_RX12_223 t1 (fun h => by cases h) rfl rfl dX12_ranBody_26 (fun H locs hW hS => ?_)
    obtain rfl := Option.some.inj h
    exact z_rv hx hb hr hlk hW hS (Nat.le_of_ble_eq_true rfl) (Nat.le_of_ble_eq_true rfl) dX12_ranBody_29
def f_X12_isUnder (a0 : Int32) (a1 : Int32) : Option Int32 := (if a1 = 0 then (some (nI 1)) else (if a1 = a0 then (some (nI 1)) else (if a1 ≤ 0 then (some (nI 0)) else (if (nI 4) ≤ a1 then (some (nI 0)) else (if a0 = (a1 + (nI 3)) then (some (nI 1)) else (some (nI 0)))))))
set_option maxHeartbeats 1000000 in
set_option maxRecDepth 100000 in
theorem c_X12_isUnder (l : Launch) (G : zG) (st : zS) (a0 : Int32) (a1 : Int32) {r : Int32} (h : f_X12_isUnder a0 a1 = some r) : zMet l G yX12_isUnder cX12_isUnder 2 (some .boolean) 0 0 0 [.int a0, .int a1] st (some (.int r)) st := by
  refine zMet_of (by decide +kernel) ?_
  intro p e s m args below meth c X
  obtain ⟨hx, hb, hr, hml, hown, hq, hlk, hK, -, hin, hW, hS⟩ := X
  have hown : s.vm.findClass RX12 = some m.cls := hown
  refine z_ent (by exact Nat.le_of_ble_eq_true rfl) (fun ls hl => ?_)
  have hl : lv_has ls 2 [(0, .int a0), (1, .int a1)] := hl
  unfold f_X12_isUnder at h
  refine lv_iload_n hx hb dX12_isUnder_0 rfl (lv_at hl 1 rfl) ?_
  refine z_br (lv_if_eq (tgt := 25) hx hb dX12_isUnder_1 (by decide)) h (fun h => ?_) (fun h => ?_)
  · refine lv_iconst (v := (nI 1)) hx hb dX12_isUnder_25 (by decide) ?_
    refine lv_goto (tgt := 30) hx hb dX12_isUnder_26 (by decide) ?_
    obtain rfl := Option.some.inj h
    exact z_rz hx hb hr hlk rfl hW hS (Nat.le_of_ble_eq_true rfl) (Nat.le_of_ble_eq_true rfl) dX12_isUnder_30
  · refine lv_iload_n hx hb dX12_isUnder_4 rfl (lv_at hl 1 rfl) ?_
    refine lv_iload_n hx hb dX12_isUnder_5 rfl (lv_at hl 0 rfl) ?_
    refine z_br (lv_icmp_eq (tgt := 25) hx hb dX12_isUnder_6 (by decide)) h (fun h => ?_) (fun h => ?_)
    · refine lv_iconst (v := (nI 1)) hx hb dX12_isUnder_25 (by decide) ?_
      refine lv_goto (tgt := 30) hx hb dX12_isUnder_26 (by decide) ?_
      obtain rfl := Option.some.inj h
      exact z_rz hx hb hr hlk rfl hW hS (Nat.le_of_ble_eq_true rfl) (Nat.le_of_ble_eq_true rfl) dX12_isUnder_30
    · refine lv_iload_n hx hb dX12_isUnder_9 rfl (lv_at hl 1 rfl) ?_
      refine z_br (lv_if_le (tgt := 29) hx hb dX12_isUnder_10 (by decide)) h (fun h => ?_) (fun h => ?_)
      · refine lv_iconst (v := (nI 0)) hx hb dX12_isUnder_29 (by decide) ?_
        obtain rfl := Option.some.inj h
        exact z_rz hx hb hr hlk rfl hW hS (Nat.le_of_ble_eq_true rfl) (Nat.le_of_ble_eq_true rfl) dX12_isUnder_30
      · refine lv_iload_n hx hb dX12_isUnder_13 rfl (lv_at hl 1 rfl) ?_
        refine lv_iconst (v := (nI 4)) hx hb dX12_isUnder_14 (by decide) ?_
        refine z_br (lv_icmp_ge (tgt := 29) hx hb dX12_isUnder_15 (by decide)) h (fun h => ?_) (fun h => ?_)
        · refine lv_iconst (v := (nI 0)) hx hb dX12_isUnder_29 (by decide) ?_
          obtain rfl := Option.some.inj h
          exact z_rz hx hb hr hlk rfl hW hS (Nat.le_of_ble_eq_true rfl) (Nat.le_of_ble_eq_true rfl) dX12_isUnder_30
        · refine lv_iload_n hx hb dX12_isUnder_18 rfl (lv_at hl 0 rfl) ?_
          refine lv_iload_n hx hb dX12_isUnder_19 rfl (lv_at hl 1 rfl) ?_
          refine lv_iconst (v := (nI 3)) hx hb dX12_isUnder_20 (by decide) ?_
          refine lv_iadd hx hb dX12_isUnder_21 ?_
          refine z_brn (lv_icmp_ne (tgt := 29) hx hb dX12_isUnder_22 (by decide)) h (fun h => ?_) (fun h => ?_)
          · refine lv_iconst (v := (nI 0)) hx hb dX12_isUnder_29 (by decide) ?_
            obtain rfl := Option.some.inj h
            exact z_rz hx hb hr hlk rfl hW hS (Nat.le_of_ble_eq_true rfl) (Nat.le_of_ble_eq_true rfl) dX12_isUnder_30
          · refine lv_iconst (v := (nI 1)) hx hb dX12_isUnder_25 (by decide) ?_
            refine lv_goto (tgt := 30) hx hb dX12_isUnder_26 (by decide) ?_
            obtain rfl := Option.some.inj h
            exact z_rz hx hb hr hlk rfl hW hS (Nat.le_of_ble_eq_true rfl) (Nat.le_of_ble_eq_true rfl) dX12_isUnder_30
def f_X12_plainWrites (st : zS) (o : Nat) (a1 : Int32) : Option (zS × Int32) := (if zTg st o ∈ [22] then (Option.bind (f_X12_ranBody st o (nI 1)) (fun st3 => (if zTg st3 o ∈ [22] then (some (st3, (a1 + (zM st3 o 22)))) else none))) else none)
set_option maxHeartbeats 1000000 in
set_option maxRecDepth 100000 in
theorem c_X12_plainWrites (l : Launch) (G : zG) (st : zS) (o : Nat) (a1 : Int32) {st' : zS} {r : Int32} (h : f_X12_plainWrites st o a1 = some (st', r)) : zMet l G yX12_plainWrites cX12_plainWrites 2 (some .int) 1 0 0 [.ref (G.2.2.2 + o), .int a1] st (some (.int r)) st' := by
  refine zMet_of (by decide +kernel) ?_
  intro p e s m args below meth c X
  obtain ⟨hx, hb, hr, hml, hown, hq, hlk, hK, -, hin, hW, hS⟩ := X
  have hown : s.vm.findClass RX12 = some m.cls := hown
  refine z_ent (by exact Nat.le_of_ble_eq_true rfl) (fun ls hl => ?_)
  have hl : lv_has ls 2 [(0, .ref (G.2.2.2 + o)), (1, .int a1)] := hl
  unfold f_X12_plainWrites at h
  refine lv_aload_n hx hb dX12_plainWrites_0 rfl (lv_at hl 0 rfl) ?_
  refine lv_iconst (v := (nI 1)) hx hb dX12_plainWrites_1 (by decide) ?_
  obtain ⟨t1, h⟩ := zc_at h
  obtain ⟨st3, c2, h⟩ := zd_at h
  refine z_cV hx hb hq hml hown hK hW hS 12 [.int ((nI 1))] [] rfl (List.mem_singleton.mp t1) (c_X12_ranBody l G st o (nI 1) c2) (zi zm1061) (zi zm1062) (zi zm1063) (zi zm5) (zi zm1064) cal_X12_ranBody rfl rfl hl.1 rfl (Nat.le_of_ble_eq_true rfl) (zR_ok (by omega) (by decide)) ⟨(Nat.le_of_ble_eq_true rfl), (Nat.le_of_ble_eq_true rfl)⟩ dX12_plainWrites_2 (fun H locs hW hS => ?_)
  refine W.eq (g2 := F0 m 5 ls []) rfl ?_
  refine lv_iload_n hx hb dX12_plainWrites_5 rfl (lv_at hl 1 rfl) ?_
  refine lv_aload_n hx hb dX12_plainWrites_6 rfl (lv_at hl 0 rfl) ?_
  obtain ⟨t4, h⟩ := zc_at h
  refine z_gI hx hb hq hown hK hW fs_RX12_229 t4 dX12_plainWrites_7 ?_
  refine lv_iadd hx hb dX12_plainWrites_10 ?_
  obtain ⟨rfl, rfl⟩ := Prod.mk.inj (Option.some.inj h)
  exact z_ri hx hb hr hlk hW hS (Nat.le_of_ble_eq_true rfl) (Nat.le_of_ble_eq_true rfl) dX12_plainWrites_11
def f_X12_writesActs (st : zS) (o : Nat) (a1 : Int32) : Option (zS × Int32) := (if zTg st o ∈ [22] then (Option.bind (f_X12_isUnder (zM st o 21) (nI 1)) (fun r3 => (if r3 = 0 then (if (zM st o 21) = (nI 5) then (Option.bind (f_X12_ranBody st o (nI 51)) (fun st8 => (if zTg st8 o ∈ [22] then (zb (f_X12_plainWrites st8 o a1) (fun st11 r12 => (if zTg st11 o ∈ [22] then (some (st11, (r12 ^^^ (zM st11 o 22)))) else none))) else none))) else (zb (f_X12_plainWrites st o a1) (fun st5 r6 => (some (st5, r6))))) else (Option.bind (f_X12_ranBody st o (nI 11)) (fun st15 => (if zTg st15 o ∈ [22] then (zb (f_X12_plainWrites st15 o (a1 * (nI 3))) (fun st18 r19 => (some (st18, r19)))) else none)))))) else none)
set_option maxHeartbeats 1000000 in
set_option maxRecDepth 100000 in
theorem c_X12_writesActs (l : Launch) (G : zG) (st : zS) (o : Nat) (a1 : Int32) {st' : zS} {r : Int32} (h : f_X12_writesActs st o a1 = some (st', r)) : zMet l G yX12_writesActs cX12_writesActs 2 (some .int) 2 0 0 [.ref (G.2.2.2 + o), .int a1] st (some (.int r)) st' := by
  refine zMet_of (by decide +kernel) ?_
  intro p e s m args below meth c X
  obtain ⟨hx, hb, hr, hml, hown, hq, hlk, hK, -, hin, hW, hS⟩ := X
  have hown : s.vm.findClass RX12 = some m.cls := hown
  refine z_ent (by exact Nat.le_of_ble_eq_true rfl) (fun ls hl => ?_)
  have hl : lv_has ls 2 [(0, .ref (G.2.2.2 + o)), (1, .int a1)] := hl
  unfold f_X12_writesActs at h
  refine lv_aload_n hx hb dX12_writesActs_0 rfl (lv_at hl 0 rfl) ?_
  obtain ⟨t1, h⟩ := zc_at h
  refine z_gI hx hb hq hown hK hW fs_RX12_232 t1 dX12_writesActs_1 ?_
  refine lv_iconst (v := (nI 1)) hx hb dX12_writesActs_4 (by decide) ?_
  obtain ⟨r3, c2, h⟩ := zd_at h
  refine z_cS hx hb hq hml hown hK hW hS [.int ((zM st o 21)), .int ((nI 1))] [] (c_X12_isUnder l G st (zM st o 21) (nI 1) c2) (zi zm1058) (zi zm1059) (zi zm5) (zi zm1060) cal_X12_isUnder rfl hl.1 rfl (Nat.le_of_ble_eq_true rfl) (zR_ok (by omega) (by decide)) ⟨(Nat.le_of_ble_eq_true rfl), (Nat.le_of_ble_eq_true rfl)⟩ dX12_writesActs_5 (fun H locs hW hS => ?_)
  refine W.eq (g2 := F0 m 8 ls [.int r3]) rfl ?_
  refine z_br (lv_if_eq (tgt := 25) hx hb dX12_writesActs_8 (by decide)) h (fun h => ?_) (fun h => ?_)
  · refine lv_aload_n hx hb dX12_writesActs_25 rfl (lv_at hl 0 rfl) ?_
    refine z_gI hx hb hq hown hK hW fs_RX12_232 t1 dX12_writesActs_26 ?_
    refine lv_iconst (v := (nI 5)) hx hb dX12_writesActs_29 (by decide) ?_
    refine z_brn (lv_icmp_ne (tgt := 50) hx hb dX12_writesActs_30 (by decide)) h (fun h => ?_) (fun h => ?_)
    · refine lv_aload_n hx hb dX12_writesActs_50 rfl (lv_at hl 0 rfl) ?_
      refine lv_iload_n hx hb dX12_writesActs_51 rfl (lv_at hl 1 rfl) ?_
      obtain ⟨st5, r6, c4, h⟩ := zb_at h
      refine z_cV hx hb hq hml hown hK hW hS 12 [.int a1] [] rfl (List.mem_singleton.mp t1) (c_X12_plainWrites l G st o a1 c4) (zi zm1065) (zi zm1066) (zi zm1067) (zi zm5) (zi zm1068) cal_X12_plainWrites rfl rfl hl.1 rfl (Nat.le_of_ble_eq_true rfl) (zR_ok (by omega) (by decide)) ⟨(Nat.le_of_ble_eq_true rfl), (Nat.le_of_ble_eq_true rfl)⟩ dX12_writesActs_52 (fun H locs hW hS => ?_)
      refine W.eq (g2 := F0 m 55 ls [.int r6]) rfl ?_
      obtain ⟨rfl, rfl⟩ := Prod.mk.inj (Option.some.inj h)
      exact z_ri hx hb hr hlk hW hS (Nat.le_of_ble_eq_true rfl) (Nat.le_of_ble_eq_true rfl) dX12_writesActs_55
    · refine lv_aload_n hx hb dX12_writesActs_33 rfl (lv_at hl 0 rfl) ?_
      refine lv_bipush (v := (nI 51)) hx hb dX12_writesActs_34 (by decide) ?_
      obtain ⟨st8, c7, h⟩ := zd_at h
      refine z_cV hx hb hq hml hown hK hW hS 12 [.int ((nI 51))] [] rfl (List.mem_singleton.mp t1) (c_X12_ranBody l G st o (nI 51) c7) (zi zm1061) (zi zm1062) (zi zm1063) (zi zm5) (zi zm1064) cal_X12_ranBody rfl rfl hl.1 rfl (Nat.le_of_ble_eq_true rfl) (zR_ok (by omega) (by decide)) ⟨(Nat.le_of_ble_eq_true rfl), (Nat.le_of_ble_eq_true rfl)⟩ dX12_writesActs_36 (fun H locs hW hS => ?_)
      refine W.eq (g2 := F0 m 39 ls []) rfl ?_
      refine lv_aload_n hx hb dX12_writesActs_39 rfl (lv_at hl 0 rfl) ?_
      refine lv_iload_n hx hb dX12_writesActs_40 rfl (lv_at hl 1 rfl) ?_
      obtain ⟨t9, h⟩ := zc_at h
      obtain ⟨st11, r12, c10, h⟩ := zb_at h
      refine z_cV hx hb hq hml hown hK hW hS 12 [.int a1] [] rfl (List.mem_singleton.mp t9) (c_X12_plainWrites l G st8 o a1 c10) (zi zm1065) (zi zm1066) (zi zm1067) (zi zm5) (zi zm1068) cal_X12_plainWrites rfl rfl hl.1 rfl (Nat.le_of_ble_eq_true rfl) (zR_ok (by omega) (by decide)) ⟨(Nat.le_of_ble_eq_true rfl), (Nat.le_of_ble_eq_true rfl)⟩ dX12_writesActs_41 (fun H locs hW hS => ?_)
      refine W.eq (g2 := F0 m 44 ls [.int r12]) rfl ?_
      refine lv_aload_n hx hb dX12_writesActs_44 rfl (lv_at hl 0 rfl) ?_
      obtain ⟨t13, h⟩ := zc_at h
      refine z_gI hx hb hq hown hK hW fs_RX12_229 t13 dX12_writesActs_45 ?_
      refine lv_ixor hx hb dX12_writesActs_48 ?_
      obtain ⟨rfl, rfl⟩ := Prod.mk.inj (Option.some.inj h)
      exact z_ri hx hb hr hlk hW hS (Nat.le_of_ble_eq_true rfl) (Nat.le_of_ble_eq_true rfl) dX12_writesActs_49
  · refine lv_aload_n hx hb dX12_writesActs_11 rfl (lv_at hl 0 rfl) ?_
    refine lv_bipush (v := (nI 11)) hx hb dX12_writesActs_12 (by decide) ?_
    obtain ⟨st15, c14, h⟩ := zd_at h
    refine z_cV hx hb hq hml hown hK hW hS 12 [.int ((nI 11))] [] rfl (List.mem_singleton.mp t1) (c_X12_ranBody l G st o (nI 11) c14) (zi zm1061) (zi zm1062) (zi zm1063) (zi zm5) (zi zm1064) cal_X12_ranBody rfl rfl hl.1 rfl (Nat.le_of_ble_eq_true rfl) (zR_ok (by omega) (by decide)) ⟨(Nat.le_of_ble_eq_true rfl), (Nat.le_of_ble_eq_true rfl)⟩ dX12_writesActs_14 (fun H locs hW hS => ?_)
    refine W.eq (g2 := F0 m 17 ls []) rfl ?_
    refine lv_aload_n hx hb dX12_writesActs_17 rfl (lv_at hl 0 rfl) ?_
    refine lv_iload_n hx hb dX12_writesActs_18 rfl (lv_at hl 1 rfl) ?_
    refine lv_iconst (v := (nI 3)) hx hb dX12_writesActs_19 (by decide) ?_
    refine lv_imul hx hb dX12_writesActs_20 ?_
    obtain ⟨t16, h⟩ := zc_at h
    obtain ⟨st18, r19, c17, h⟩ := zb_at h
    refine z_cV hx hb hq hml hown hK hW hS 12 [.int ((a1 * (nI 3)))] [] rfl (List.mem_singleton.mp t16) (c_X12_plainWrites l G st15 o (a1 * (nI 3)) c17) (zi zm1065) (zi zm1066) (zi zm1067) (zi zm5) (zi zm1068) cal_X12_plainWrites rfl rfl hl.1 rfl (Nat.le_of_ble_eq_true rfl) (zR_ok (by omega) (by decide)) ⟨(Nat.le_of_ble_eq_true rfl), (Nat.le_of_ble_eq_true rfl)⟩ dX12_writesActs_21 (fun H locs hW hS => ?_)
    refine W.eq (g2 := F0 m 24 ls [.int r19]) rfl ?_
    obtain ⟨rfl, rfl⟩ := Prod.mk.inj (Option.some.inj h)
    exact z_ri hx hb hr hlk hW hS (Nat.le_of_ble_eq_true rfl) (Nat.le_of_ble_eq_true rfl) dX12_writesActs_24
def f_X12_plainShows (st : zS) (o : Nat) (a1 : Int32) : Option (zS × Int32) := (if zTg st o ∈ [22] then (Option.bind (f_X12_ranBody st o (nI 2)) (fun st3 => (if zTg st3 o ∈ [22] then (zb (f_X12_writesActs st3 o a1) (fun st6 r7 => (if zTg st6 o ∈ [22] then (some (st6, (r7 - (zM st6 o 23)))) else none))) else none))) else none)
set_option maxHeartbeats 1000000 in
set_option maxRecDepth 100000 in
theorem c_X12_plainShows (l : Launch) (G : zG) (st : zS) (o : Nat) (a1 : Int32) {st' : zS} {r : Int32} (h : f_X12_plainShows st o a1 = some (st', r)) : zMet l G yX12_plainShows cX12_plainShows 2 (some .int) 3 0 0 [.ref (G.2.2.2 + o), .int a1] st (some (.int r)) st' := by
  refine zMet_of (by decide +kernel) ?_
  intro p e s m args below meth c X
  obtain ⟨hx, hb, hr, hml, hown, hq, hlk, hK, -, hin, hW, hS⟩ := X
  have hown : s.vm.findClass RX12 = some m.cls := hown
  refine z_ent (by exact Nat.le_of_ble_eq_true rfl) (fun ls hl => ?_)
  have hl : lv_has ls 2 [(0, .ref (G.2.2.2 + o)), (1, .int a1)] := hl
  unfold f_X12_plainShows at h
  refine lv_aload_n hx hb dX12_plainShows_0 rfl (lv_at hl 0 rfl) ?_
  refine lv_iconst (v := (nI 2)) hx hb dX12_plainShows_1 (by decide) ?_
  obtain ⟨t1, h⟩ := zc_at h
  obtain ⟨st3, c2, h⟩ := zd_at h
  refine z_cV hx hb hq hml hown hK hW hS 12 [.int ((nI 2))] [] rfl (List.mem_singleton.mp t1) (c_X12_ranBody l G st o (nI 2) c2) (zi zm1061) (zi zm1062) (zi zm1063) (zi zm5) (zi zm1064) cal_X12_ranBody rfl rfl hl.1 rfl (Nat.le_of_ble_eq_true rfl) (zR_ok (by omega) (by decide)) ⟨(Nat.le_of_ble_eq_true rfl), (Nat.le_of_ble_eq_true rfl)⟩ dX12_plainShows_2 (fun H locs hW hS => ?_)
  refine W.eq (g2 := F0 m 5 ls []) rfl ?_
  refine lv_aload_n hx hb dX12_plainShows_5 rfl (lv_at hl 0 rfl) ?_
  refine lv_iload_n hx hb dX12_plainShows_6 rfl (lv_at hl 1 rfl) ?_
  obtain ⟨t4, h⟩ := zc_at h
  obtain ⟨st6, r7, c5, h⟩ := zb_at h
  refine z_cV hx hb hq hml hown hK hW hS 12 [.int a1] [] rfl (List.mem_singleton.mp t4) (c_X12_writesActs l G st3 o a1 c5) (zi zm1054) (zi zm1055) (zi zm1056) (zi zm5) (zi zm1057) cal_X12_writesActs rfl rfl hl.1 rfl (Nat.le_of_ble_eq_true rfl) (zR_ok (by omega) (by decide)) ⟨(Nat.le_of_ble_eq_true rfl), (Nat.le_of_ble_eq_true rfl)⟩ dX12_plainShows_7 (fun H locs hW hS => ?_)
  refine W.eq (g2 := F0 m 10 ls [.int r7]) rfl ?_
  refine lv_aload_n hx hb dX12_plainShows_10 rfl (lv_at hl 0 rfl) ?_
  obtain ⟨t8, h⟩ := zc_at h
  refine z_gI hx hb hq hown hK hW fs_RX12_244 t8 dX12_plainShows_11 ?_
  refine lv_isub hx hb dX12_plainShows_14 ?_
  obtain ⟨rfl, rfl⟩ := Prod.mk.inj (Option.some.inj h)
  exact z_ri hx hb hr hlk hW hS (Nat.le_of_ble_eq_true rfl) (Nat.le_of_ble_eq_true rfl) dX12_plainShows_15
def f_X12_showsActs (st : zS) (o : Nat) (a1 : Int32) : Option (zS × Int32) := (if zTg st o ∈ [22] then (Option.bind (f_X12_isUnder (zM st o 21) (nI 2)) (fun r3 => (if r3 = 0 then (if (zM st o 21) = (nI 6) then (Option.bind (f_X12_ranBody st o (nI 61)) (fun st8 => (if zTg st8 o ∈ [22] then (zb (f_X12_plainShows st8 o a1) (fun st11 r12 => (if zTg st11 o ∈ [22] then (some (st11, (r12 + (zM st11 o 23)))) else none))) else none))) else (zb (f_X12_plainShows st o a1) (fun st5 r6 => (some (st5, r6))))) else (Option.bind (f_X12_ranBody st o (nI 21)) (fun st15 => (if zTg st15 o ∈ [22] then (zb (f_X12_plainShows st15 o a1) (fun st18 r19 => (some (st18, (-r19))))) else none)))))) else none)
set_option maxHeartbeats 1000000 in
set_option maxRecDepth 100000 in
theorem c_X12_showsActs (l : Launch) (G : zG) (st : zS) (o : Nat) (a1 : Int32) {st' : zS} {r : Int32} (h : f_X12_showsActs st o a1 = some (st', r)) : zMet l G yX12_showsActs cX12_showsActs 2 (some .int) 4 0 0 [.ref (G.2.2.2 + o), .int a1] st (some (.int r)) st' := by
  refine zMet_of (by decide +kernel) ?_
  intro p e s m args below meth c X
  obtain ⟨hx, hb, hr, hml, hown, hq, hlk, hK, -, hin, hW, hS⟩ := X
  have hown : s.vm.findClass RX12 = some m.cls := hown
  refine z_ent (by exact Nat.le_of_ble_eq_true rfl) (fun ls hl => ?_)
  have hl : lv_has ls 2 [(0, .ref (G.2.2.2 + o)), (1, .int a1)] := hl
  unfold f_X12_showsActs at h
  refine lv_aload_n hx hb dX12_showsActs_0 rfl (lv_at hl 0 rfl) ?_
  obtain ⟨t1, h⟩ := zc_at h
  refine z_gI hx hb hq hown hK hW fs_RX12_232 t1 dX12_showsActs_1 ?_
  refine lv_iconst (v := (nI 2)) hx hb dX12_showsActs_4 (by decide) ?_
  obtain ⟨r3, c2, h⟩ := zd_at h
  refine z_cS hx hb hq hml hown hK hW hS [.int ((zM st o 21)), .int ((nI 2))] [] (c_X12_isUnder l G st (zM st o 21) (nI 2) c2) (zi zm1058) (zi zm1059) (zi zm5) (zi zm1060) cal_X12_isUnder rfl hl.1 rfl (Nat.le_of_ble_eq_true rfl) (zR_ok (by omega) (by decide)) ⟨(Nat.le_of_ble_eq_true rfl), (Nat.le_of_ble_eq_true rfl)⟩ dX12_showsActs_5 (fun H locs hW hS => ?_)
  refine W.eq (g2 := F0 m 8 ls [.int r3]) rfl ?_
  refine z_br (lv_if_eq (tgt := 24) hx hb dX12_showsActs_8 (by decide)) h (fun h => ?_) (fun h => ?_)
  · refine lv_aload_n hx hb dX12_showsActs_24 rfl (lv_at hl 0 rfl) ?_
    refine z_gI hx hb hq hown hK hW fs_RX12_232 t1 dX12_showsActs_25 ?_
    refine lv_bipush (v := (nI 6)) hx hb dX12_showsActs_28 (by decide) ?_
    refine z_brn (lv_icmp_ne (tgt := 50) hx hb dX12_showsActs_30 (by decide)) h (fun h => ?_) (fun h => ?_)
    · refine lv_aload_n hx hb dX12_showsActs_50 rfl (lv_at hl 0 rfl) ?_
      refine lv_iload_n hx hb dX12_showsActs_51 rfl (lv_at hl 1 rfl) ?_
      obtain ⟨st5, r6, c4, h⟩ := zb_at h
      refine z_cV hx hb hq hml hown hK hW hS 12 [.int a1] [] rfl (List.mem_singleton.mp t1) (c_X12_plainShows l G st o a1 c4) (zi zm1073) (zi zm1074) (zi zm1075) (zi zm5) (zi zm1076) cal_X12_plainShows rfl rfl hl.1 rfl (Nat.le_of_ble_eq_true rfl) (zR_ok (by omega) (by decide)) ⟨(Nat.le_of_ble_eq_true rfl), (Nat.le_of_ble_eq_true rfl)⟩ dX12_showsActs_52 (fun H locs hW hS => ?_)
      refine W.eq (g2 := F0 m 55 ls [.int r6]) rfl ?_
      obtain ⟨rfl, rfl⟩ := Prod.mk.inj (Option.some.inj h)
      exact z_ri hx hb hr hlk hW hS (Nat.le_of_ble_eq_true rfl) (Nat.le_of_ble_eq_true rfl) dX12_showsActs_55
    · refine lv_aload_n hx hb dX12_showsActs_33 rfl (lv_at hl 0 rfl) ?_
      refine lv_bipush (v := (nI 61)) hx hb dX12_showsActs_34 (by decide) ?_
      obtain ⟨st8, c7, h⟩ := zd_at h
      refine z_cV hx hb hq hml hown hK hW hS 12 [.int ((nI 61))] [] rfl (List.mem_singleton.mp t1) (c_X12_ranBody l G st o (nI 61) c7) (zi zm1061) (zi zm1062) (zi zm1063) (zi zm5) (zi zm1064) cal_X12_ranBody rfl rfl hl.1 rfl (Nat.le_of_ble_eq_true rfl) (zR_ok (by omega) (by decide)) ⟨(Nat.le_of_ble_eq_true rfl), (Nat.le_of_ble_eq_true rfl)⟩ dX12_showsActs_36 (fun H locs hW hS => ?_)
      refine W.eq (g2 := F0 m 39 ls []) rfl ?_
      refine lv_aload_n hx hb dX12_showsActs_39 rfl (lv_at hl 0 rfl) ?_
      refine lv_iload_n hx hb dX12_showsActs_40 rfl (lv_at hl 1 rfl) ?_
      obtain ⟨t9, h⟩ := zc_at h
      obtain ⟨st11, r12, c10, h⟩ := zb_at h
      refine z_cV hx hb hq hml hown hK hW hS 12 [.int a1] [] rfl (List.mem_singleton.mp t9) (c_X12_plainShows l G st8 o a1 c10) (zi zm1073) (zi zm1074) (zi zm1075) (zi zm5) (zi zm1076) cal_X12_plainShows rfl rfl hl.1 rfl (Nat.le_of_ble_eq_true rfl) (zR_ok (by omega) (by decide)) ⟨(Nat.le_of_ble_eq_true rfl), (Nat.le_of_ble_eq_true rfl)⟩ dX12_showsActs_41 (fun H locs hW hS => ?_)
      refine W.eq (g2 := F0 m 44 ls [.int r12]) rfl ?_
      refine lv_aload_n hx hb dX12_showsActs_44 rfl (lv_at hl 0 rfl) ?_
      obtain ⟨t13, h⟩ := zc_at h
      refine z_gI hx hb hq hown hK hW fs_RX12_244 t13 dX12_showsActs_45 ?_
      refine lv_iadd hx hb dX12_showsActs_48 ?_
      obtain ⟨rfl, rfl⟩ := Prod.mk.inj (Option.some.inj h)
      exact z_ri hx hb hr hlk hW hS (Nat.le_of_ble_eq_true rfl) (Nat.le_of_ble_eq_true rfl) dX12_showsActs_49
  · refine lv_aload_n hx hb dX12_showsActs_11 rfl (lv_at hl 0 rfl) ?_
    refine lv_bipush (v := (nI 21)) hx hb dX12_showsActs_12 (by decide) ?_
    obtain ⟨st15, c14, h⟩ := zd_at h
    refine z_cV hx hb hq hml hown hK hW hS 12 [.int ((nI 21))] [] rfl (List.mem_singleton.mp t1) (c_X12_ranBody l G st o (nI 21) c14) (zi zm1061) (zi zm1062) (zi zm1063) (zi zm5) (zi zm1064) cal_X12_ranBody rfl rfl hl.1 rfl (Nat.le_of_ble_eq_true rfl) (zR_ok (by omega) (by decide)) ⟨(Nat.le_of_ble_eq_true rfl), (Nat.le_of_ble_eq_true rfl)⟩ dX12_showsActs_14 (fun H locs hW hS => ?_)
    refine W.eq (g2 := F0 m 17 ls []) rfl ?_
    refine lv_aload_n hx hb dX12_showsActs_17 rfl (lv_at hl 0 rfl) ?_
    refine lv_iload_n hx hb dX12_showsActs_18 rfl (lv_at hl 1 rfl) ?_
    obtain ⟨t16, h⟩ := zc_at h
    obtain ⟨st18, r19, c17, h⟩ := zb_at h
    refine z_cV hx hb hq hml hown hK hW hS 12 [.int a1] [] rfl (List.mem_singleton.mp t16) (c_X12_plainShows l G st15 o a1 c17) (zi zm1073) (zi zm1074) (zi zm1075) (zi zm5) (zi zm1076) cal_X12_plainShows rfl rfl hl.1 rfl (Nat.le_of_ble_eq_true rfl) (zR_ok (by omega) (by decide)) ⟨(Nat.le_of_ble_eq_true rfl), (Nat.le_of_ble_eq_true rfl)⟩ dX12_showsActs_19 (fun H locs hW hS => ?_)
    refine W.eq (g2 := F0 m 22 ls [.int r19]) rfl ?_
    refine lv_ineg hx hb dX12_showsActs_22 ?_
    obtain ⟨rfl, rfl⟩ := Prod.mk.inj (Option.some.inj h)
    exact z_ri hx hb hr hlk hW hS (Nat.le_of_ble_eq_true rfl) (Nat.le_of_ble_eq_true rfl) dX12_showsActs_23
def f_X12_plainTells (st : zS) (o : Nat) (a1 : Int32) : Option (zS × Int32) := (if zTg st o ∈ [22] then (Option.bind (f_X12_ranBody st o (nI 3)) (fun st3 => (if zTg st3 o ∈ [22] then (zb (f_X12_showsActs st3 o a1) (fun st6 r7 => (some (st6, (r7 * (nI 2)))))) else none))) else none)
set_option maxHeartbeats 1000000 in
set_option maxRecDepth 100000 in
theorem c_X12_plainTells (l : Launch) (G : zG) (st : zS) (o : Nat) (a1 : Int32) {st' : zS} {r : Int32} (h : f_X12_plainTells st o a1 = some (st', r)) : zMet l G yX12_plainTells cX12_plainTells 2 (some .int) 5 0 0 [.ref (G.2.2.2 + o), .int a1] st (some (.int r)) st' := by
  refine zMet_of (by decide +kernel) ?_
  intro p e s m args below meth c X
  obtain ⟨hx, hb, hr, hml, hown, hq, hlk, hK, -, hin, hW, hS⟩ := X
  have hown : s.vm.findClass RX12 = some m.cls := hown
  refine z_ent (by exact Nat.le_of_ble_eq_true rfl) (fun ls hl => ?_)
  have hl : lv_has ls 2 [(0, .ref (G.2.2.2 + o)), (1, .int a1)] := hl
  unfold f_X12_plainTells at h
  refine lv_aload_n hx hb dX12_plainTells_0 rfl (lv_at hl 0 rfl) ?_
  refine lv_iconst (v := (nI 3)) hx hb dX12_plainTells_1 (by decide) ?_
  obtain ⟨t1, h⟩ := zc_at h
  obtain ⟨st3, c2, h⟩ := zd_at h
  refine z_cV hx hb hq hml hown hK hW hS 12 [.int ((nI 3))] [] rfl (List.mem_singleton.mp t1) (c_X12_ranBody l G st o (nI 3) c2) (zi zm1061) (zi zm1062) (zi zm1063) (zi zm5) (zi zm1064) cal_X12_ranBody rfl rfl hl.1 rfl (Nat.le_of_ble_eq_true rfl) (zR_ok (by omega) (by decide)) ⟨(Nat.le_of_ble_eq_true rfl), (Nat.le_of_ble_eq_true rfl)⟩ dX12_plainTells_2 (fun H locs hW hS => ?_)
  refine W.eq (g2 := F0 m 5 ls []) rfl ?_
  refine lv_aload_n hx hb dX12_plainTells_5 rfl (lv_at hl 0 rfl) ?_
  refine lv_iload_n hx hb dX12_plainTells_6 rfl (lv_at hl 1 rfl) ?_
  obtain ⟨t4, h⟩ := zc_at h
  obtain ⟨st6, r7, c5, h⟩ := zb_at h
  refine z_cV hx hb hq hml hown hK hW hS 12 [.int a1] [] rfl (List.mem_singleton.mp t4) (c_X12_showsActs l G st3 o a1 c5) (zi zm1069) (zi zm1070) (zi zm1071) (zi zm5) (zi zm1072) cal_X12_showsActs rfl rfl hl.1 rfl (Nat.le_of_ble_eq_true rfl) (zR_ok (by omega) (by decide)) ⟨(Nat.le_of_ble_eq_true rfl), (Nat.le_of_ble_eq_true rfl)⟩ dX12_plainTells_7 (fun H locs hW hS => ?_)
  refine W.eq (g2 := F0 m 10 ls [.int r7]) rfl ?_
  refine lv_iconst (v := (nI 2)) hx hb dX12_plainTells_10 (by decide) ?_
  refine lv_imul hx hb dX12_plainTells_11 ?_
  obtain ⟨rfl, rfl⟩ := Prod.mk.inj (Option.some.inj h)
  exact z_ri hx hb hr hlk hW hS (Nat.le_of_ble_eq_true rfl) (Nat.le_of_ble_eq_true rfl) dX12_plainTells_12
def f_X12_tellsActs (st : zS) (o : Nat) (a1 : Int32) : Option (zS × Int32) := (if zTg st o ∈ [22] then (Option.bind (f_X12_isUnder (zM st o 21) (nI 3)) (fun r3 => (if r3 = 0 then (if (zM st o 21) = (nI 4) then (Option.bind (f_X12_ranBody st o (nI 41)) (fun st8 => (if zTg st8 o ∈ [22] then (zb (f_X12_plainTells st8 o (a1 - (nI 1))) (fun st11 r12 => (if zTg st11 o ∈ [22] then (zb (f_X12_writesActs st11 o (nI 2)) (fun st15 r16 => (some (st15, (r12 + r16))))) else none))) else none))) else (zb (f_X12_plainTells st o a1) (fun st5 r6 => (some (st5, r6))))) else (Option.bind (f_X12_ranBody st o (nI 31)) (fun st18 => (if zTg st18 o ∈ [22] then (zb (f_X12_plainTells st18 o a1) (fun st21 r22 => (some (st21, (r22 ^^^ (nI 7)))))) else none)))))) else none)
set_option maxHeartbeats 1000000 in
set_option maxRecDepth 100000 in
theorem c_X12_tellsActs (l : Launch) (G : zG) (st : zS) (o : Nat) (a1 : Int32) {st' : zS} {r : Int32} (h : f_X12_tellsActs st o a1 = some (st', r)) : zMet l G yX12_tellsActs cX12_tellsActs 3 (some .int) 6 0 0 [.ref (G.2.2.2 + o), .int a1] st (some (.int r)) st' := by
  refine zMet_of (by decide +kernel) ?_
  intro p e s m args below meth c X
  obtain ⟨hx, hb, hr, hml, hown, hq, hlk, hK, -, hin, hW, hS⟩ := X
  have hown : s.vm.findClass RX12 = some m.cls := hown
  refine z_ent (by exact Nat.le_of_ble_eq_true rfl) (fun ls hl => ?_)
  have hl : lv_has ls 3 [(0, .ref (G.2.2.2 + o)), (1, .int a1)] := hl
  unfold f_X12_tellsActs at h
  refine lv_aload_n hx hb dX12_tellsActs_0 rfl (lv_at hl 0 rfl) ?_
  obtain ⟨t1, h⟩ := zc_at h
  refine z_gI hx hb hq hown hK hW fs_RX12_232 t1 dX12_tellsActs_1 ?_
  refine lv_iconst (v := (nI 3)) hx hb dX12_tellsActs_4 (by decide) ?_
  obtain ⟨r3, c2, h⟩ := zd_at h
  refine z_cS hx hb hq hml hown hK hW hS [.int ((zM st o 21)), .int ((nI 3))] [] (c_X12_isUnder l G st (zM st o 21) (nI 3) c2) (zi zm1058) (zi zm1059) (zi zm5) (zi zm1060) cal_X12_isUnder rfl hl.1 rfl (Nat.le_of_ble_eq_true rfl) (zR_ok (by omega) (by decide)) ⟨(Nat.le_of_ble_eq_true rfl), (Nat.le_of_ble_eq_true rfl)⟩ dX12_tellsActs_5 (fun H locs hW hS => ?_)
  refine W.eq (g2 := F0 m 8 ls [.int r3]) rfl ?_
  refine z_br (lv_if_eq (tgt := 26) hx hb dX12_tellsActs_8 (by decide)) h (fun h => ?_) (fun h => ?_)
  · refine lv_aload_n hx hb dX12_tellsActs_26 rfl (lv_at hl 0 rfl) ?_
    refine z_gI hx hb hq hown hK hW fs_RX12_232 t1 dX12_tellsActs_27 ?_
    refine lv_iconst (v := (nI 4)) hx hb dX12_tellsActs_30 (by decide) ?_
    refine z_brn (lv_icmp_ne (tgt := 56) hx hb dX12_tellsActs_31 (by decide)) h (fun h => ?_) (fun h => ?_)
    · refine lv_aload_n hx hb dX12_tellsActs_56 rfl (lv_at hl 0 rfl) ?_
      refine lv_iload_n hx hb dX12_tellsActs_57 rfl (lv_at hl 1 rfl) ?_
      obtain ⟨st5, r6, c4, h⟩ := zb_at h
      refine z_cV hx hb hq hml hown hK hW hS 12 [.int a1] [] rfl (List.mem_singleton.mp t1) (c_X12_plainTells l G st o a1 c4) (zi zm1081) (zi zm1082) (zi zm1083) (zi zm5) (zi zm1084) cal_X12_plainTells rfl rfl hl.1 rfl (Nat.le_of_ble_eq_true rfl) (zR_ok (by omega) (by decide)) ⟨(Nat.le_of_ble_eq_true rfl), (Nat.le_of_ble_eq_true rfl)⟩ dX12_tellsActs_58 (fun H locs hW hS => ?_)
      refine W.eq (g2 := F0 m 61 ls [.int r6]) rfl ?_
      obtain ⟨rfl, rfl⟩ := Prod.mk.inj (Option.some.inj h)
      exact z_ri hx hb hr hlk hW hS (Nat.le_of_ble_eq_true rfl) (Nat.le_of_ble_eq_true rfl) dX12_tellsActs_61
    · refine lv_aload_n hx hb dX12_tellsActs_34 rfl (lv_at hl 0 rfl) ?_
      refine lv_bipush (v := (nI 41)) hx hb dX12_tellsActs_35 (by decide) ?_
      obtain ⟨st8, c7, h⟩ := zd_at h
      refine z_cV hx hb hq hml hown hK hW hS 12 [.int ((nI 41))] [] rfl (List.mem_singleton.mp t1) (c_X12_ranBody l G st o (nI 41) c7) (zi zm1061) (zi zm1062) (zi zm1063) (zi zm5) (zi zm1064) cal_X12_ranBody rfl rfl hl.1 rfl (Nat.le_of_ble_eq_true rfl) (zR_ok (by omega) (by decide)) ⟨(Nat.le_of_ble_eq_true rfl), (Nat.le_of_ble_eq_true rfl)⟩ dX12_tellsActs_37 (fun H locs hW hS => ?_)
      refine W.eq (g2 := F0 m 40 ls []) rfl ?_
      refine lv_aload_n hx hb dX12_tellsActs_40 rfl (lv_at hl 0 rfl) ?_
      refine lv_iload_n hx hb dX12_tellsActs_41 rfl (lv_at hl 1 rfl) ?_
      refine lv_iconst (v := (nI 1)) hx hb dX12_tellsActs_42 (by decide) ?_
      refine lv_isub hx hb dX12_tellsActs_43 ?_
      obtain ⟨t9, h⟩ := zc_at h
      obtain ⟨st11, r12, c10, h⟩ := zb_at h
      refine z_cV hx hb hq hml hown hK hW hS 12 [.int ((a1 - (nI 1)))] [] rfl (List.mem_singleton.mp t9) (c_X12_plainTells l G st8 o (a1 - (nI 1)) c10) (zi zm1081) (zi zm1082) (zi zm1083) (zi zm5) (zi zm1084) cal_X12_plainTells rfl rfl hl.1 rfl (Nat.le_of_ble_eq_true rfl) (zR_ok (by omega) (by decide)) ⟨(Nat.le_of_ble_eq_true rfl), (Nat.le_of_ble_eq_true rfl)⟩ dX12_tellsActs_44 (fun H locs hW hS => ?_)
      refine W.eq (g2 := F0 m 47 ls [.int r12]) rfl ?_
      refine lv_istore_n (lv' := [(2, .int r12), (0, .ref (G.2.2.2 + o)), (1, .int a1)]) hx hb dX12_tellsActs_47 rfl hl (by decide) rfl (fun ls hl => ?_)
      refine lv_iload_n hx hb dX12_tellsActs_48 rfl (lv_at hl 0 rfl) ?_
      refine lv_aload_n hx hb dX12_tellsActs_49 rfl (lv_at hl 1 rfl) ?_
      refine lv_iconst (v := (nI 2)) hx hb dX12_tellsActs_50 (by decide) ?_
      obtain ⟨t13, h⟩ := zc_at h
      obtain ⟨st15, r16, c14, h⟩ := zb_at h
      refine z_cV hx hb hq hml hown hK hW hS 12 [.int ((nI 2))] [.int r12] rfl (List.mem_singleton.mp t13) (c_X12_writesActs l G st11 o (nI 2) c14) (zi zm1054) (zi zm1055) (zi zm1056) (zi zm5) (zi zm1057) cal_X12_writesActs rfl rfl hl.1 rfl (Nat.le_of_ble_eq_true rfl) (zR_ok (by omega) (by decide)) ⟨(Nat.le_of_ble_eq_true rfl), (Nat.le_of_ble_eq_true rfl)⟩ dX12_tellsActs_51 (fun H locs hW hS => ?_)
      refine W.eq (g2 := F0 m 54 ls [.int r16, .int r12]) rfl ?_
      refine lv_iadd hx hb dX12_tellsActs_54 ?_
      obtain ⟨rfl, rfl⟩ := Prod.mk.inj (Option.some.inj h)
      exact z_ri hx hb hr hlk hW hS (Nat.le_of_ble_eq_true rfl) (Nat.le_of_ble_eq_true rfl) dX12_tellsActs_55
  · refine lv_aload_n hx hb dX12_tellsActs_11 rfl (lv_at hl 0 rfl) ?_
    refine lv_bipush (v := (nI 31)) hx hb dX12_tellsActs_12 (by decide) ?_
    obtain ⟨st18, c17, h⟩ := zd_at h
    refine z_cV hx hb hq hml hown hK hW hS 12 [.int ((nI 31))] [] rfl (List.mem_singleton.mp t1) (c_X12_ranBody l G st o (nI 31) c17) (zi zm1061) (zi zm1062) (zi zm1063) (zi zm5) (zi zm1064) cal_X12_ranBody rfl rfl hl.1 rfl (Nat.le_of_ble_eq_true rfl) (zR_ok (by omega) (by decide)) ⟨(Nat.le_of_ble_eq_true rfl), (Nat.le_of_ble_eq_true rfl)⟩ dX12_tellsActs_14 (fun H locs hW hS => ?_)
    refine W.eq (g2 := F0 m 17 ls []) rfl ?_
    refine lv_aload_n hx hb dX12_tellsActs_17 rfl (lv_at hl 0 rfl) ?_
    refine lv_iload_n hx hb dX12_tellsActs_18 rfl (lv_at hl 1 rfl) ?_
    obtain ⟨t19, h⟩ := zc_at h
    obtain ⟨st21, r22, c20, h⟩ := zb_at h
    refine z_cV hx hb hq hml hown hK hW hS 12 [.int a1] [] rfl (List.mem_singleton.mp t19) (c_X12_plainTells l G st18 o a1 c20) (zi zm1081) (zi zm1082) (zi zm1083) (zi zm5) (zi zm1084) cal_X12_plainTells rfl rfl hl.1 rfl (Nat.le_of_ble_eq_true rfl) (zR_ok (by omega) (by decide)) ⟨(Nat.le_of_ble_eq_true rfl), (Nat.le_of_ble_eq_true rfl)⟩ dX12_tellsActs_19 (fun H locs hW hS => ?_)
    refine W.eq (g2 := F0 m 22 ls [.int r22]) rfl ?_
    refine lv_bipush (v := (nI 7)) hx hb dX12_tellsActs_22 (by decide) ?_
    refine lv_ixor hx hb dX12_tellsActs_24 ?_
    obtain ⟨rfl, rfl⟩ := Prod.mk.inj (Option.some.inj h)
    exact z_ri hx hb hr hlk hW hS (Nat.le_of_ble_eq_true rfl) (Nat.le_of_ble_eq_true rfl) dX12_tellsActs_25
def f_X12_act (st : zS) (o : Nat) (a1 : Int32) (a2 : Int32) (a3 : Int32) : Option (zS × Int32) := (if zTg st o ∈ [22] then (Option.bind (f_X12_isWay (zPM st o 20 (nI 0)) o a1) (fun r3 => (if r3 = 0 then (some ((zPM st o 20 (nI 0)), (nI 0))) else (Option.bind (f_X12_in a2 (nI 0) (nI 2)) (fun r5 => (if r5 = 0 then (some ((zPM st o 20 (nI 0)), (nI 0))) else (Option.bind (zR (zPM st o 20 (nI 0)) o 1) (fun b6 => (if zTg (zPM st o 20 (nI 0)) b6 ∈ [1] then (if zin ((nI 11) + a1) (zLn (zPM st o 20 (nI 0)) b6) then (if zin ((nI 17) + a1) (zLn (zPM (zPM (zPM st o 20 (nI 0)) o 21 (zM (zPM st o 20 (nI 0)) b6 (((nI 11) + a1)).toNatClampNeg)) o 22 a1) b6) then (if a2 = 0 then (zb (f_X12_writesActs (zPM (zPM (zPM (zPM st o 20 (nI 0)) o 21 (zM (zPM st o 20 (nI 0)) b6 (((nI 11) + a1)).toNatClampNeg)) o 22 a1) o 23 (zM (zPM (zPM (zPM st o 20 (nI 0)) o 21 (zM (zPM st o 20 (nI 0)) b6 (((nI 11) + a1)).toNatClampNeg)) o 22 a1) b6 (((nI 17) + a1)).toNatClampNeg)) o a3) (fun st17 r18 => (some (st17, r18)))) else (if a2 = (nI 1) then (zb (f_X12_showsActs (zPM (zPM (zPM (zPM st o 20 (nI 0)) o 21 (zM (zPM st o 20 (nI 0)) b6 (((nI 11) + a1)).toNatClampNeg)) o 22 a1) o 23 (zM (zPM (zPM (zPM st o 20 (nI 0)) o 21 (zM (zPM st o 20 (nI 0)) b6 (((nI 11) + a1)).toNatClampNeg)) o 22 a1) b6 (((nI 17) + a1)).toNatClampNeg)) o a3) (fun st14 r15 => (some (st14, r15)))) else (zb (f_X12_tellsActs (zPM (zPM (zPM (zPM st o 20 (nI 0)) o 21 (zM (zPM st o 20 (nI 0)) b6 (((nI 11) + a1)).toNatClampNeg)) o 22 a1) o 23 (zM (zPM (zPM (zPM st o 20 (nI 0)) o 21 (zM (zPM st o 20 (nI 0)) b6 (((nI 11) + a1)).toNatClampNeg)) o 22 a1) b6 (((nI 17) + a1)).toNatClampNeg)) o a3) (fun st11 r12 => (some (st11, r12)))))) else none) else none) else none))))))))) else none)
set_option maxHeartbeats 1000000 in
set_option maxRecDepth 100000 in
theorem c_X12_act (l : Launch) (G : zG) (st : zS) (o : Nat) (a1 : Int32) (a2 : Int32) (a3 : Int32) {st' : zS} {r : Int32} (h : f_X12_act st o a1 a2 a3 = some (st', r)) : zMet l G yX12_act cX12_act 4 (some .int) 7 0 0 [.ref (G.2.2.2 + o), .int a1, .int a2, .int a3] st (some (.int r)) st' := by
  refine zMet_of (by decide +kernel) ?_
  intro p e s m args below meth c X
  obtain ⟨hx, hb, hr, hml, hown, hq, hlk, hK, -, hin, hW, hS⟩ := X
  have hown : s.vm.findClass RX12 = some m.cls := hown
  refine z_ent (by exact Nat.le_of_ble_eq_true rfl) (fun ls hl => ?_)
  have hl : lv_has ls 4 [(0, .ref (G.2.2.2 + o)), (1, .int a1), (2, .int a2), (3, .int a3)] := hl
  unfold f_X12_act at h
  refine lv_aload_n hx hb dX12_act_0 rfl (lv_at hl 0 rfl) ?_
  refine lv_iconst (v := (nI 0)) hx hb dX12_act_1 (by decide) ?_
  obtain ⟨t1, h⟩ := zc_at h
  refine z_pI hx hb hq hown hK hW hS fp_RX12_223 t1 (fun h => by cases h) rfl rfl dX12_act_2 (fun H locs hW hS => ?_)
  refine lv_aload_n hx hb dX12_act_5 rfl (lv_at hl 0 rfl) ?_
  refine lv_iload_n hx hb dX12_act_6 rfl (lv_at hl 1 rfl) ?_
  obtain ⟨r3, c2, h⟩ := zd_at h
  refine z_cV hx hb hq hml hown hK hW hS 12 [.int a1] [] rfl (List.mem_singleton.mp t1) (c_X12_isWay l G (zPM st o 20 (nI 0)) o a1 c2) (zi zm430) (zi zm431) (zi zm432) (zi zm5) (zi zm433) cal_X12_isWay rfl rfl hl.1 rfl (Nat.le_of_ble_eq_true rfl) (zR_ok (by omega) (by decide)) ⟨(Nat.le_of_ble_eq_true rfl), (Nat.le_of_ble_eq_true rfl)⟩ dX12_act_7 (fun H locs hW hS => ?_)
  refine W.eq (g2 := F0 m 10 ls [.int r3]) rfl ?_
  refine z_br (lv_if_eq (tgt := 22) hx hb dX12_act_10 (by decide)) h (fun h => ?_) (fun h => ?_)
  · refine lv_iconst (v := (nI 0)) hx hb dX12_act_22 (by decide) ?_
    obtain ⟨rfl, rfl⟩ := Prod.mk.inj (Option.some.inj h)
    exact z_ri hx hb hr hlk hW hS (Nat.le_of_ble_eq_true rfl) (Nat.le_of_ble_eq_true rfl) dX12_act_23
  · refine lv_iload_n hx hb dX12_act_13 rfl (lv_at hl 2 rfl) ?_
    refine lv_iconst (v := (nI 0)) hx hb dX12_act_14 (by decide) ?_
    refine lv_iconst (v := (nI 2)) hx hb dX12_act_15 (by decide) ?_
    obtain ⟨r5, c4, h⟩ := zd_at h
    refine z_cS hx hb hq hml hown hK hW hS [.int a2, .int ((nI 0)), .int ((nI 2))] [] (c_X12_in l G (zPM st o 20 (nI 0)) a2 (nI 0) (nI 2) c4) (zi zm90) (zi zm91) (zi zm5) (zi zm92) cal_X12_in rfl hl.1 rfl (Nat.le_of_ble_eq_true rfl) (zR_ok (by omega) (by decide)) ⟨(Nat.le_of_ble_eq_true rfl), (Nat.le_of_ble_eq_true rfl)⟩ dX12_act_16 (fun H locs hW hS => ?_)
    refine W.eq (g2 := F0 m 19 ls [.int r5]) rfl ?_
    refine z_brn (lv_if_ne (tgt := 24) hx hb dX12_act_19 (by decide)) h (fun h => ?_) (fun h => ?_)
    · refine lv_aload_n hx hb dX12_act_24 rfl (lv_at hl 0 rfl) ?_
      refine lv_aload_n hx hb dX12_act_25 rfl (lv_at hl 0 rfl) ?_
      obtain ⟨b6, hb6, h⟩ := zd_at h
      refine z_gR hx hb hq hown hK hW fs_RX12_9 t1 hb6 dX12_act_26 ?_
      refine lv_bipush (v := (nI 11)) hx hb dX12_act_29 (by decide) ?_
      refine lv_iload_n hx hb dX12_act_31 rfl (lv_at hl 1 rfl) ?_
      refine lv_iadd hx hb dX12_act_32 ?_
      obtain ⟨t7, h⟩ := zc_at h
      obtain ⟨t8, h⟩ := zc_at h
      refine z_alI hx hb hK hW (List.mem_singleton.mp t7) t8 dX12_act_33 ?_
      refine z_pI hx hb hq hown hK hW hS fp_RX12_232 t1 (fun h => by cases h) rfl rfl dX12_act_34 (fun H locs hW hS => ?_)
      refine lv_aload_n hx hb dX12_act_37 rfl (lv_at hl 0 rfl) ?_
      refine lv_iload_n hx hb dX12_act_38 rfl (lv_at hl 1 rfl) ?_
      refine z_pI hx hb hq hown hK hW hS fp_RX12_229 t1 (fun h => by cases h) rfl rfl dX12_act_39 (fun H locs hW hS => ?_)
      refine lv_aload_n hx hb dX12_act_42 rfl (lv_at hl 0 rfl) ?_
      refine lv_aload_n hx hb dX12_act_43 rfl (lv_at hl 0 rfl) ?_
      refine z_gR hx hb hq hown hK hW fs_RX12_9 t1 hb6 dX12_act_44 ?_
      refine lv_bipush (v := (nI 17)) hx hb dX12_act_47 (by decide) ?_
      refine lv_iload_n hx hb dX12_act_49 rfl (lv_at hl 1 rfl) ?_
      refine lv_iadd hx hb dX12_act_50 ?_
      obtain ⟨t9, h⟩ := zc_at h
      refine z_alI hx hb hK hW (List.mem_singleton.mp t7) t9 dX12_act_51 ?_
      refine z_pI hx hb hq hown hK hW hS fp_RX12_244 t1 (fun h => by cases h) rfl rfl dX12_act_52 (fun H locs hW hS => ?_)
      refine lv_iload_n hx hb dX12_act_55 rfl (lv_at hl 2 rfl) ?_
      refine z_brn (lv_if_ne (tgt := 67) hx hb dX12_act_56 (by decide)) h (fun h => ?_) (fun h => ?_)
      · refine lv_iload_n hx hb dX12_act_67 rfl (lv_at hl 2 rfl) ?_
        refine lv_iconst (v := (nI 1)) hx hb dX12_act_68 (by decide) ?_
        refine z_brn (lv_icmp_ne (tgt := 80) hx hb dX12_act_69 (by decide)) h (fun h => ?_) (fun h => ?_)
        · refine lv_aload_n hx hb dX12_act_80 rfl (lv_at hl 0 rfl) ?_
          refine lv_iload_n hx hb dX12_act_81 rfl (lv_at hl 3 rfl) ?_
          obtain ⟨st11, r12, c10, h⟩ := zb_at h
          refine z_cV hx hb hq hml hown hK hW hS 12 [.int a3] [] rfl (List.mem_singleton.mp t1) (c_X12_tellsActs l G (zPM (zPM (zPM (zPM st o 20 (nI 0)) o 21 (zM (zPM st o 20 (nI 0)) b6 (((nI 11) + a1)).toNatClampNeg)) o 22 a1) o 23 (zM (zPM (zPM (zPM st o 20 (nI 0)) o 21 (zM (zPM st o 20 (nI 0)) b6 (((nI 11) + a1)).toNatClampNeg)) o 22 a1) b6 (((nI 17) + a1)).toNatClampNeg)) o a3 c10) (zi zm1077) (zi zm1078) (zi zm1079) (zi zm5) (zi zm1080) cal_X12_tellsActs rfl rfl hl.1 rfl (Nat.le_of_ble_eq_true rfl) (zR_ok (by omega) (by decide)) ⟨(Nat.le_of_ble_eq_true rfl), (Nat.le_of_ble_eq_true rfl)⟩ dX12_act_82 (fun H locs hW hS => ?_)
          refine W.eq (g2 := F0 m 85 ls [.int r12]) rfl ?_
          obtain ⟨rfl, rfl⟩ := Prod.mk.inj (Option.some.inj h)
          exact z_ri hx hb hr hlk hW hS (Nat.le_of_ble_eq_true rfl) (Nat.le_of_ble_eq_true rfl) dX12_act_85
        · refine lv_aload_n hx hb dX12_act_72 rfl (lv_at hl 0 rfl) ?_
          refine lv_iload_n hx hb dX12_act_73 rfl (lv_at hl 3 rfl) ?_
          obtain ⟨st14, r15, c13, h⟩ := zb_at h
          refine z_cV hx hb hq hml hown hK hW hS 12 [.int a3] [] rfl (List.mem_singleton.mp t1) (c_X12_showsActs l G (zPM (zPM (zPM (zPM st o 20 (nI 0)) o 21 (zM (zPM st o 20 (nI 0)) b6 (((nI 11) + a1)).toNatClampNeg)) o 22 a1) o 23 (zM (zPM (zPM (zPM st o 20 (nI 0)) o 21 (zM (zPM st o 20 (nI 0)) b6 (((nI 11) + a1)).toNatClampNeg)) o 22 a1) b6 (((nI 17) + a1)).toNatClampNeg)) o a3 c13) (zi zm1069) (zi zm1070) (zi zm1071) (zi zm5) (zi zm1072) cal_X12_showsActs rfl rfl hl.1 rfl (Nat.le_of_ble_eq_true rfl) (zR_ok (by omega) (by decide)) ⟨(Nat.le_of_ble_eq_true rfl), (Nat.le_of_ble_eq_true rfl)⟩ dX12_act_74 (fun H locs hW hS => ?_)
          refine W.eq (g2 := F0 m 77 ls [.int r15]) rfl ?_
          refine lv_goto (tgt := 85) hx hb dX12_act_77 (by decide) ?_
          obtain ⟨rfl, rfl⟩ := Prod.mk.inj (Option.some.inj h)
          exact z_ri hx hb hr hlk hW hS (Nat.le_of_ble_eq_true rfl) (Nat.le_of_ble_eq_true rfl) dX12_act_85
      · refine lv_aload_n hx hb dX12_act_59 rfl (lv_at hl 0 rfl) ?_
        refine lv_iload_n hx hb dX12_act_60 rfl (lv_at hl 3 rfl) ?_
        obtain ⟨st17, r18, c16, h⟩ := zb_at h
        refine z_cV hx hb hq hml hown hK hW hS 12 [.int a3] [] rfl (List.mem_singleton.mp t1) (c_X12_writesActs l G (zPM (zPM (zPM (zPM st o 20 (nI 0)) o 21 (zM (zPM st o 20 (nI 0)) b6 (((nI 11) + a1)).toNatClampNeg)) o 22 a1) o 23 (zM (zPM (zPM (zPM st o 20 (nI 0)) o 21 (zM (zPM st o 20 (nI 0)) b6 (((nI 11) + a1)).toNatClampNeg)) o 22 a1) b6 (((nI 17) + a1)).toNatClampNeg)) o a3 c16) (zi zm1054) (zi zm1055) (zi zm1056) (zi zm5) (zi zm1057) cal_X12_writesActs rfl rfl hl.1 rfl (Nat.le_of_ble_eq_true rfl) (zR_ok (by omega) (by decide)) ⟨(Nat.le_of_ble_eq_true rfl), (Nat.le_of_ble_eq_true rfl)⟩ dX12_act_61 (fun H locs hW hS => ?_)
        refine W.eq (g2 := F0 m 64 ls [.int r18]) rfl ?_
        refine lv_goto (tgt := 85) hx hb dX12_act_64 (by decide) ?_
        obtain ⟨rfl, rfl⟩ := Prod.mk.inj (Option.some.inj h)
        exact z_ri hx hb hr hlk hW hS (Nat.le_of_ble_eq_true rfl) (Nat.le_of_ble_eq_true rfl) dX12_act_85
    · refine lv_iconst (v := (nI 0)) hx hb dX12_act_22 (by decide) ?_
      obtain ⟨rfl, rfl⟩ := Prod.mk.inj (Option.some.inj h)
      exact z_ri hx hb hr hlk hW hS (Nat.le_of_ble_eq_true rfl) (Nat.le_of_ble_eq_true rfl) dX12_act_23
def f_X12_trace_20 (st : zS) (o : Nat) (a1 : Int32)  (y0 : Int32) (y1 : Int32) (y2 : Int32) : Option Int32 := (Option.bind (f_X12_in y2 y1 (y0 - (nI 1))) (fun r3 => (if r3 = 0 then (some (-1 : Int32)) else (if zTg st o ∈ [22] then (Option.bind (zR st o 19) (fun b5 => (if zTg st b5 ∈ [1] then (if zin a1 (zLn st b5) then (some (zM st b5 (a1).toNatClampNeg)) else none) else none))) else none))))
def f_X12_trace (st : zS) (o : Nat) (a1 : Int32) : Option Int32 := (if zTg st o ∈ [22] then (if (nI 20) ≤ (zM st o 20) then (f_X12_trace_20 st o a1 (nI 20) (nI 0) a1) else (f_X12_trace_20 st o a1 (zM st o 20) (nI 0) a1)) else none)
set_option maxHeartbeats 1000000 in
set_option maxRecDepth 100000 in
theorem c_X12_trace (l : Launch) (G : zG) (st : zS) (o : Nat) (a1 : Int32) {r : Int32} (h : f_X12_trace st o a1 = some r) : zMet l G yX12_trace cX12_trace 2 (some .int) 1 0 0 [.ref (G.2.2.2 + o), .int a1] st (some (.int r)) st := by
  refine zMet_of (by decide +kernel) ?_
  intro p e s m args below meth c X
  obtain ⟨hx, hb, hr, hml, hown, hq, hlk, hK, -, hin, hW, hS⟩ := X
  have hown : s.vm.findClass RX12 = some m.cls := hown
  refine z_ent (by exact Nat.le_of_ble_eq_true rfl) (fun ls hl => ?_)
  have hl : lv_has ls 2 [(0, .ref (G.2.2.2 + o)), (1, .int a1)] := hl
  unfold f_X12_trace at h
  have B20 : ∀ (y0 : Int32) (y1 : Int32) (y2 : Int32) (H : Heap) (locs : List Loc) (ls : Array Slot), f_X12_trace_20 st o a1 y0 y1 y2 = some r → zWd G st H → va_S (zA G) s.heap H locs → lv_has ls 2 [(0, .ref (G.2.2.2 + o)), (1, .int a1)] → W p l e (zRm 1 0 0) s m args below meth c H locs 0 0 (MQ below (zQ G (some (.int r)) st) args s 0 0 (zA G)) (F0 m 20 ls [.int y0, .int y1, .int y2]) := by
    intro y0 y1 y2 H locs ls h hW hS hl
    unfold f_X12_trace_20 at h
    refine lv_iconst (v := (nI 1)) hx hb dX12_trace_20 (by decide) ?_
    refine lv_isub hx hb dX12_trace_21 ?_
    obtain ⟨r3, c2, h⟩ := zd_at h
    refine z_cS hx hb hq hml hown hK hW hS [.int y2, .int y1, .int ((y0 - (nI 1)))] [] (c_X12_in l G st y2 y1 (y0 - (nI 1)) c2) (zi zm90) (zi zm91) (zi zm5) (zi zm92) cal_X12_in rfl hl.1 rfl (Nat.le_of_ble_eq_true rfl) (zR_ok (by omega) (by decide)) ⟨(Nat.le_of_ble_eq_true rfl), (Nat.le_of_ble_eq_true rfl)⟩ dX12_trace_22 (fun H locs hW hS => ?_)
    refine W.eq (g2 := F0 m 25 ls [.int r3]) rfl ?_
    refine z_br (lv_if_eq (tgt := 37) hx hb dX12_trace_25 (by decide)) h (fun h => ?_) (fun h => ?_)
    · refine lv_iconst (v := (-1)) hx hb dX12_trace_37 (by decide) ?_
      obtain rfl := Option.some.inj h
      exact z_ri hx hb hr hlk hW hS (Nat.le_of_ble_eq_true rfl) (Nat.le_of_ble_eq_true rfl) dX12_trace_38
    · refine lv_aload_n hx hb dX12_trace_28 rfl (lv_at hl 0 rfl) ?_
      obtain ⟨t4, h⟩ := zc_at h
      obtain ⟨b5, hb5, h⟩ := zd_at h
      refine z_gR hx hb hq hown hK hW fs_RX12_31 t4 hb5 dX12_trace_29 ?_
      refine lv_iload_n hx hb dX12_trace_32 rfl (lv_at hl 1 rfl) ?_
      obtain ⟨t6, h⟩ := zc_at h
      obtain ⟨t7, h⟩ := zc_at h
      refine z_alI hx hb hK hW (List.mem_singleton.mp t6) t7 dX12_trace_33 ?_
      refine lv_goto (tgt := 38) hx hb dX12_trace_34 (by decide) ?_
      obtain rfl := Option.some.inj h
      exact z_ri hx hb hr hlk hW hS (Nat.le_of_ble_eq_true rfl) (Nat.le_of_ble_eq_true rfl) dX12_trace_38
  refine lv_iload_n hx hb dX12_trace_0 rfl (lv_at hl 1 rfl) ?_
  refine lv_iconst (v := (nI 0)) hx hb dX12_trace_1 (by decide) ?_
  refine lv_aload_n hx hb dX12_trace_2 rfl (lv_at hl 0 rfl) ?_
  obtain ⟨t1, h⟩ := zc_at h
  refine z_gI hx hb hq hown hK hW fs_RX12_223 t1 dX12_trace_3 ?_
  refine lv_bipush (v := (nI 20)) hx hb dX12_trace_6 (by decide) ?_
  refine z_br (lv_icmp_ge (tgt := 18) hx hb dX12_trace_8 (by decide)) h (fun h => ?_) (fun h => ?_)
  · refine lv_bipush (v := (nI 20)) hx hb dX12_trace_18 (by decide) ?_
    exact B20 (nI 20) (nI 0) a1 _ _ _ h hW hS (lv_sub hl [0, 1] rfl)
  · refine lv_aload_n hx hb dX12_trace_11 rfl (lv_at hl 0 rfl) ?_
    refine z_gI hx hb hq hown hK hW fs_RX12_223 t1 dX12_trace_12 ?_
    refine lv_goto (tgt := 20) hx hb dX12_trace_15 (by decide) ?_
    exact B20 (zM st o 20) (nI 0) a1 _ _ _ h hW hS (lv_sub hl [0, 1] rfl)
def f_X12_as (st : zS) (o : Nat) (a1 : Int32) (a2 : Int32) : Option Int32 := (if zTg st o ∈ [22] then (Option.bind (f_X12_isWay st o a1) (fun r3 => (if r3 = 0 then (some (-1 : Int32)) else (Option.bind (f_X12_in a2 (nI 0) (nI 6)) (fun r5 => (if r5 = 0 then (some (-1 : Int32)) else (Option.bind (zR st o 1) (fun b6 => (if zTg st b6 ∈ [1] then (if zin ((nI 11) + a1) (zLn st b6) then (Option.bind (f_X12_isUnder (zM st b6 (((nI 11) + a1)).toNatClampNeg) a2) (fun r10 => (if r10 = 0 then (some (-6 : Int32)) else (if zin ((nI 17) + a1) (zLn st b6) then (some (zM st b6 (((nI 17) + a1)).toNatClampNeg)) else none)))) else none) else none))))))))) else none)
set_option maxHeartbeats 1000000 in
set_option maxRecDepth 100000 in
theorem c_X12_as (l : Launch) (G : zG) (st : zS) (o : Nat) (a1 : Int32) (a2 : Int32) {r : Int32} (h : f_X12_as st o a1 a2 = some r) : zMet l G yX12_as cX12_as 3 (some .int) 2 0 0 [.ref (G.2.2.2 + o), .int a1, .int a2] st (some (.int r)) st := by
  refine zMet_of (by decide +kernel) ?_
  intro p e s m args below meth c X
  obtain ⟨hx, hb, hr, hml, hown, hq, hlk, hK, -, hin, hW, hS⟩ := X
  have hown : s.vm.findClass RX12 = some m.cls := hown
  refine z_ent (by exact Nat.le_of_ble_eq_true rfl) (fun ls hl => ?_)
  have hl : lv_has ls 3 [(0, .ref (G.2.2.2 + o)), (1, .int a1), (2, .int a2)] := hl
  unfold f_X12_as at h
  refine lv_aload_n hx hb dX12_as_0 rfl (lv_at hl 0 rfl) ?_
  refine lv_iload_n hx hb dX12_as_1 rfl (lv_at hl 1 rfl) ?_
  obtain ⟨t1, h⟩ := zc_at h
  obtain ⟨r3, c2, h⟩ := zd_at h
  refine z_cV hx hb hq hml hown hK hW hS 12 [.int a1] [] rfl (List.mem_singleton.mp t1) (c_X12_isWay l G st o a1 c2) (zi zm430) (zi zm431) (zi zm432) (zi zm5) (zi zm433) cal_X12_isWay rfl rfl hl.1 rfl (Nat.le_of_ble_eq_true rfl) (zR_ok (by omega) (by decide)) ⟨(Nat.le_of_ble_eq_true rfl), (Nat.le_of_ble_eq_true rfl)⟩ dX12_as_2 (fun H locs hW hS => ?_)
  refine W.eq (g2 := F0 m 5 ls [.int r3]) rfl ?_
  refine z_br (lv_if_eq (tgt := 18) hx hb dX12_as_5 (by decide)) h (fun h => ?_) (fun h => ?_)
  · refine lv_iconst (v := (-1)) hx hb dX12_as_18 (by decide) ?_
    obtain rfl := Option.some.inj h
    exact z_ri hx hb hr hlk hW hS (Nat.le_of_ble_eq_true rfl) (Nat.le_of_ble_eq_true rfl) dX12_as_19
  · refine lv_iload_n hx hb dX12_as_8 rfl (lv_at hl 2 rfl) ?_
    refine lv_iconst (v := (nI 0)) hx hb dX12_as_9 (by decide) ?_
    refine lv_bipush (v := (nI 6)) hx hb dX12_as_10 (by decide) ?_
    obtain ⟨r5, c4, h⟩ := zd_at h
    refine z_cS hx hb hq hml hown hK hW hS [.int a2, .int ((nI 0)), .int ((nI 6))] [] (c_X12_in l G st a2 (nI 0) (nI 6) c4) (zi zm90) (zi zm91) (zi zm5) (zi zm92) cal_X12_in rfl hl.1 rfl (Nat.le_of_ble_eq_true rfl) (zR_ok (by omega) (by decide)) ⟨(Nat.le_of_ble_eq_true rfl), (Nat.le_of_ble_eq_true rfl)⟩ dX12_as_12 (fun H locs hW hS => ?_)
    refine W.eq (g2 := F0 m 15 ls [.int r5]) rfl ?_
    refine z_brn (lv_if_ne (tgt := 20) hx hb dX12_as_15 (by decide)) h (fun h => ?_) (fun h => ?_)
    · refine lv_aload_n hx hb dX12_as_20 rfl (lv_at hl 0 rfl) ?_
      obtain ⟨b6, hb6, h⟩ := zd_at h
      refine z_gR hx hb hq hown hK hW fs_RX12_9 t1 hb6 dX12_as_21 ?_
      refine lv_bipush (v := (nI 11)) hx hb dX12_as_24 (by decide) ?_
      refine lv_iload_n hx hb dX12_as_26 rfl (lv_at hl 1 rfl) ?_
      refine lv_iadd hx hb dX12_as_27 ?_
      obtain ⟨t7, h⟩ := zc_at h
      obtain ⟨t8, h⟩ := zc_at h
      refine z_alI hx hb hK hW (List.mem_singleton.mp t7) t8 dX12_as_28 ?_
      refine lv_iload_n hx hb dX12_as_29 rfl (lv_at hl 2 rfl) ?_
      obtain ⟨r10, c9, h⟩ := zd_at h
      refine z_cS hx hb hq hml hown hK hW hS [.int ((zM st b6 (((nI 11) + a1)).toNatClampNeg)), .int a2] [] (c_X12_isUnder l G st (zM st b6 (((nI 11) + a1)).toNatClampNeg) a2 c9) (zi zm1058) (zi zm1059) (zi zm5) (zi zm1060) cal_X12_isUnder rfl hl.1 rfl (Nat.le_of_ble_eq_true rfl) (zR_ok (by omega) (by decide)) ⟨(Nat.le_of_ble_eq_true rfl), (Nat.le_of_ble_eq_true rfl)⟩ dX12_as_30 (fun H locs hW hS => ?_)
      refine W.eq (g2 := F0 m 33 ls [.int r10]) rfl ?_
      refine z_br (lv_if_eq (tgt := 48) hx hb dX12_as_33 (by decide)) h (fun h => ?_) (fun h => ?_)
      · refine lv_bipush (v := (-6)) hx hb dX12_as_48 (by decide) ?_
        obtain rfl := Option.some.inj h
        exact z_ri hx hb hr hlk hW hS (Nat.le_of_ble_eq_true rfl) (Nat.le_of_ble_eq_true rfl) dX12_as_50
      · refine lv_aload_n hx hb dX12_as_36 rfl (lv_at hl 0 rfl) ?_
        refine z_gR hx hb hq hown hK hW fs_RX12_9 t1 hb6 dX12_as_37 ?_
        refine lv_bipush (v := (nI 17)) hx hb dX12_as_40 (by decide) ?_
        refine lv_iload_n hx hb dX12_as_42 rfl (lv_at hl 1 rfl) ?_
        refine lv_iadd hx hb dX12_as_43 ?_
        obtain ⟨t11, h⟩ := zc_at h
        refine z_alI hx hb hK hW (List.mem_singleton.mp t7) t11 dX12_as_44 ?_
        refine lv_goto (tgt := 50) hx hb dX12_as_45 (by decide) ?_
        obtain rfl := Option.some.inj h
        exact z_ri hx hb hr hlk hW hS (Nat.le_of_ble_eq_true rfl) (Nat.le_of_ble_eq_true rfl) dX12_as_50
    · refine lv_iconst (v := (-1)) hx hb dX12_as_18 (by decide) ?_
      obtain rfl := Option.some.inj h
      exact z_ri hx hb hr hlk hW hS (Nat.le_of_ble_eq_true rfl) (Nat.le_of_ble_eq_true rfl) dX12_as_19
def f_X12_image_2 (N : Nat) (o : Nat)  : Nat → zS → Int32 → Option (zS × Int32)
  | 0, _, _ => none
  | n2 + 1, st, x1 => (if (nI 948) ≤ x1 then (if zTg st o ∈ [22] then (Option.bind (zR (zPM st o 3 (nI 1)) o 1) (fun b2 => (if zTg (zPM st o 3 (nI 1)) b2 ∈ [1] then (if zin (nI 0) (zLn (zPM st o 3 (nI 1)) b2) then (some ((zPM st o 3 (nI 1)), (zM (zPM st o 3 (nI 1)) b2 ((nI 0)).toNatClampNeg))) else none) else none))) else none) else (if zTg st o ∈ [22] then (Option.bind (zR st o 2) (fun b6 => (Option.bind (zR st o 1) (fun b7 => (if zTg st b7 ∈ [1] then (if zin x1 (zLn st b7) then (if zTg st b6 ∈ [1] then (if zin x1 (zLn st b6) then ((f_X12_image_2 N o n2) (zPM st b6 (x1).toNatClampNeg (zM st b7 (x1).toNatClampNeg)) (x1 + (nI 1))) else none) else none) else none) else none))))) else none))
def f_X12_image (N : Nat) (st : zS) (o : Nat) : Option (zS × Int32) := (f_X12_image_2 N o N st (nI 0))
set_option maxHeartbeats 1000000 in
set_option maxRecDepth 100000 in
theorem c_X12_image (l : Launch) (G : zG) (N : Nat) (st : zS) (o : Nat) {st' : zS} {r : Int32} (h : f_X12_image N st o = some (st', r)) : zMet l G yX12_image cX12_image 2 (some .int) 0 0 0 [.ref (G.2.2.2 + o)] st (some (.int r)) st' := by
  refine zMet_of (by decide +kernel) ?_
  intro p e s m args below meth c X
  obtain ⟨hx, hb, hr, hml, hown, hq, hlk, hK, -, hin, hW, hS⟩ := X
  have hown : s.vm.findClass RX12 = some m.cls := hown
  refine z_ent (by exact Nat.le_of_ble_eq_true rfl) (fun ls hl => ?_)
  have hl : lv_has ls 2 [(0, .ref (G.2.2.2 + o))] := hl
  unfold f_X12_image at h
  have B2 : ∀ (n2 : Nat) (st : zS) (x1 : Int32) (H : Heap) (locs : List Loc) (ls : Array Slot), f_X12_image_2 N o n2 st x1 = some (st', r) → zWd G st H → va_S (zA G) s.heap H locs → lv_has ls 2 [(0, .ref (G.2.2.2 + o)), (1, .int x1)] → W p l e (zRm 0 0 0) s m args below meth c H locs 0 0 (MQ below (zQ G (some (.int r)) st') args s 0 0 (zA G)) (F0 m 2 ls []) := by
    intro n2
    induction n2 with
    | zero =>
      intro st x1 H locs ls h
      unfold f_X12_image_2 at h
      cases h
    | succ n2 ih2 =>
      intro st x1 H locs ls h hW hS hl
      unfold f_X12_image_2 at h
      refine lv_iload_n hx hb dX12_image_2 rfl (lv_at hl 1 rfl) ?_
      refine lv_sipush (v := (nI 948)) hx hb dX12_image_3 (by decide) ?_
      refine z_br (lv_icmp_ge (tgt := 27) hx hb dX12_image_6 (by decide)) h (fun h => ?_) (fun h => ?_)
      · refine lv_aload_n hx hb dX12_image_27 rfl (lv_at hl 0 rfl) ?_
        refine lv_iconst (v := (nI 1)) hx hb dX12_image_28 (by decide) ?_
        obtain ⟨t1, h⟩ := zc_at h
        refine z_pI hx hb hq hown hK hW hS fp_RX12_259 t1 (fun h => by cases h) rfl rfl dX12_image_29 (fun H locs hW hS => ?_)
        refine lv_aload_n hx hb dX12_image_32 rfl (lv_at hl 0 rfl) ?_
        obtain ⟨b2, hb2, h⟩ := zd_at h
        refine z_gR hx hb hq hown hK hW fs_RX12_9 t1 hb2 dX12_image_33 ?_
        refine lv_iconst (v := (nI 0)) hx hb dX12_image_36 (by decide) ?_
        obtain ⟨t3, h⟩ := zc_at h
        obtain ⟨t4, h⟩ := zc_at h
        refine z_alI hx hb hK hW (List.mem_singleton.mp t3) t4 dX12_image_37 ?_
        obtain ⟨rfl, rfl⟩ := Prod.mk.inj (Option.some.inj h)
        exact z_ri hx hb hr hlk hW hS (Nat.le_of_ble_eq_true rfl) (Nat.le_of_ble_eq_true rfl) dX12_image_38
      · refine lv_aload_n hx hb dX12_image_9 rfl (lv_at hl 0 rfl) ?_
        obtain ⟨t5, h⟩ := zc_at h
        obtain ⟨b6, hb6, h⟩ := zd_at h
        refine z_gR hx hb hq hown hK hW fs_RX12_15 t5 hb6 dX12_image_10 ?_
        refine lv_iload_n hx hb dX12_image_13 rfl (lv_at hl 1 rfl) ?_
        refine lv_aload_n hx hb dX12_image_14 rfl (lv_at hl 0 rfl) ?_
        obtain ⟨b7, hb7, h⟩ := zd_at h
        refine z_gR hx hb hq hown hK hW fs_RX12_9 t5 hb7 dX12_image_15 ?_
        refine lv_iload_n hx hb dX12_image_18 rfl (lv_at hl 1 rfl) ?_
        obtain ⟨t8, h⟩ := zc_at h
        obtain ⟨t9, h⟩ := zc_at h
        refine z_alI hx hb hK hW (List.mem_singleton.mp t8) t9 dX12_image_19 ?_
        obtain ⟨t10, h⟩ := zc_at h
        obtain ⟨t11, h⟩ := zc_at h
        refine z_asI hx hb hK hW hS (List.mem_singleton.mp t10) t11 dX12_image_20 (fun H locs hW hS => ?_)
        refine lv_iinc (v := (x1 + (nI 1))) (lv' := [(1, .int ((x1 + (nI 1)))), (0, .ref (G.2.2.2 + o))]) hx hb dX12_image_21 hl (k := 1) rfl rfl (by decide) rfl (fun ls hl => ?_)
        refine lv_goto (tgt := 2) hx hb dX12_image_24 (by decide) ?_
        exact ih2 (zPM st b6 (x1).toNatClampNeg (zM st b7 (x1).toNatClampNeg)) (x1 + (nI 1)) _ _ _ h hW hS (lv_sub hl [1, 0] rfl)
  refine lv_iconst (v := (nI 0)) hx hb dX12_image_0 (by decide) ?_
  refine lv_istore_n (lv' := [(1, .int ((nI 0))), (0, .ref (G.2.2.2 + o))]) hx hb dX12_image_1 rfl hl (by decide) rfl (fun ls hl => ?_)
  exact B2 N st (nI 0) _ _ _ h hW hS (lv_sub hl [1, 0] rfl)
def f_X12_undo_12 (N : Nat) (o : Nat)  : Nat → zS → Int32 → Option (zS × Int32)
  | 0, _, _ => none
  | n12 + 1, st, x1 => (if (nI 948) ≤ x1 then (if zTg st o ∈ [22] then (Option.bind (zR st o 1) (fun b3 => (if zTg st b3 ∈ [1] then (if zin (nI 0) (zLn st b3) then (some (st, (zM st b3 ((nI 0)).toNatClampNeg))) else none) else none))) else none) else (if zTg st o ∈ [22] then (Option.bind (zR st o 1) (fun b7 => (Option.bind (zR st o 2) (fun b8 => (if zTg st b8 ∈ [1] then (if zin x1 (zLn st b8) then (if zTg st b7 ∈ [1] then (if zin x1 (zLn st b7) then ((f_X12_undo_12 N o n12) (zPM st b7 (x1).toNatClampNeg (zM st b8 (x1).toNatClampNeg)) (x1 + (nI 1))) else none) else none) else none) else none))))) else none))
def f_X12_undo (N : Nat) (st : zS) (o : Nat) : Option (zS × Int32) := (if zTg st o ∈ [22] then (if (zM st o 3) = 0 then (some (st, (-3 : Int32))) else (f_X12_undo_12 N o N st (nI 0))) else none)
set_option maxHeartbeats 1000000 in
set_option maxRecDepth 100000 in
theorem c_X12_undo (l : Launch) (G : zG) (N : Nat) (st : zS) (o : Nat) {st' : zS} {r : Int32} (h : f_X12_undo N st o = some (st', r)) : zMet l G yX12_undo cX12_undo 2 (some .int) 0 0 0 [.ref (G.2.2.2 + o)] st (some (.int r)) st' := by
  refine zMet_of (by decide +kernel) ?_
  intro p e s m args below meth c X
  obtain ⟨hx, hb, hr, hml, hown, hq, hlk, hK, -, hin, hW, hS⟩ := X
  have hown : s.vm.findClass RX12 = some m.cls := hown
  refine z_ent (by exact Nat.le_of_ble_eq_true rfl) (fun ls hl => ?_)
  have hl : lv_has ls 2 [(0, .ref (G.2.2.2 + o))] := hl
  unfold f_X12_undo at h
  have B12 : ∀ (n12 : Nat) (st : zS) (x1 : Int32) (H : Heap) (locs : List Loc) (ls : Array Slot), f_X12_undo_12 N o n12 st x1 = some (st', r) → zWd G st H → va_S (zA G) s.heap H locs → lv_has ls 2 [(0, .ref (G.2.2.2 + o)), (1, .int x1)] → W p l e (zRm 0 0 0) s m args below meth c H locs 0 0 (MQ below (zQ G (some (.int r)) st') args s 0 0 (zA G)) (F0 m 12 ls []) := by
    intro n12
    induction n12 with
    | zero =>
      intro st x1 H locs ls h
      unfold f_X12_undo_12 at h
      cases h
    | succ n12 ih12 =>
      intro st x1 H locs ls h hW hS hl
      unfold f_X12_undo_12 at h
      refine lv_iload_n hx hb dX12_undo_12 rfl (lv_at hl 1 rfl) ?_
      refine lv_sipush (v := (nI 948)) hx hb dX12_undo_13 (by decide) ?_
      refine z_br (lv_icmp_ge (tgt := 37) hx hb dX12_undo_16 (by decide)) h (fun h => ?_) (fun h => ?_)
      · refine lv_aload_n hx hb dX12_undo_37 rfl (lv_at hl 0 rfl) ?_
        obtain ⟨t2, h⟩ := zc_at h
        obtain ⟨b3, hb3, h⟩ := zd_at h
        refine z_gR hx hb hq hown hK hW fs_RX12_9 t2 hb3 dX12_undo_38 ?_
        refine lv_iconst (v := (nI 0)) hx hb dX12_undo_41 (by decide) ?_
        obtain ⟨t4, h⟩ := zc_at h
        obtain ⟨t5, h⟩ := zc_at h
        refine z_alI hx hb hK hW (List.mem_singleton.mp t4) t5 dX12_undo_42 ?_
        obtain ⟨rfl, rfl⟩ := Prod.mk.inj (Option.some.inj h)
        exact z_ri hx hb hr hlk hW hS (Nat.le_of_ble_eq_true rfl) (Nat.le_of_ble_eq_true rfl) dX12_undo_43
      · refine lv_aload_n hx hb dX12_undo_19 rfl (lv_at hl 0 rfl) ?_
        obtain ⟨t6, h⟩ := zc_at h
        obtain ⟨b7, hb7, h⟩ := zd_at h
        refine z_gR hx hb hq hown hK hW fs_RX12_9 t6 hb7 dX12_undo_20 ?_
        refine lv_iload_n hx hb dX12_undo_23 rfl (lv_at hl 1 rfl) ?_
        refine lv_aload_n hx hb dX12_undo_24 rfl (lv_at hl 0 rfl) ?_
        obtain ⟨b8, hb8, h⟩ := zd_at h
        refine z_gR hx hb hq hown hK hW fs_RX12_15 t6 hb8 dX12_undo_25 ?_
        refine lv_iload_n hx hb dX12_undo_28 rfl (lv_at hl 1 rfl) ?_
        obtain ⟨t9, h⟩ := zc_at h
        obtain ⟨t10, h⟩ := zc_at h
        refine z_alI hx hb hK hW (List.mem_singleton.mp t9) t10 dX12_undo_29 ?_
        obtain ⟨t11, h⟩ := zc_at h
        obtain ⟨t12, h⟩ := zc_at h
        refine z_asI hx hb hK hW hS (List.mem_singleton.mp t11) t12 dX12_undo_30 (fun H locs hW hS => ?_)
        refine lv_iinc (v := (x1 + (nI 1))) (lv' := [(1, .int ((x1 + (nI 1)))), (0, .ref (G.2.2.2 + o))]) hx hb dX12_undo_31 hl (k := 1) rfl rfl (by decide) rfl (fun ls hl => ?_)
        refine lv_goto (tgt := 12) hx hb dX12_undo_34 (by decide) ?_
        exact ih12 (zPM st b7 (x1).toNatClampNeg (zM st b8 (x1).toNatClampNeg)) (x1 + (nI 1)) _ _ _ h hW hS (lv_sub hl [1, 0] rfl)
  refine lv_aload_n hx hb dX12_undo_0 rfl (lv_at hl 0 rfl) ?_
  obtain ⟨t1, h⟩ := zc_at h
  refine z_gI hx hb hq hown hK hW fs_RX12_259 t1 dX12_undo_1 ?_
  refine z_brn (lv_if_ne (tgt := 10) hx hb dX12_undo_4 (by decide)) h (fun h => ?_) (fun h => ?_)
  · refine lv_iconst (v := (nI 0)) hx hb dX12_undo_10 (by decide) ?_
    refine lv_istore_n (lv' := [(1, .int ((nI 0))), (0, .ref (G.2.2.2 + o))]) hx hb dX12_undo_11 rfl hl (by decide) rfl (fun ls hl => ?_)
    exact B12 N st (nI 0) _ _ _ h hW hS (lv_sub hl [1, 0] rfl)
  · refine lv_bipush (v := (-3)) hx hb dX12_undo_7 (by decide) ?_
    obtain ⟨rfl, rfl⟩ := Prod.mk.inj (Option.some.inj h)
    exact z_ri hx hb hr hlk hW hS (Nat.le_of_ble_eq_true rfl) (Nat.le_of_ble_eq_true rfl) dX12_undo_9
def f_X12_count (st : zS) (o : Nat) (a1 : Int32) : Option Int32 := (if a1 = (nI 7) then (if zTg st o ∈ [22] then (some (zM st o 20)) else none) else (Option.bind (f_X12_in a1 (nI 0) (nI 6)) (fun r2 => (if r2 = 0 then (some (-1 : Int32)) else (if zTg st o ∈ [22] then (Option.bind (zR st o 1) (fun b4 => (if zTg st b4 ∈ [1] then (if zin a1 (zLn st b4) then (some (zM st b4 (a1).toNatClampNeg)) else none) else none))) else none)))))
set_option maxHeartbeats 1000000 in
set_option maxRecDepth 100000 in
theorem c_X12_count (l : Launch) (G : zG) (st : zS) (o : Nat) (a1 : Int32) {r : Int32} (h : f_X12_count st o a1 = some r) : zMet l G yX12_count cX12_count 2 (some .int) 1 0 0 [.ref (G.2.2.2 + o), .int a1] st (some (.int r)) st := by
  refine zMet_of (by decide +kernel) ?_
  intro p e s m args below meth c X
  obtain ⟨hx, hb, hr, hml, hown, hq, hlk, hK, -, hin, hW, hS⟩ := X
  have hown : s.vm.findClass RX12 = some m.cls := hown
  refine z_ent (by exact Nat.le_of_ble_eq_true rfl) (fun ls hl => ?_)
  have hl : lv_has ls 2 [(0, .ref (G.2.2.2 + o)), (1, .int a1)] := hl
  unfold f_X12_count at h
  refine lv_iload_n hx hb dX12_count_0 rfl (lv_at hl 1 rfl) ?_
  refine lv_bipush (v := (nI 7)) hx hb dX12_count_1 (by decide) ?_
  refine z_brn (lv_icmp_ne (tgt := 13) hx hb dX12_count_3 (by decide)) h (fun h => ?_) (fun h => ?_)
  · refine lv_iload_n hx hb dX12_count_13 rfl (lv_at hl 1 rfl) ?_
    refine lv_iconst (v := (nI 0)) hx hb dX12_count_14 (by decide) ?_
    refine lv_bipush (v := (nI 6)) hx hb dX12_count_15 (by decide) ?_
    obtain ⟨r2, c1, h⟩ := zd_at h
    refine z_cS hx hb hq hml hown hK hW hS [.int a1, .int ((nI 0)), .int ((nI 6))] [] (c_X12_in l G st a1 (nI 0) (nI 6) c1) (zi zm90) (zi zm91) (zi zm5) (zi zm92) cal_X12_in rfl hl.1 rfl (Nat.le_of_ble_eq_true rfl) (zR_ok (by omega) (by decide)) ⟨(Nat.le_of_ble_eq_true rfl), (Nat.le_of_ble_eq_true rfl)⟩ dX12_count_17 (fun H locs hW hS => ?_)
    refine W.eq (g2 := F0 m 20 ls [.int r2]) rfl ?_
    refine z_br (lv_if_eq (tgt := 32) hx hb dX12_count_20 (by decide)) h (fun h => ?_) (fun h => ?_)
    · refine lv_iconst (v := (-1)) hx hb dX12_count_32 (by decide) ?_
      obtain rfl := Option.some.inj h
      exact z_ri hx hb hr hlk hW hS (Nat.le_of_ble_eq_true rfl) (Nat.le_of_ble_eq_true rfl) dX12_count_33
    · refine lv_aload_n hx hb dX12_count_23 rfl (lv_at hl 0 rfl) ?_
      obtain ⟨t3, h⟩ := zc_at h
      obtain ⟨b4, hb4, h⟩ := zd_at h
      refine z_gR hx hb hq hown hK hW fs_RX12_9 t3 hb4 dX12_count_24 ?_
      refine lv_iload_n hx hb dX12_count_27 rfl (lv_at hl 1 rfl) ?_
      obtain ⟨t5, h⟩ := zc_at h
      obtain ⟨t6, h⟩ := zc_at h
      refine z_alI hx hb hK hW (List.mem_singleton.mp t5) t6 dX12_count_28 ?_
      refine lv_goto (tgt := 33) hx hb dX12_count_29 (by decide) ?_
      obtain rfl := Option.some.inj h
      exact z_ri hx hb hr hlk hW hS (Nat.le_of_ble_eq_true rfl) (Nat.le_of_ble_eq_true rfl) dX12_count_33
  · refine lv_aload_n hx hb dX12_count_6 rfl (lv_at hl 0 rfl) ?_
    obtain ⟨t7, h⟩ := zc_at h
    refine z_gI hx hb hq hown hK hW fs_RX12_223 t7 dX12_count_7 ?_
    refine lv_goto (tgt := 33) hx hb dX12_count_10 (by decide) ?_
    obtain rfl := Option.some.inj h
    exact z_ri hx hb hr hlk hW hS (Nat.le_of_ble_eq_true rfl) (Nat.le_of_ble_eq_true rfl) dX12_count_33
