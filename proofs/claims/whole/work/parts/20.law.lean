/-! THE CLAIM OUT OF ONE WALK OF THE LAW'S BODY. Your part is whole_start (and what it stands on); all else here is the same for every law, but numbers. -/
def R_law : String := "TwoPensLaw"
def lw_P (b : Addr) (xs : List Int32) (args : Array Value) (s : State) : Prop := args = #[.ref b] ∧ s.IntsAt b xs ∧ xs.length ≤ 3072 ∧ (Jvm.Cond.and given_1 narrow_1).before args s = true
def lw_Q (_ : Array Value) (s : State) (o : Outcome) (t : State) : Prop := o = .returned (some (.int 1)) ∧ Framed s o t [] 600000 7302250
def lw_Z (below : List Frame) (a : Array Value) (s : State) : State → Prop := fun t => ∃ o, t.status = .running ∧ Ended t below o ∧ lw_Q a s o t
/-- the law's own end, with 1 on the stack, nothing written that was there before, its room as the claim has it -/
theorem lw_ret {p : Program} {l : Launch} {e : Env} {s : State} {m : MethodId} {below : List Frame} {meth : Method} {c : Code} {b : Nat} (hx : p.tables.exec = Jvm.exec) (hb : c.code = code) (hr : meth.sig.returnType = ret) (hlocks : meth.locks = false) {pc : Nat} {H : Heap} {ls : Array Slot} (hdg : decode code pc = .ok (.ireturn, 1)) : W p l e room_1 s m #[Value.ref b] below meth c H [] 600000 7302250 (lw_Z below #[Value.ref b] s) (F0 m pc ls [.int 1]) := by
  intro T hT X
  obtain ⟨fs, hret, hrun, hended, hW, hframe⟩ := X.leave (v := some (.int 1)) (hlocks := hlocks) (fun h => by rw [hr] at h; cases h)
  have hmeth' : T.vm.method? m = some meth := X.method'
  refine ⟨T.setFrames fs, ?_, .returned (some (.int 1)), hrun, hended, rfl, ⟨_, rfl⟩, hW, hframe⟩
  jvm_step X.here [X.here.top, hx, hb, hdg, hmeth', hr, ret, narrow_b1]
  (try refine ⟨rfl, ?_⟩); (try refine ⟨rfl, ?_⟩)
  first | (intro acts; rw [hret _ acts rfl rfl rfl]) | rw [hret _ _ rfl rfl rfl]
  exact Steps.refl _
/-- what holds at the law's entry: the machine, the code, the tables' words (any of lw_tbl by 'hts w (by decide +kernel)'), the script of L ints xs at the cell b, what the Statement gives of the start (any of its parts by flat_of_before) -/
def lw_At (p : Program) (s : State) (m : MethodId) (meth : Method) (c : Code) (b L : Nat) (xs : Nat → Int32) : Prop :=
  p.tables.exec = Jvm.exec ∧ c.code = code ∧ meth.sig.returnType = ret ∧ c.maxLocals = 4 ∧ s.vm.findClass R_law = some m.cls ∧ (∀ w ∈ lw_tbl, w.before #[Value.ref b] s = true) ∧ va_X b L xs s s.heap ∧ b < s.heap.size ∧ meth.locks = false ∧ (Jvm.Cond.and given_1 narrow_1).before #[Value.ref b] s = true
theorem cal_X12_feed : zCal yX12_feed 1 := by unfold zCal; decide +kernel
theorem cal_X11_feed : zCal yX11_feed 1 := by unfold zCal; decide +kernel
theorem cal_X12_school : zCal yX12_school 0 := by unfold zCal; decide +kernel
theorem cal_X11_school : zCal yX11_school 0 := by unfold zCal; decide +kernel
theorem cal_X12_way : zCal yX12_way 3 := by unfold zCal; decide +kernel
theorem cal_X11_way : zCal yX11_way 3 := by unfold zCal; decide +kernel
theorem cal_X12_of : zCal yX12_of 2 := by unfold zCal; decide +kernel
theorem cal_X11_of : zCal yX11_of 2 := by unfold zCal; decide +kernel
theorem cal_X12_row : zCal yX12_row 3 := by unfold zCal; decide +kernel
theorem cal_X11_row : zCal yX11_row 3 := by unfold zCal; decide +kernel
theorem cal_X12_write : zCal yX12_write 2 := by unfold zCal; decide +kernel
theorem cal_X11_write : zCal yX11_write 2 := by unfold zCal; decide +kernel
theorem cal_X12_tear : zCal yX12_tear 0 := by unfold zCal; decide +kernel
theorem cal_X11_tear : zCal yX11_tear 0 := by unfold zCal; decide +kernel
theorem cal_X12_line : zCal yX12_line 2 := by unfold zCal; decide +kernel
theorem cal_X11_line : zCal yX11_line 2 := by unfold zCal; decide +kernel
theorem cal_X12_told : zCal yX12_told 1 := by unfold zCal; decide +kernel
theorem cal_X11_told : zCal yX11_told 1 := by unfold zCal; decide +kernel
theorem cal_X12_cost : zCal yX12_cost 3 := by unfold zCal; decide +kernel
theorem cal_X11_cost : zCal yX11_cost 3 := by unfold zCal; decide +kernel
theorem cal_X12_looks : zCal yX12_looks 1 := by unfold zCal; decide +kernel
theorem cal_X11_looks : zCal yX11_looks 1 := by unfold zCal; decide +kernel
theorem cal_X12_safe : zCal yX12_safe 1 := by unfold zCal; decide +kernel
theorem cal_X11_safe : zCal yX11_safe 1 := by unfold zCal; decide +kernel
theorem cal_X12_again : zCal yX12_again 1 := by unfold zCal; decide +kernel
theorem cal_X11_again : zCal yX11_again 1 := by unfold zCal; decide +kernel
theorem cal_X12_twice : zCal yX12_twice 2 := by unfold zCal; decide +kernel
theorem cal_X11_twice : zCal yX11_twice 2 := by unfold zCal; decide +kernel
theorem cal_X12_quick : zCal yX12_quick 3 := by unfold zCal; decide +kernel
theorem cal_X11_quick : zCal yX11_quick 3 := by unfold zCal; decide +kernel
theorem cal_X12_change : zCal yX12_change 3 := by unfold zCal; decide +kernel
theorem cal_X11_change : zCal yX11_change 3 := by unfold zCal; decide +kernel
theorem cal_X12_rests : zCal yX12_rests 4 := by unfold zCal; decide +kernel
theorem cal_X11_rests : zCal yX11_rests 4 := by unfold zCal; decide +kernel
theorem cal_X12_mend : zCal yX12_mend 1 := by unfold zCal; decide +kernel
theorem cal_X11_mend : zCal yX11_mend 1 := by unfold zCal; decide +kernel
theorem cal_X12_where : zCal yX12_where 1 := by unfold zCal; decide +kernel
theorem cal_X11_where : zCal yX11_where 1 := by unfold zCal; decide +kernel
theorem cal_X12_left : zCal yX12_left 0 := by unfold zCal; decide +kernel
theorem cal_X11_left : zCal yX11_left 0 := by unfold zCal; decide +kernel
theorem cal_X12_longest : zCal yX12_longest 1 := by unfold zCal; decide +kernel
theorem cal_X11_longest : zCal yX11_longest 1 := by unfold zCal; decide +kernel
theorem cal_X12_show : zCal yX12_show 1 := by unfold zCal; decide +kernel
theorem cal_X11_show : zCal yX11_show 1 := by unfold zCal; decide +kernel
theorem cal_X12_whose : zCal yX12_whose 0 := by unfold zCal; decide +kernel
theorem cal_X11_whose : zCal yX11_whose 0 := by unfold zCal; decide +kernel
theorem cal_X12_wanted : zCal yX12_wanted 1 := by unfold zCal; decide +kernel
theorem cal_X11_wanted : zCal yX11_wanted 1 := by unfold zCal; decide +kernel
theorem cal_X12_stock : zCal yX12_stock 2 := by unfold zCal; decide +kernel
theorem cal_X11_stock : zCal yX11_stock 2 := by unfold zCal; decide +kernel
theorem cal_X12_mean : zCal yX12_mean 3 := by unfold zCal; decide +kernel
theorem cal_X11_mean : zCal yX11_mean 3 := by unfold zCal; decide +kernel
theorem cal_X12_table : zCal yX12_table 5 := by unfold zCal; decide +kernel
theorem cal_X11_table : zCal yX11_table 5 := by unfold zCal; decide +kernel
theorem cal_X12_book : zCal yX12_book 2 := by unfold zCal; decide +kernel
theorem cal_X11_book : zCal yX11_book 2 := by unfold zCal; decide +kernel
theorem cal_X12_looked : zCal yX12_looked 0 := by unfold zCal; decide +kernel
theorem cal_X11_looked : zCal yX11_looked 0 := by unfold zCal; decide +kernel
theorem cal_X12_act : zCal yX12_act 3 := by unfold zCal; decide +kernel
theorem cal_X11_act : zCal yX11_act 3 := by unfold zCal; decide +kernel
theorem cal_X12_trace : zCal yX12_trace 1 := by unfold zCal; decide +kernel
theorem cal_X11_trace : zCal yX11_trace 1 := by unfold zCal; decide +kernel
theorem cal_X12_as : zCal yX12_as 2 := by unfold zCal; decide +kernel
theorem cal_X11_as : zCal yX11_as 2 := by unfold zCal; decide +kernel
theorem cal_X12_image : zCal yX12_image 0 := by unfold zCal; decide +kernel
theorem cal_X11_image : zCal yX11_image 0 := by unfold zCal; decide +kernel
theorem cal_X12_undo : zCal yX12_undo 0 := by unfold zCal; decide +kernel
theorem cal_X11_undo : zCal yX11_undo 0 := by unfold zCal; decide +kernel
theorem cal_X12_count : zCal yX12_count 1 := by unfold zCal; decide +kernel
theorem cal_X11_count : zCal yX11_count 1 := by unfold zCal; decide +kernel
theorem cal_X12_init : zCal yX12_init 0 := by unfold zCal; decide +kernel
theorem cal_X11_init : zCal yX11_init 0 := by unfold zCal; decide +kernel
def f_L_law_1208 (N : Nat) (xs : Nat → Int32) (L : Nat) (k18 : zS → Nat → Nat → Int32 → Option Int32) (st : zS) (x1 : Nat) (x2 : Nat) (x3 : Int32) : Option Int32 := (k18 st x1 x2 (x3 + (nI 6)))
def f_L_law_18 (N : Nat) (xs : Nat → Int32) (L : Nat)  : Nat → zS → Nat → Nat → Int32 → Option Int32
  | 0, _, _, _, _ => none
  | n18 + 1, st, x1, x2, x3 => (if ((nI L) - (nI 6)) < x3 then (some (1 : Int32)) else (if zin x3 L then (if ((xs (x3).toNatClampNeg) &&& (nI 63)) = (nI 0) then (if zin (x3 + (nI 1)) L then (if zTg st x1 ∈ [21] then (zb (f_X11_feed st x1 (xs ((x3 + (nI 1))).toNatClampNeg)) (fun st10 r11 => (if zin (x3 + (nI 1)) L then (if zTg st10 x2 ∈ [22] then (zb (f_X12_feed st10 x2 (xs ((x3 + (nI 1))).toNatClampNeg)) (fun st15 r16 => (if r11 = r16 then (f_L_law_1208 N xs L (f_L_law_18 N xs L n18) st15 x1 x2 x3) else (some (0 : Int32))))) else none) else none))) else none) else none) else (if ((xs (x3).toNatClampNeg) &&& (nI 63)) = (nI 1) then (if zTg st x1 ∈ [21] then (zb (f_X11_school N st x1) (fun st20 r21 => (if zTg st20 x2 ∈ [22] then (zb (f_X12_school N st20 x2) (fun st24 r25 => (if r21 = r25 then (f_L_law_1208 N xs L (f_L_law_18 N xs L n18) st24 x1 x2 x3) else (some (0 : Int32))))) else none))) else none) else (if ((xs (x3).toNatClampNeg) &&& (nI 63)) = (nI 2) then (if zin (x3 + (nI 1)) L then (if zin (x3 + (nI 2)) L then (if zin (x3 + (nI 3)) L then (if zTg st x1 ∈ [21] then (zb (f_X11_way st x1 (xs ((x3 + (nI 1))).toNatClampNeg) (xs ((x3 + (nI 2))).toNatClampNeg) (xs ((x3 + (nI 3))).toNatClampNeg)) (fun st32 r33 => (if zin (x3 + (nI 1)) L then (if zin (x3 + (nI 2)) L then (if zin (x3 + (nI 3)) L then (if zTg st32 x2 ∈ [22] then (zb (f_X12_way N st32 x2 (xs ((x3 + (nI 1))).toNatClampNeg) (xs ((x3 + (nI 2))).toNatClampNeg) (xs ((x3 + (nI 3))).toNatClampNeg)) (fun st39 r40 => (if r33 = r40 then (f_L_law_1208 N xs L (f_L_law_18 N xs L n18) st39 x1 x2 x3) else (some (0 : Int32))))) else none) else none) else none) else none))) else none) else none) else none) else none) else (if ((xs (x3).toNatClampNeg) &&& (nI 63)) = (nI 3) then (if zin (x3 + (nI 1)) L then (if zin (x3 + (nI 2)) L then (if zTg st x1 ∈ [21] then (Option.bind (f_X11_of N st x1 (xs ((x3 + (nI 1))).toNatClampNeg) (xs ((x3 + (nI 2))).toNatClampNeg)) (fun r46 => (if zin (x3 + (nI 1)) L then (if zin (x3 + (nI 2)) L then (if zTg st x2 ∈ [22] then (Option.bind (f_X12_of N st x2 (xs ((x3 + (nI 1))).toNatClampNeg) (xs ((x3 + (nI 2))).toNatClampNeg)) (fun r51 => (if r46 = r51 then (f_L_law_1208 N xs L (f_L_law_18 N xs L n18) st x1 x2 x3) else (some (0 : Int32))))) else none) else none) else none))) else none) else none) else none) else (if ((xs (x3).toNatClampNeg) &&& (nI 63)) = (nI 4) then (if zin (x3 + (nI 1)) L then (if zin (x3 + (nI 2)) L then (if zin (x3 + (nI 3)) L then (if zTg st x1 ∈ [21] then (zb (f_X11_row st x1 (xs ((x3 + (nI 1))).toNatClampNeg) (xs ((x3 + (nI 2))).toNatClampNeg) (xs ((x3 + (nI 3))).toNatClampNeg)) (fun st58 r59 => (if zin (x3 + (nI 1)) L then (if zin (x3 + (nI 2)) L then (if zin (x3 + (nI 3)) L then (if zTg st58 x2 ∈ [22] then (zb (f_X12_row st58 x2 (xs ((x3 + (nI 1))).toNatClampNeg) (xs ((x3 + (nI 2))).toNatClampNeg) (xs ((x3 + (nI 3))).toNatClampNeg)) (fun st65 r66 => (if r59 = r66 then (f_L_law_1208 N xs L (f_L_law_18 N xs L n18) st65 x1 x2 x3) else (some (0 : Int32))))) else none) else none) else none) else none))) else none) else none) else none) else none) else (if ((xs (x3).toNatClampNeg) &&& (nI 63)) = (nI 5) then (if zin (x3 + (nI 1)) L then (if zin (x3 + (nI 2)) L then (if zTg st x1 ∈ [21] then (zb (f_X11_write N st x1 (xs ((x3 + (nI 1))).toNatClampNeg) (xs ((x3 + (nI 2))).toNatClampNeg)) (fun st72 r73 => (if zin (x3 + (nI 1)) L then (if zin (x3 + (nI 2)) L then (if zTg st72 x2 ∈ [22] then (zb (f_X12_write N st72 x2 (xs ((x3 + (nI 1))).toNatClampNeg) (xs ((x3 + (nI 2))).toNatClampNeg)) (fun st78 r79 => (if r73 = r79 then (f_L_law_1208 N xs L (f_L_law_18 N xs L n18) st78 x1 x2 x3) else (some (0 : Int32))))) else none) else none) else none))) else none) else none) else none) else (if ((xs (x3).toNatClampNeg) &&& (nI 63)) = (nI 6) then (if zTg st x1 ∈ [21] then (zb (f_X11_tear st x1) (fun st83 r84 => (if zTg st83 x2 ∈ [22] then (zb (f_X12_tear st83 x2) (fun st87 r88 => (if r84 = r88 then (f_L_law_1208 N xs L (f_L_law_18 N xs L n18) st87 x1 x2 x3) else (some (0 : Int32))))) else none))) else none) else (if ((xs (x3).toNatClampNeg) &&& (nI 63)) = (nI 7) then (if zin (x3 + (nI 1)) L then (if zin (x3 + (nI 2)) L then (if zTg st x1 ∈ [21] then (Option.bind (f_X11_line N st x1 (xs ((x3 + (nI 1))).toNatClampNeg) (xs ((x3 + (nI 2))).toNatClampNeg)) (fun r94 => (if zin (x3 + (nI 1)) L then (if zin (x3 + (nI 2)) L then (if zTg st x2 ∈ [22] then (zb (f_X12_line N st x2 (xs ((x3 + (nI 1))).toNatClampNeg) (xs ((x3 + (nI 2))).toNatClampNeg)) (fun st99 r100 => (if r94 = r100 then (f_L_law_1208 N xs L (f_L_law_18 N xs L n18) st99 x1 x2 x3) else (some (0 : Int32))))) else none) else none) else none))) else none) else none) else none) else (if ((xs (x3).toNatClampNeg) &&& (nI 63)) = (nI 8) then (if zin (x3 + (nI 1)) L then (if zTg st x1 ∈ [21] then (Option.bind (f_X11_told N st x1 (xs ((x3 + (nI 1))).toNatClampNeg)) (fun r105 => (if zin (x3 + (nI 1)) L then (if zTg st x2 ∈ [22] then (zb (f_X12_told N st x2 (xs ((x3 + (nI 1))).toNatClampNeg)) (fun st109 r110 => (if r105 = r110 then (f_L_law_1208 N xs L (f_L_law_18 N xs L n18) st109 x1 x2 x3) else (some (0 : Int32))))) else none) else none))) else none) else none) else (if ((xs (x3).toNatClampNeg) &&& (nI 63)) = (nI 9) then (if zin (x3 + (nI 1)) L then (if zin (x3 + (nI 2)) L then (if zin (x3 + (nI 3)) L then (if zTg st x1 ∈ [21] then (Option.bind (f_X11_cost st x1 (xs ((x3 + (nI 1))).toNatClampNeg) (xs ((x3 + (nI 2))).toNatClampNeg) (xs ((x3 + (nI 3))).toNatClampNeg)) (fun r117 => (if zin (x3 + (nI 1)) L then (if zin (x3 + (nI 2)) L then (if zin (x3 + (nI 3)) L then (if zTg st x2 ∈ [22] then (Option.bind (f_X12_cost N st x2 (xs ((x3 + (nI 1))).toNatClampNeg) (xs ((x3 + (nI 2))).toNatClampNeg) (xs ((x3 + (nI 3))).toNatClampNeg)) (fun r123 => (if r117 = r123 then (f_L_law_1208 N xs L (f_L_law_18 N xs L n18) st x1 x2 x3) else (some (0 : Int32))))) else none) else none) else none) else none))) else none) else none) else none) else none) else (if ((xs (x3).toNatClampNeg) &&& (nI 63)) = (nI 10) then (if zin (x3 + (nI 1)) L then (if zTg st x1 ∈ [21] then (zb (f_X11_looks N st x1 (xs ((x3 + (nI 1))).toNatClampNeg)) (fun st128 r129 => (if zin (x3 + (nI 1)) L then (if zTg st128 x2 ∈ [22] then (zb (f_X12_looks N st128 x2 (xs ((x3 + (nI 1))).toNatClampNeg)) (fun st133 r134 => (if r129 = r134 then (f_L_law_1208 N xs L (f_L_law_18 N xs L n18) st133 x1 x2 x3) else (some (0 : Int32))))) else none) else none))) else none) else none) else (if ((xs (x3).toNatClampNeg) &&& (nI 63)) = (nI 11) then (if zin (x3 + (nI 1)) L then (if zTg st x1 ∈ [21] then (Option.bind (f_X11_safe N st x1 (xs ((x3 + (nI 1))).toNatClampNeg)) (fun r139 => (if zin (x3 + (nI 1)) L then (if zTg st x2 ∈ [22] then (zb (f_X12_safe N st x2 (xs ((x3 + (nI 1))).toNatClampNeg)) (fun st143 r144 => (if (lg_cmp r139 r144) = 0 then (f_L_law_1208 N xs L (f_L_law_18 N xs L n18) st143 x1 x2 x3) else (some (0 : Int32))))) else none) else none))) else none) else none) else (if ((xs (x3).toNatClampNeg) &&& (nI 63)) = (nI 12) then (if zin (x3 + (nI 1)) L then (if zTg st x1 ∈ [21] then (Option.bind (f_X11_again N st x1 (xs ((x3 + (nI 1))).toNatClampNeg)) (fun r149 => (if zin (x3 + (nI 1)) L then (if zTg st x2 ∈ [22] then (zb (f_X12_again N st x2 (xs ((x3 + (nI 1))).toNatClampNeg)) (fun st153 r154 => (if (lg_cmp r149 r154) = 0 then (f_L_law_1208 N xs L (f_L_law_18 N xs L n18) st153 x1 x2 x3) else (some (0 : Int32))))) else none) else none))) else none) else none) else (if ((xs (x3).toNatClampNeg) &&& (nI 63)) = (nI 13) then (if zin (x3 + (nI 1)) L then (if zin (x3 + (nI 2)) L then (if zTg st x1 ∈ [21] then (Option.bind (f_X11_twice N st x1 (xs ((x3 + (nI 1))).toNatClampNeg) (xs ((x3 + (nI 2))).toNatClampNeg)) (fun r160 => (if zin (x3 + (nI 1)) L then (if zin (x3 + (nI 2)) L then (if zTg st x2 ∈ [22] then (zb (f_X12_twice N st x2 (xs ((x3 + (nI 1))).toNatClampNeg) (xs ((x3 + (nI 2))).toNatClampNeg)) (fun st165 r166 => (if (lg_cmp r160 r166) = 0 then (f_L_law_1208 N xs L (f_L_law_18 N xs L n18) st165 x1 x2 x3) else (some (0 : Int32))))) else none) else none) else none))) else none) else none) else none) else (if ((xs (x3).toNatClampNeg) &&& (nI 63)) = (nI 14) then (if zin (x3 + (nI 1)) L then (if zin (x3 + (nI 2)) L then (if zin (x3 + (nI 3)) L then (if zTg st x1 ∈ [21] then (Option.bind (f_X11_quick N st x1 (xs ((x3 + (nI 1))).toNatClampNeg) (xs ((x3 + (nI 2))).toNatClampNeg) (xs ((x3 + (nI 3))).toNatClampNeg)) (fun r173 => (if zin (x3 + (nI 1)) L then (if zin (x3 + (nI 2)) L then (if zin (x3 + (nI 3)) L then (if zTg st x2 ∈ [22] then (Option.bind (f_X12_quick N st x2 (xs ((x3 + (nI 1))).toNatClampNeg) (xs ((x3 + (nI 2))).toNatClampNeg) (xs ((x3 + (nI 3))).toNatClampNeg)) (fun r179 => (if r173 = r179 then (f_L_law_1208 N xs L (f_L_law_18 N xs L n18) st x1 x2 x3) else (some (0 : Int32))))) else none) else none) else none) else none))) else none) else none) else none) else none) else (if ((xs (x3).toNatClampNeg) &&& (nI 63)) = (nI 15) then (if zin (x3 + (nI 1)) L then (if zin (x3 + (nI 2)) L then (if zin (x3 + (nI 3)) L then (if zTg st x1 ∈ [21] then (Option.bind (f_X11_change N st x1 (xs ((x3 + (nI 1))).toNatClampNeg) (xs ((x3 + (nI 2))).toNatClampNeg) (xs ((x3 + (nI 3))).toNatClampNeg)) (fun r186 => (if zin (x3 + (nI 1)) L then (if zin (x3 + (nI 2)) L then (if zin (x3 + (nI 3)) L then (if zTg st x2 ∈ [22] then (zb (f_X12_change N st x2 (xs ((x3 + (nI 1))).toNatClampNeg) (xs ((x3 + (nI 2))).toNatClampNeg) (xs ((x3 + (nI 3))).toNatClampNeg)) (fun st192 r193 => (if r186 = r193 then (f_L_law_1208 N xs L (f_L_law_18 N xs L n18) st192 x1 x2 x3) else (some (0 : Int32))))) else none) else none) else none) else none))) else none) else none) else none) else none) else (if ((xs (x3).toNatClampNeg) &&& (nI 63)) = (nI 16) then (if zin (x3 + (nI 1)) L then (if zin (x3 + (nI 2)) L then (if zin (x3 + (nI 3)) L then (if zin (x3 + (nI 4)) L then (if zTg st x1 ∈ [21] then (Option.bind (f_X11_rests N st x1 (xs ((x3 + (nI 1))).toNatClampNeg) (xs ((x3 + (nI 2))).toNatClampNeg) (xs ((x3 + (nI 3))).toNatClampNeg) (xs ((x3 + (nI 4))).toNatClampNeg)) (fun r201 => (if zin (x3 + (nI 1)) L then (if zin (x3 + (nI 2)) L then (if zin (x3 + (nI 3)) L then (if zin (x3 + (nI 4)) L then (if zTg st x2 ∈ [22] then (Option.bind (f_X12_rests N st x2 (xs ((x3 + (nI 1))).toNatClampNeg) (xs ((x3 + (nI 2))).toNatClampNeg) (xs ((x3 + (nI 3))).toNatClampNeg) (xs ((x3 + (nI 4))).toNatClampNeg)) (fun r208 => (if r201 = r208 then (f_L_law_1208 N xs L (f_L_law_18 N xs L n18) st x1 x2 x3) else (some (0 : Int32))))) else none) else none) else none) else none) else none))) else none) else none) else none) else none) else none) else (if ((xs (x3).toNatClampNeg) &&& (nI 63)) = (nI 17) then (if zin (x3 + (nI 1)) L then (if zTg st x1 ∈ [21] then (Option.bind (f_X11_mend N st x1 (xs ((x3 + (nI 1))).toNatClampNeg)) (fun r213 => (if zin (x3 + (nI 1)) L then (if zTg st x2 ∈ [22] then (zb (f_X12_mend N st x2 (xs ((x3 + (nI 1))).toNatClampNeg)) (fun st217 r218 => (if r213 = r218 then (f_L_law_1208 N xs L (f_L_law_18 N xs L n18) st217 x1 x2 x3) else (some (0 : Int32))))) else none) else none))) else none) else none) else (if ((xs (x3).toNatClampNeg) &&& (nI 63)) = (nI 18) then (if zin (x3 + (nI 1)) L then (if zTg st x1 ∈ [21] then (Option.bind (f_X11_where N st x1 (xs ((x3 + (nI 1))).toNatClampNeg)) (fun r223 => (if zin (x3 + (nI 1)) L then (if zTg st x2 ∈ [22] then (zb (f_X12_where N st x2 (xs ((x3 + (nI 1))).toNatClampNeg)) (fun st227 r228 => (if r223 = r228 then (f_L_law_1208 N xs L (f_L_law_18 N xs L n18) st227 x1 x2 x3) else (some (0 : Int32))))) else none) else none))) else none) else none) else (if ((xs (x3).toNatClampNeg) &&& (nI 63)) = (nI 19) then (if zTg st x1 ∈ [21] then (Option.bind (f_X11_left N st x1) (fun r232 => (if zTg st x2 ∈ [22] then (zb (f_X12_left N st x2) (fun st235 r236 => (if r232 = r236 then (f_L_law_1208 N xs L (f_L_law_18 N xs L n18) st235 x1 x2 x3) else (some (0 : Int32))))) else none))) else none) else (if ((xs (x3).toNatClampNeg) &&& (nI 63)) = (nI 20) then (if zin (x3 + (nI 1)) L then (if zTg st x1 ∈ [21] then (Option.bind (f_X11_longest N st x1 (xs ((x3 + (nI 1))).toNatClampNeg)) (fun r241 => (if zin (x3 + (nI 1)) L then (if zTg st x2 ∈ [22] then (Option.bind (f_X12_longest N st x2 (xs ((x3 + (nI 1))).toNatClampNeg)) (fun r245 => (if r241 = r245 then (f_L_law_1208 N xs L (f_L_law_18 N xs L n18) st x1 x2 x3) else (some (0 : Int32))))) else none) else none))) else none) else none) else (if ((xs (x3).toNatClampNeg) &&& (nI 63)) = (nI 21) then (if zin (x3 + (nI 1)) L then (if zTg st x1 ∈ [21] then (zb (f_X11_show st x1 (xs ((x3 + (nI 1))).toNatClampNeg)) (fun st250 r251 => (if zin (x3 + (nI 1)) L then (if zTg st250 x2 ∈ [22] then (zb (f_X12_show st250 x2 (xs ((x3 + (nI 1))).toNatClampNeg)) (fun st255 r256 => (if r251 = r256 then (f_L_law_1208 N xs L (f_L_law_18 N xs L n18) st255 x1 x2 x3) else (some (0 : Int32))))) else none) else none))) else none) else none) else (if ((xs (x3).toNatClampNeg) &&& (nI 63)) = (nI 22) then (if zTg st x1 ∈ [21] then (Option.bind (f_X11_whose N st x1) (fun r260 => (if zTg st x2 ∈ [22] then (zb (f_X12_whose N st x2) (fun st263 r264 => (if r260 = r264 then (f_L_law_1208 N xs L (f_L_law_18 N xs L n18) st263 x1 x2 x3) else (some (0 : Int32))))) else none))) else none) else (if ((xs (x3).toNatClampNeg) &&& (nI 63)) = (nI 23) then (if zin (x3 + (nI 1)) L then (if zTg st x1 ∈ [21] then (zb (f_X11_wanted st x1 (xs ((x3 + (nI 1))).toNatClampNeg)) (fun st269 r270 => (if zin (x3 + (nI 1)) L then (if zTg st269 x2 ∈ [22] then (zb (f_X12_wanted st269 x2 (xs ((x3 + (nI 1))).toNatClampNeg)) (fun st274 r275 => (if r270 = r275 then (f_L_law_1208 N xs L (f_L_law_18 N xs L n18) st274 x1 x2 x3) else (some (0 : Int32))))) else none) else none))) else none) else none) else (if ((xs (x3).toNatClampNeg) &&& (nI 63)) = (nI 24) then (if zin (x3 + (nI 1)) L then (if zin (x3 + (nI 2)) L then (if zTg st x1 ∈ [21] then (Option.bind (f_X11_stock N st x1 (xs ((x3 + (nI 1))).toNatClampNeg) (xs ((x3 + (nI 2))).toNatClampNeg)) (fun r281 => (if zin (x3 + (nI 1)) L then (if zin (x3 + (nI 2)) L then (if zTg st x2 ∈ [22] then (zb (f_X12_stock N st x2 (xs ((x3 + (nI 1))).toNatClampNeg) (xs ((x3 + (nI 2))).toNatClampNeg)) (fun st286 r287 => (if r281 = r287 then (f_L_law_1208 N xs L (f_L_law_18 N xs L n18) st286 x1 x2 x3) else (some (0 : Int32))))) else none) else none) else none))) else none) else none) else none) else (if ((xs (x3).toNatClampNeg) &&& (nI 63)) = (nI 25) then (if zin (x3 + (nI 1)) L then (if zin (x3 + (nI 2)) L then (if zin (x3 + (nI 3)) L then (if zTg st x1 ∈ [21] then (Option.bind (f_X11_mean N st x1 (xs ((x3 + (nI 1))).toNatClampNeg) (xs ((x3 + (nI 2))).toNatClampNeg) (xs ((x3 + (nI 3))).toNatClampNeg)) (fun r294 => (if zin (x3 + (nI 1)) L then (if zin (x3 + (nI 2)) L then (if zin (x3 + (nI 3)) L then (if zTg st x2 ∈ [22] then (zb (f_X12_mean N st x2 (xs ((x3 + (nI 1))).toNatClampNeg) (xs ((x3 + (nI 2))).toNatClampNeg) (xs ((x3 + (nI 3))).toNatClampNeg)) (fun st300 r301 => (if (lg_cmp r294 r301) = 0 then (f_L_law_1208 N xs L (f_L_law_18 N xs L n18) st300 x1 x2 x3) else (some (0 : Int32))))) else none) else none) else none) else none))) else none) else none) else none) else none) else (if ((xs (x3).toNatClampNeg) &&& (nI 63)) = (nI 26) then (if zin (x3 + (nI 1)) L then (if zin (x3 + (nI 2)) L then (if zin (x3 + (nI 3)) L then (if zin (x3 + (nI 4)) L then (if zin (x3 + (nI 5)) L then (if zTg st x1 ∈ [21] then (Option.bind (f_X11_table N x1 (xs ((x3 + (nI 1))).toNatClampNeg) (xs ((x3 + (nI 2))).toNatClampNeg) (xs ((x3 + (nI 3))).toNatClampNeg) (xs ((x3 + (nI 4))).toNatClampNeg) (xs ((x3 + (nI 5))).toNatClampNeg)) (fun r310 => (if zin (x3 + (nI 1)) L then (if zin (x3 + (nI 2)) L then (if zin (x3 + (nI 3)) L then (if zin (x3 + (nI 4)) L then (if zin (x3 + (nI 5)) L then (if zTg st x2 ∈ [22] then (Option.bind (f_X12_table N x2 (xs ((x3 + (nI 1))).toNatClampNeg) (xs ((x3 + (nI 2))).toNatClampNeg) (xs ((x3 + (nI 3))).toNatClampNeg) (xs ((x3 + (nI 4))).toNatClampNeg) (xs ((x3 + (nI 5))).toNatClampNeg)) (fun r318 => (if (lg_cmp r310 r318) = 0 then (f_L_law_1208 N xs L (f_L_law_18 N xs L n18) st x1 x2 x3) else (some (0 : Int32))))) else none) else none) else none) else none) else none) else none))) else none) else none) else none) else none) else none) else none) else (if ((xs (x3).toNatClampNeg) &&& (nI 63)) = (nI 27) then (if zin (x3 + (nI 1)) L then (if zin (x3 + (nI 2)) L then (if zTg st x1 ∈ [21] then (zb (f_X11_book st x1 (xs ((x3 + (nI 1))).toNatClampNeg) (xs ((x3 + (nI 2))).toNatClampNeg)) (fun st324 r325 => (if zin (x3 + (nI 1)) L then (if zin (x3 + (nI 2)) L then (if zTg st324 x2 ∈ [22] then (zb (f_X12_book st324 x2 (xs ((x3 + (nI 1))).toNatClampNeg) (xs ((x3 + (nI 2))).toNatClampNeg)) (fun st330 r331 => (if r325 = r331 then (f_L_law_1208 N xs L (f_L_law_18 N xs L n18) st330 x1 x2 x3) else (some (0 : Int32))))) else none) else none) else none))) else none) else none) else none) else (if ((xs (x3).toNatClampNeg) &&& (nI 63)) = (nI 28) then (if zTg st x1 ∈ [21] then (Option.bind (f_X11_looked N st x1) (fun r335 => (if zTg st x2 ∈ [22] then (Option.bind (f_X12_looked N st x2) (fun r338 => (if r335 = r338 then (f_L_law_1208 N xs L (f_L_law_18 N xs L n18) st x1 x2 x3) else (some (0 : Int32))))) else none))) else none) else (if ((xs (x3).toNatClampNeg) &&& (nI 63)) = (nI 29) then (if zin (x3 + (nI 1)) L then (if zin (x3 + (nI 2)) L then (if zin (x3 + (nI 3)) L then (if zTg st x1 ∈ [21] then (zb (f_X11_act st x1 (xs ((x3 + (nI 1))).toNatClampNeg) (xs ((x3 + (nI 2))).toNatClampNeg) (xs ((x3 + (nI 3))).toNatClampNeg)) (fun st345 r346 => (if zin (x3 + (nI 1)) L then (if zin (x3 + (nI 2)) L then (if zin (x3 + (nI 3)) L then (if zTg st345 x2 ∈ [22] then (zb (f_X12_act st345 x2 (xs ((x3 + (nI 1))).toNatClampNeg) (xs ((x3 + (nI 2))).toNatClampNeg) (xs ((x3 + (nI 3))).toNatClampNeg)) (fun st352 r353 => (if r346 = r353 then (f_L_law_1208 N xs L (f_L_law_18 N xs L n18) st352 x1 x2 x3) else (some (0 : Int32))))) else none) else none) else none) else none))) else none) else none) else none) else none) else (if ((xs (x3).toNatClampNeg) &&& (nI 63)) = (nI 30) then (if zin (x3 + (nI 1)) L then (if zTg st x1 ∈ [21] then (Option.bind (f_X11_trace st x1 (xs ((x3 + (nI 1))).toNatClampNeg)) (fun r358 => (if zin (x3 + (nI 1)) L then (if zTg st x2 ∈ [22] then (Option.bind (f_X12_trace st x2 (xs ((x3 + (nI 1))).toNatClampNeg)) (fun r362 => (if r358 = r362 then (f_L_law_1208 N xs L (f_L_law_18 N xs L n18) st x1 x2 x3) else (some (0 : Int32))))) else none) else none))) else none) else none) else (if ((xs (x3).toNatClampNeg) &&& (nI 63)) = (nI 31) then (if zin (x3 + (nI 1)) L then (if zin (x3 + (nI 2)) L then (if zTg st x1 ∈ [21] then (Option.bind (f_X11_as st x1 (xs ((x3 + (nI 1))).toNatClampNeg) (xs ((x3 + (nI 2))).toNatClampNeg)) (fun r368 => (if zin (x3 + (nI 1)) L then (if zin (x3 + (nI 2)) L then (if zTg st x2 ∈ [22] then (Option.bind (f_X12_as st x2 (xs ((x3 + (nI 1))).toNatClampNeg) (xs ((x3 + (nI 2))).toNatClampNeg)) (fun r373 => (if r368 = r373 then (f_L_law_1208 N xs L (f_L_law_18 N xs L n18) st x1 x2 x3) else (some (0 : Int32))))) else none) else none) else none))) else none) else none) else none) else (if ((xs (x3).toNatClampNeg) &&& (nI 63)) = (nI 32) then (if zTg st x1 ∈ [21] then (zb (f_X11_image N st x1) (fun st377 r378 => (if zTg st377 x2 ∈ [22] then (zb (f_X12_image N st377 x2) (fun st381 r382 => (if r378 = r382 then (f_L_law_1208 N xs L (f_L_law_18 N xs L n18) st381 x1 x2 x3) else (some (0 : Int32))))) else none))) else none) else (if ((xs (x3).toNatClampNeg) &&& (nI 63)) = (nI 33) then (if zTg st x1 ∈ [21] then (zb (f_X11_undo N st x1) (fun st386 r387 => (if zTg st386 x2 ∈ [22] then (zb (f_X12_undo N st386 x2) (fun st390 r391 => (if r387 = r391 then (f_L_law_1208 N xs L (f_L_law_18 N xs L n18) st390 x1 x2 x3) else (some (0 : Int32))))) else none))) else none) else (if ((xs (x3).toNatClampNeg) &&& (nI 63)) = (nI 34) then (if zin (x3 + (nI 1)) L then (if zTg st x1 ∈ [21] then (Option.bind (f_X11_count st x1 (xs ((x3 + (nI 1))).toNatClampNeg)) (fun r396 => (if zin (x3 + (nI 1)) L then (if zTg st x2 ∈ [22] then (Option.bind (f_X12_count st x2 (xs ((x3 + (nI 1))).toNatClampNeg)) (fun r400 => (if r396 = r400 then (f_L_law_1208 N xs L (f_L_law_18 N xs L n18) st x1 x2 x3) else (some (0 : Int32))))) else none) else none))) else none) else none) else (f_L_law_1208 N xs L (f_L_law_18 N xs L n18) st x1 x2 x3)))))))))))))))))))))))))))))))))))) else none))
def f_L_law (N : Nat) (xs : Nat → Int32) (L : Nat) (n0 : Nat) (st : zS) : Option Int32 := (Option.bind (f_X11_init (zNw st 21 0) ((st).1)) (fun st2 => (Option.bind (f_X12_init (zNw st2 22 0) ((st2).1)) (fun st4 => (f_L_law_18 N xs L n0 st4 ((st).1) ((st2).1) (nI 0))))))
set_option maxHeartbeats 4000000 in
set_option maxRecDepth 100000 in
theorem law_walk {p : Program} {e : Env} {s : State} {m : MethodId} {below : List Frame} {meth : Method} {c : Code} (l : Launch) (G : zG) {b L : Nat} {xs : Nat → Int32} (C0 : lw_At p s m meth c b L xs) (hB : G.2.2.2 = s.heap.size) (hK : zKn G s) (N n0 : Nat) (hn0 : n0 ≤ 600) (st : zS) (hW : zWd G st s.heap) (h : f_L_law N xs L n0 st = some 1) : W p l e room_1 s m #[Value.ref b] below meth c s.heap [] 0 0 (lw_Z below #[Value.ref b] s) (entryFrame m ([Value.ref b] : List Value).toArray 4) := by
  obtain ⟨hx, hb, hr, hml, hown, hts, hX, hbl, hlk, hgv⟩ := id C0
  have hown : s.vm.findClass RL = some m.cls := hown
  have hq : ∀ w ∈ zT, w.before #[Value.ref b] s = true := fun w hw => hts w (zT_tbl w hw)
  have hbA : ¬ (zA G) b := by show ¬ G.2.2.2 ≤ b; rw [hB]; exact Nat.not_le.mpr hbl
  have hS : va_S (zA G) s.heap s.heap [] := va_S.rf
  refine z_ent (by exact Nat.le_of_ble_eq_true rfl) (fun ls hl => ?_)
  have hl : lv_has ls 4 [(0, .ref b)] := hl
  unfold f_L_law at h
  have B18 : ∀ (n18 j : Nat), j + n18 ≤ 600 → ∀ (st : zS) (x1 : Nat) (x2 : Nat) (x3 : Int32) (H : Heap) (locs : List Loc) (ls : Array Slot), f_L_law_18 N xs L n18 st x1 x2 x3 = some 1 → zWd G st H → va_S (zA G) s.heap H locs → lv_has ls 4 [(0, .ref b), (1, .ref (G.2.2.2 + x1)), (2, .ref (G.2.2.2 + x2)), (3, .int x3)] → W p l e room_1 s m #[Value.ref b] below meth c H locs (50 + 2 * j) (4000 + 105 * j) (lw_Z below #[Value.ref b] s) (F0 m 18 ls []) := by
    intro n18
    induction n18 with
    | zero =>
      intro j hj st x1 x2 x3 H locs ls h
      unfold f_L_law_18 at h
      cases h
    | succ n18 ih18 =>
      intro j hj
      have B1208 : ∀ (st : zS) (x1 : Nat) (x2 : Nat) (x3 : Int32) (H : Heap) (locs : List Loc) (ls : Array Slot), f_L_law_1208 N xs L (f_L_law_18 N xs L n18) st x1 x2 x3 = some 1 → zWd G st H → va_S (zA G) s.heap H locs → lv_has ls 4 [(0, .ref b), (1, .ref (G.2.2.2 + x1)), (2, .ref (G.2.2.2 + x2)), (3, .int x3)] → W p l e room_1 s m #[Value.ref b] below meth c H locs (50 + 2 * (j + 1)) (4000 + 105 * (j + 1)) (lw_Z below #[Value.ref b] s) (F0 m 1208 ls []) := by
        intro st x1 x2 x3 H locs ls h hW hS hl
        unfold f_L_law_1208 at h
        refine lv_iinc (v := (x3 + (nI 6))) (lv' := [(3, .int ((x3 + (nI 6)))), (0, .ref b), (1, .ref (G.2.2.2 + x1)), (2, .ref (G.2.2.2 + x2))]) hx hb dL_law_1208 hl (k := 3) rfl rfl (by decide) rfl (fun ls hl => ?_)
        refine lv_goto (tgt := 18) hx hb dL_law_1211 (by decide) ?_
        exact ih18 (j + 1) (by omega) st x1 x2 (x3 + (nI 6)) _ _ _ h hW hS (lv_sub hl [1, 2, 3, 0] rfl)
      intro st x1 x2 x3 H locs ls h hW hS hl
      unfold f_L_law_18 at h
      refine lv_iload_n hx hb dL_law_18 rfl (lv_at hl 3 rfl) ?_
      refine lv_aload_n hx hb dL_law_19 rfl (lv_at hl 0 rfl) ?_
      refine va_slen hx hb hX hbl hbA hS dL_law_20 ?_
      refine lv_bipush (v := (nI 6)) hx hb dL_law_21 (by decide) ?_
      refine lv_isub hx hb dL_law_23 ?_
      refine z_br (lv_icmp_gt (tgt := 1214) hx hb dL_law_24 (by decide)) h (fun h => ?_) (fun h => ?_)
      · refine lv_iconst (v := (nI 1)) hx hb dL_law_1214 (by decide) ?_
        refine W.widen (k := 600000) (n := 7302250) (by omega) (by omega) ?_
        refine va_forget (fun q hq => by have h1 := hS.2.2 q hq; rw [← hB]; exact h1) ?_
        exact lw_ret hx hb hr hlk dL_law_1215
      · refine lv_aload_n hx hb dL_law_27 rfl (lv_at hl 0 rfl) ?_
        refine lv_iload_n hx hb dL_law_28 rfl (lv_at hl 3 rfl) ?_
        obtain ⟨t5, h⟩ := zc_at h
        refine va_sld hx hb hX hbl hbA hS t5 dL_law_29 ?_
        refine lv_bipush (v := (nI 63)) hx hb dL_law_30 (by decide) ?_
        refine lv_iand hx hb dL_law_32 ?_
        rcases zi_at h with ⟨k6, h⟩ | ⟨k6, h⟩
        · refine lv_tableIn (off := 155) (tgt := 188) hx hb dL_law_33 (by rw [k6]; decide) (by rw [k6]; decide) (by rw [k6]; rfl) (by decide) ?_
          refine lv_aload_n hx hb dL_law_188 rfl (lv_at hl 1 rfl) ?_
          refine lv_aload_n hx hb dL_law_189 rfl (lv_at hl 0 rfl) ?_
          refine lv_iload_n hx hb dL_law_190 rfl (lv_at hl 3 rfl) ?_
          refine lv_iconst (v := (nI 1)) hx hb dL_law_191 (by decide) ?_
          refine lv_iadd hx hb dL_law_192 ?_
          obtain ⟨t7, h⟩ := zc_at h
          refine va_sld hx hb hX hbl hbA hS t7 dL_law_193 ?_
          obtain ⟨t8, h⟩ := zc_at h
          obtain ⟨st10, r11, c9, h⟩ := zb_at h
          refine z_cV hx hb hq hml hown hK hW hS 11 [.int ((xs ((x3 + (nI 1))).toNatClampNeg))] [] rfl (List.mem_singleton.mp t8) (c_X11_feed l G st x1 (xs ((x3 + (nI 1))).toNatClampNeg) c9) (zi zm72) (zi zm73) (zi zm74) (zi zm2) (zi zm75) cal_X11_feed rfl rfl hl.1 rfl (Nat.le_of_ble_eq_true rfl) ⟨(Nat.le_of_ble_eq_true rfl), (Nat.le_of_ble_eq_true rfl)⟩ ⟨(by show _ ≤ 600000; omega), (by show _ ≤ 7302250; omega)⟩ dL_law_194 (fun H locs hW hS => ?_)
          refine W.eq (g2 := F0 m 197 ls [.int r11]) rfl ?_
          refine lv_aload_n hx hb dL_law_197 rfl (lv_at hl 2 rfl) ?_
          refine lv_aload_n hx hb dL_law_198 rfl (lv_at hl 0 rfl) ?_
          refine lv_iload_n hx hb dL_law_199 rfl (lv_at hl 3 rfl) ?_
          refine lv_iconst (v := (nI 1)) hx hb dL_law_200 (by decide) ?_
          refine lv_iadd hx hb dL_law_201 ?_
          obtain ⟨t12, h⟩ := zc_at h
          refine va_sld hx hb hX hbl hbA hS t12 dL_law_202 ?_
          obtain ⟨t13, h⟩ := zc_at h
          obtain ⟨st15, r16, c14, h⟩ := zb_at h
          refine z_cV hx hb hq hml hown hK hW hS 12 [.int ((xs ((x3 + (nI 1))).toNatClampNeg))] [.int r11] rfl (List.mem_singleton.mp t13) (c_X12_feed l G st10 x2 (xs ((x3 + (nI 1))).toNatClampNeg) c14) (zi zm86) (zi zm87) (zi zm88) (zi zm5) (zi zm89) cal_X12_feed rfl rfl hl.1 rfl (Nat.le_of_ble_eq_true rfl) ⟨(Nat.le_of_ble_eq_true rfl), (Nat.le_of_ble_eq_true rfl)⟩ ⟨(by show _ ≤ 600000; omega), (by show _ ≤ 7302250; omega)⟩ dL_law_203 (fun H locs hW hS => ?_)
          refine W.eq (g2 := F0 m 206 ls [.int r16, .int r11]) rfl ?_
          refine z_br (lv_icmp_eq (tgt := 1208) hx hb dL_law_206 (by decide)) h (fun h => ?_) (fun h => ?_)
          · refine W.widen (k := 50 + 2 * (j + 1)) (n := 4000 + 105 * (j + 1)) (by omega) (by omega) ?_
            exact B1208 st15 x1 x2 x3 _ _ _ h hW hS (lv_sub hl [0, 1, 2, 3] rfl)
          · refine lv_iconst (v := (nI 0)) hx hb dL_law_209 (by decide) ?_
            exact absurd (Option.some.inj h) (by decide)
        · rcases zi_at h with ⟨k17, h⟩ | ⟨k17, h⟩
          · refine lv_tableIn (off := 178) (tgt := 211) hx hb dL_law_33 (by rw [k17]; decide) (by rw [k17]; decide) (by rw [k17]; rfl) (by decide) ?_
            refine lv_aload_n hx hb dL_law_211 rfl (lv_at hl 1 rfl) ?_
            obtain ⟨t18, h⟩ := zc_at h
            obtain ⟨st20, r21, c19, h⟩ := zb_at h
            refine z_cV hx hb hq hml hown hK hW hS 11 [] [] rfl (List.mem_singleton.mp t18) (c_X11_school l G N st x1 c19) (zi zm93) (zi zm94) (zi zm95) (zi zm2) (zi zm96) cal_X11_school rfl rfl hl.1 rfl (Nat.le_of_ble_eq_true rfl) ⟨(Nat.le_of_ble_eq_true rfl), (Nat.le_of_ble_eq_true rfl)⟩ ⟨(by show _ ≤ 600000; omega), (by show _ ≤ 7302250; omega)⟩ dL_law_212 (fun H locs hW hS => ?_)
            refine W.eq (g2 := F0 m 215 ls [.int r21]) rfl ?_
            refine lv_aload_n hx hb dL_law_215 rfl (lv_at hl 2 rfl) ?_
            obtain ⟨t22, h⟩ := zc_at h
            obtain ⟨st24, r25, c23, h⟩ := zb_at h
            refine z_cV hx hb hq hml hown hK hW hS 12 [] [.int r21] rfl (List.mem_singleton.mp t22) (c_X12_school l G N st20 x2 c23) (zi zm277) (zi zm278) (zi zm279) (zi zm5) (zi zm280) cal_X12_school rfl rfl hl.1 rfl (Nat.le_of_ble_eq_true rfl) ⟨(Nat.le_of_ble_eq_true rfl), (Nat.le_of_ble_eq_true rfl)⟩ ⟨(by show _ ≤ 600000; omega), (by show _ ≤ 7302250; omega)⟩ dL_law_216 (fun H locs hW hS => ?_)
            refine W.eq (g2 := F0 m 219 ls [.int r25, .int r21]) rfl ?_
            refine z_br (lv_icmp_eq (tgt := 1208) hx hb dL_law_219 (by decide)) h (fun h => ?_) (fun h => ?_)
            · refine W.widen (k := 50 + 2 * (j + 1)) (n := 4000 + 105 * (j + 1)) (by omega) (by omega) ?_
              exact B1208 st24 x1 x2 x3 _ _ _ h hW hS (lv_sub hl [0, 1, 2, 3] rfl)
            · refine lv_iconst (v := (nI 0)) hx hb dL_law_222 (by decide) ?_
              exact absurd (Option.some.inj h) (by decide)
          · rcases zi_at h with ⟨k26, h⟩ | ⟨k26, h⟩
            · refine lv_tableIn (off := 191) (tgt := 224) hx hb dL_law_33 (by rw [k26]; decide) (by rw [k26]; decide) (by rw [k26]; rfl) (by decide) ?_
              refine lv_aload_n hx hb dL_law_224 rfl (lv_at hl 1 rfl) ?_
              refine lv_aload_n hx hb dL_law_225 rfl (lv_at hl 0 rfl) ?_
              refine lv_iload_n hx hb dL_law_226 rfl (lv_at hl 3 rfl) ?_
              refine lv_iconst (v := (nI 1)) hx hb dL_law_227 (by decide) ?_
              refine lv_iadd hx hb dL_law_228 ?_
              obtain ⟨t27, h⟩ := zc_at h
              refine va_sld hx hb hX hbl hbA hS t27 dL_law_229 ?_
              refine lv_aload_n hx hb dL_law_230 rfl (lv_at hl 0 rfl) ?_
              refine lv_iload_n hx hb dL_law_231 rfl (lv_at hl 3 rfl) ?_
              refine lv_iconst (v := (nI 2)) hx hb dL_law_232 (by decide) ?_
              refine lv_iadd hx hb dL_law_233 ?_
              obtain ⟨t28, h⟩ := zc_at h
              refine va_sld hx hb hX hbl hbA hS t28 dL_law_234 ?_
              refine lv_aload_n hx hb dL_law_235 rfl (lv_at hl 0 rfl) ?_
              refine lv_iload_n hx hb dL_law_236 rfl (lv_at hl 3 rfl) ?_
              refine lv_iconst (v := (nI 3)) hx hb dL_law_237 (by decide) ?_
              refine lv_iadd hx hb dL_law_238 ?_
              obtain ⟨t29, h⟩ := zc_at h
              refine va_sld hx hb hX hbl hbA hS t29 dL_law_239 ?_
              obtain ⟨t30, h⟩ := zc_at h
              obtain ⟨st32, r33, c31, h⟩ := zb_at h
              refine z_cV hx hb hq hml hown hK hW hS 11 [.int ((xs ((x3 + (nI 1))).toNatClampNeg)), .int ((xs ((x3 + (nI 2))).toNatClampNeg)), .int ((xs ((x3 + (nI 3))).toNatClampNeg))] [] rfl (List.mem_singleton.mp t30) (c_X11_way l G st x1 (xs ((x3 + (nI 1))).toNatClampNeg) (xs ((x3 + (nI 2))).toNatClampNeg) (xs ((x3 + (nI 3))).toNatClampNeg) c31) (zi zm332) (zi zm333) (zi zm334) (zi zm2) (zi zm335) cal_X11_way rfl rfl hl.1 rfl (Nat.le_of_ble_eq_true rfl) ⟨(Nat.le_of_ble_eq_true rfl), (Nat.le_of_ble_eq_true rfl)⟩ ⟨(by show _ ≤ 600000; omega), (by show _ ≤ 7302250; omega)⟩ dL_law_240 (fun H locs hW hS => ?_)
              refine W.eq (g2 := F0 m 243 ls [.int r33]) rfl ?_
              refine lv_aload_n hx hb dL_law_243 rfl (lv_at hl 2 rfl) ?_
              refine lv_aload_n hx hb dL_law_244 rfl (lv_at hl 0 rfl) ?_
              refine lv_iload_n hx hb dL_law_245 rfl (lv_at hl 3 rfl) ?_
              refine lv_iconst (v := (nI 1)) hx hb dL_law_246 (by decide) ?_
              refine lv_iadd hx hb dL_law_247 ?_
              obtain ⟨t34, h⟩ := zc_at h
              refine va_sld hx hb hX hbl hbA hS t34 dL_law_248 ?_
              refine lv_aload_n hx hb dL_law_249 rfl (lv_at hl 0 rfl) ?_
              refine lv_iload_n hx hb dL_law_250 rfl (lv_at hl 3 rfl) ?_
              refine lv_iconst (v := (nI 2)) hx hb dL_law_251 (by decide) ?_
              refine lv_iadd hx hb dL_law_252 ?_
              obtain ⟨t35, h⟩ := zc_at h
              refine va_sld hx hb hX hbl hbA hS t35 dL_law_253 ?_
              refine lv_aload_n hx hb dL_law_254 rfl (lv_at hl 0 rfl) ?_
              refine lv_iload_n hx hb dL_law_255 rfl (lv_at hl 3 rfl) ?_
              refine lv_iconst (v := (nI 3)) hx hb dL_law_256 (by decide) ?_
              refine lv_iadd hx hb dL_law_257 ?_
              obtain ⟨t36, h⟩ := zc_at h
              refine va_sld hx hb hX hbl hbA hS t36 dL_law_258 ?_
              obtain ⟨t37, h⟩ := zc_at h
              obtain ⟨st39, r40, c38, h⟩ := zb_at h
              refine z_cV hx hb hq hml hown hK hW hS 12 [.int ((xs ((x3 + (nI 1))).toNatClampNeg)), .int ((xs ((x3 + (nI 2))).toNatClampNeg)), .int ((xs ((x3 + (nI 3))).toNatClampNeg))] [.int r33] rfl (List.mem_singleton.mp t37) (c_X12_way l G N st32 x2 (xs ((x3 + (nI 1))).toNatClampNeg) (xs ((x3 + (nI 2))).toNatClampNeg) (xs ((x3 + (nI 3))).toNatClampNeg) c38) (zi zm405) (zi zm406) (zi zm407) (zi zm5) (zi zm408) cal_X12_way rfl rfl hl.1 rfl (Nat.le_of_ble_eq_true rfl) ⟨(Nat.le_of_ble_eq_true rfl), (Nat.le_of_ble_eq_true rfl)⟩ ⟨(by show _ ≤ 600000; omega), (by show _ ≤ 7302250; omega)⟩ dL_law_259 (fun H locs hW hS => ?_)
              refine W.eq (g2 := F0 m 262 ls [.int r40, .int r33]) rfl ?_
              refine z_br (lv_icmp_eq (tgt := 1208) hx hb dL_law_262 (by decide)) h (fun h => ?_) (fun h => ?_)
              · refine W.widen (k := 50 + 2 * (j + 1)) (n := 4000 + 105 * (j + 1)) (by omega) (by omega) ?_
                exact B1208 st39 x1 x2 x3 _ _ _ h hW hS (lv_sub hl [0, 1, 2, 3] rfl)
              · refine lv_iconst (v := (nI 0)) hx hb dL_law_265 (by decide) ?_
                exact absurd (Option.some.inj h) (by decide)
            · rcases zi_at h with ⟨k41, h⟩ | ⟨k41, h⟩
              · refine lv_tableIn (off := 234) (tgt := 267) hx hb dL_law_33 (by rw [k41]; decide) (by rw [k41]; decide) (by rw [k41]; rfl) (by decide) ?_
                refine lv_aload_n hx hb dL_law_267 rfl (lv_at hl 1 rfl) ?_
                refine lv_aload_n hx hb dL_law_268 rfl (lv_at hl 0 rfl) ?_
                refine lv_iload_n hx hb dL_law_269 rfl (lv_at hl 3 rfl) ?_
                refine lv_iconst (v := (nI 1)) hx hb dL_law_270 (by decide) ?_
                refine lv_iadd hx hb dL_law_271 ?_
                obtain ⟨t42, h⟩ := zc_at h
                refine va_sld hx hb hX hbl hbA hS t42 dL_law_272 ?_
                refine lv_aload_n hx hb dL_law_273 rfl (lv_at hl 0 rfl) ?_
                refine lv_iload_n hx hb dL_law_274 rfl (lv_at hl 3 rfl) ?_
                refine lv_iconst (v := (nI 2)) hx hb dL_law_275 (by decide) ?_
                refine lv_iadd hx hb dL_law_276 ?_
                obtain ⟨t43, h⟩ := zc_at h
                refine va_sld hx hb hX hbl hbA hS t43 dL_law_277 ?_
                obtain ⟨t44, h⟩ := zc_at h
                obtain ⟨r46, c45, h⟩ := zd_at h
                refine z_cV hx hb hq hml hown hK hW hS 11 [.int ((xs ((x3 + (nI 1))).toNatClampNeg)), .int ((xs ((x3 + (nI 2))).toNatClampNeg))] [] rfl (List.mem_singleton.mp t44) (c_X11_of l G N st x1 (xs ((x3 + (nI 1))).toNatClampNeg) (xs ((x3 + (nI 2))).toNatClampNeg) c45) (zi zm409) (zi zm410) (zi zm411) (zi zm2) (zi zm412) cal_X11_of rfl rfl hl.1 rfl (Nat.le_of_ble_eq_true rfl) ⟨(Nat.le_of_ble_eq_true rfl), (Nat.le_of_ble_eq_true rfl)⟩ ⟨(by show _ ≤ 600000; omega), (by show _ ≤ 7302250; omega)⟩ dL_law_278 (fun H locs hW hS => ?_)
                refine W.eq (g2 := F0 m 281 ls [.int r46]) rfl ?_
                refine lv_aload_n hx hb dL_law_281 rfl (lv_at hl 2 rfl) ?_
                refine lv_aload_n hx hb dL_law_282 rfl (lv_at hl 0 rfl) ?_
                refine lv_iload_n hx hb dL_law_283 rfl (lv_at hl 3 rfl) ?_
                refine lv_iconst (v := (nI 1)) hx hb dL_law_284 (by decide) ?_
                refine lv_iadd hx hb dL_law_285 ?_
                obtain ⟨t47, h⟩ := zc_at h
                refine va_sld hx hb hX hbl hbA hS t47 dL_law_286 ?_
                refine lv_aload_n hx hb dL_law_287 rfl (lv_at hl 0 rfl) ?_
                refine lv_iload_n hx hb dL_law_288 rfl (lv_at hl 3 rfl) ?_
                refine lv_iconst (v := (nI 2)) hx hb dL_law_289 (by decide) ?_
                refine lv_iadd hx hb dL_law_290 ?_
                obtain ⟨t48, h⟩ := zc_at h
                refine va_sld hx hb hX hbl hbA hS t48 dL_law_291 ?_
                obtain ⟨t49, h⟩ := zc_at h
                obtain ⟨r51, c50, h⟩ := zd_at h
                refine z_cV hx hb hq hml hown hK hW hS 12 [.int ((xs ((x3 + (nI 1))).toNatClampNeg)), .int ((xs ((x3 + (nI 2))).toNatClampNeg))] [.int r46] rfl (List.mem_singleton.mp t49) (c_X12_of l G N st x2 (xs ((x3 + (nI 1))).toNatClampNeg) (xs ((x3 + (nI 2))).toNatClampNeg) c50) (zi zm426) (zi zm427) (zi zm428) (zi zm5) (zi zm429) cal_X12_of rfl rfl hl.1 rfl (Nat.le_of_ble_eq_true rfl) ⟨(Nat.le_of_ble_eq_true rfl), (Nat.le_of_ble_eq_true rfl)⟩ ⟨(by show _ ≤ 600000; omega), (by show _ ≤ 7302250; omega)⟩ dL_law_292 (fun H locs hW hS => ?_)
                refine W.eq (g2 := F0 m 295 ls [.int r51, .int r46]) rfl ?_
                refine z_br (lv_icmp_eq (tgt := 1208) hx hb dL_law_295 (by decide)) h (fun h => ?_) (fun h => ?_)
                · refine W.widen (k := 50 + 2 * (j + 1)) (n := 4000 + 105 * (j + 1)) (by omega) (by omega) ?_
                  exact B1208 st x1 x2 x3 _ _ _ h hW hS (lv_sub hl [0, 1, 2, 3] rfl)
                · refine lv_iconst (v := (nI 0)) hx hb dL_law_298 (by decide) ?_
                  exact absurd (Option.some.inj h) (by decide)
              · rcases zi_at h with ⟨k52, h⟩ | ⟨k52, h⟩
                · refine lv_tableIn (off := 267) (tgt := 300) hx hb dL_law_33 (by rw [k52]; decide) (by rw [k52]; decide) (by rw [k52]; rfl) (by decide) ?_
                  refine lv_aload_n hx hb dL_law_300 rfl (lv_at hl 1 rfl) ?_
                  refine lv_aload_n hx hb dL_law_301 rfl (lv_at hl 0 rfl) ?_
                  refine lv_iload_n hx hb dL_law_302 rfl (lv_at hl 3 rfl) ?_
                  refine lv_iconst (v := (nI 1)) hx hb dL_law_303 (by decide) ?_
                  refine lv_iadd hx hb dL_law_304 ?_
                  obtain ⟨t53, h⟩ := zc_at h
                  refine va_sld hx hb hX hbl hbA hS t53 dL_law_305 ?_
                  refine lv_aload_n hx hb dL_law_306 rfl (lv_at hl 0 rfl) ?_
                  refine lv_iload_n hx hb dL_law_307 rfl (lv_at hl 3 rfl) ?_
                  refine lv_iconst (v := (nI 2)) hx hb dL_law_308 (by decide) ?_
                  refine lv_iadd hx hb dL_law_309 ?_
                  obtain ⟨t54, h⟩ := zc_at h
                  refine va_sld hx hb hX hbl hbA hS t54 dL_law_310 ?_
                  refine lv_aload_n hx hb dL_law_311 rfl (lv_at hl 0 rfl) ?_
                  refine lv_iload_n hx hb dL_law_312 rfl (lv_at hl 3 rfl) ?_
                  refine lv_iconst (v := (nI 3)) hx hb dL_law_313 (by decide) ?_
                  refine lv_iadd hx hb dL_law_314 ?_
                  obtain ⟨t55, h⟩ := zc_at h
                  refine va_sld hx hb hX hbl hbA hS t55 dL_law_315 ?_
                  obtain ⟨t56, h⟩ := zc_at h
                  obtain ⟨st58, r59, c57, h⟩ := zb_at h
                  refine z_cV hx hb hq hml hown hK hW hS 11 [.int ((xs ((x3 + (nI 1))).toNatClampNeg)), .int ((xs ((x3 + (nI 2))).toNatClampNeg)), .int ((xs ((x3 + (nI 3))).toNatClampNeg))] [] rfl (List.mem_singleton.mp t56) (c_X11_row l G st x1 (xs ((x3 + (nI 1))).toNatClampNeg) (xs ((x3 + (nI 2))).toNatClampNeg) (xs ((x3 + (nI 3))).toNatClampNeg) c57) (zi zm434) (zi zm435) (zi zm436) (zi zm2) (zi zm437) cal_X11_row rfl rfl hl.1 rfl (Nat.le_of_ble_eq_true rfl) ⟨(Nat.le_of_ble_eq_true rfl), (Nat.le_of_ble_eq_true rfl)⟩ ⟨(by show _ ≤ 600000; omega), (by show _ ≤ 7302250; omega)⟩ dL_law_316 (fun H locs hW hS => ?_)
                  refine W.eq (g2 := F0 m 319 ls [.int r59]) rfl ?_
                  refine lv_aload_n hx hb dL_law_319 rfl (lv_at hl 2 rfl) ?_
                  refine lv_aload_n hx hb dL_law_320 rfl (lv_at hl 0 rfl) ?_
                  refine lv_iload_n hx hb dL_law_321 rfl (lv_at hl 3 rfl) ?_
                  refine lv_iconst (v := (nI 1)) hx hb dL_law_322 (by decide) ?_
                  refine lv_iadd hx hb dL_law_323 ?_
                  obtain ⟨t60, h⟩ := zc_at h
                  refine va_sld hx hb hX hbl hbA hS t60 dL_law_324 ?_
                  refine lv_aload_n hx hb dL_law_325 rfl (lv_at hl 0 rfl) ?_
                  refine lv_iload_n hx hb dL_law_326 rfl (lv_at hl 3 rfl) ?_
                  refine lv_iconst (v := (nI 2)) hx hb dL_law_327 (by decide) ?_
                  refine lv_iadd hx hb dL_law_328 ?_
                  obtain ⟨t61, h⟩ := zc_at h
                  refine va_sld hx hb hX hbl hbA hS t61 dL_law_329 ?_
                  refine lv_aload_n hx hb dL_law_330 rfl (lv_at hl 0 rfl) ?_
                  refine lv_iload_n hx hb dL_law_331 rfl (lv_at hl 3 rfl) ?_
                  refine lv_iconst (v := (nI 3)) hx hb dL_law_332 (by decide) ?_
                  refine lv_iadd hx hb dL_law_333 ?_
                  obtain ⟨t62, h⟩ := zc_at h
                  refine va_sld hx hb hX hbl hbA hS t62 dL_law_334 ?_
                  obtain ⟨t63, h⟩ := zc_at h
                  obtain ⟨st65, r66, c64, h⟩ := zb_at h
                  refine z_cV hx hb hq hml hown hK hW hS 12 [.int ((xs ((x3 + (nI 1))).toNatClampNeg)), .int ((xs ((x3 + (nI 2))).toNatClampNeg)), .int ((xs ((x3 + (nI 3))).toNatClampNeg))] [.int r59] rfl (List.mem_singleton.mp t63) (c_X12_row l G st58 x2 (xs ((x3 + (nI 1))).toNatClampNeg) (xs ((x3 + (nI 2))).toNatClampNeg) (xs ((x3 + (nI 3))).toNatClampNeg) c64) (zi zm465) (zi zm466) (zi zm467) (zi zm5) (zi zm468) cal_X12_row rfl rfl hl.1 rfl (Nat.le_of_ble_eq_true rfl) ⟨(Nat.le_of_ble_eq_true rfl), (Nat.le_of_ble_eq_true rfl)⟩ ⟨(by show _ ≤ 600000; omega), (by show _ ≤ 7302250; omega)⟩ dL_law_335 (fun H locs hW hS => ?_)
                  refine W.eq (g2 := F0 m 338 ls [.int r66, .int r59]) rfl ?_
                  refine z_br (lv_icmp_eq (tgt := 1208) hx hb dL_law_338 (by decide)) h (fun h => ?_) (fun h => ?_)
                  · refine W.widen (k := 50 + 2 * (j + 1)) (n := 4000 + 105 * (j + 1)) (by omega) (by omega) ?_
                    exact B1208 st65 x1 x2 x3 _ _ _ h hW hS (lv_sub hl [0, 1, 2, 3] rfl)
                  · refine lv_iconst (v := (nI 0)) hx hb dL_law_341 (by decide) ?_
                    exact absurd (Option.some.inj h) (by decide)
                · rcases zi_at h with ⟨k67, h⟩ | ⟨k67, h⟩
                  · refine lv_tableIn (off := 310) (tgt := 343) hx hb dL_law_33 (by rw [k67]; decide) (by rw [k67]; decide) (by rw [k67]; rfl) (by decide) ?_
                    refine lv_aload_n hx hb dL_law_343 rfl (lv_at hl 1 rfl) ?_
                    refine lv_aload_n hx hb dL_law_344 rfl (lv_at hl 0 rfl) ?_
                    refine lv_iload_n hx hb dL_law_345 rfl (lv_at hl 3 rfl) ?_
                    refine lv_iconst (v := (nI 1)) hx hb dL_law_346 (by decide) ?_
                    refine lv_iadd hx hb dL_law_347 ?_
                    obtain ⟨t68, h⟩ := zc_at h
                    refine va_sld hx hb hX hbl hbA hS t68 dL_law_348 ?_
                    refine lv_aload_n hx hb dL_law_349 rfl (lv_at hl 0 rfl) ?_
                    refine lv_iload_n hx hb dL_law_350 rfl (lv_at hl 3 rfl) ?_
                    refine lv_iconst (v := (nI 2)) hx hb dL_law_351 (by decide) ?_
                    refine lv_iadd hx hb dL_law_352 ?_
                    obtain ⟨t69, h⟩ := zc_at h
                    refine va_sld hx hb hX hbl hbA hS t69 dL_law_353 ?_
                    obtain ⟨t70, h⟩ := zc_at h
                    obtain ⟨st72, r73, c71, h⟩ := zb_at h
                    refine z_cV hx hb hq hml hown hK hW hS 11 [.int ((xs ((x3 + (nI 1))).toNatClampNeg)), .int ((xs ((x3 + (nI 2))).toNatClampNeg))] [] rfl (List.mem_singleton.mp t70) (c_X11_write l G N st x1 (xs ((x3 + (nI 1))).toNatClampNeg) (xs ((x3 + (nI 2))).toNatClampNeg) c71) (zi zm469) (zi zm470) (zi zm471) (zi zm2) (zi zm472) cal_X11_write rfl rfl hl.1 rfl (Nat.le_of_ble_eq_true rfl) ⟨(Nat.le_of_ble_eq_true rfl), (Nat.le_of_ble_eq_true rfl)⟩ ⟨(by show _ ≤ 600000; omega), (by show _ ≤ 7302250; omega)⟩ dL_law_354 (fun H locs hW hS => ?_)
                    refine W.eq (g2 := F0 m 357 ls [.int r73]) rfl ?_
                    refine lv_aload_n hx hb dL_law_357 rfl (lv_at hl 2 rfl) ?_
                    refine lv_aload_n hx hb dL_law_358 rfl (lv_at hl 0 rfl) ?_
                    refine lv_iload_n hx hb dL_law_359 rfl (lv_at hl 3 rfl) ?_
                    refine lv_iconst (v := (nI 1)) hx hb dL_law_360 (by decide) ?_
                    refine lv_iadd hx hb dL_law_361 ?_
                    obtain ⟨t74, h⟩ := zc_at h
                    refine va_sld hx hb hX hbl hbA hS t74 dL_law_362 ?_
                    refine lv_aload_n hx hb dL_law_363 rfl (lv_at hl 0 rfl) ?_
                    refine lv_iload_n hx hb dL_law_364 rfl (lv_at hl 3 rfl) ?_
                    refine lv_iconst (v := (nI 2)) hx hb dL_law_365 (by decide) ?_
                    refine lv_iadd hx hb dL_law_366 ?_
                    obtain ⟨t75, h⟩ := zc_at h
                    refine va_sld hx hb hX hbl hbA hS t75 dL_law_367 ?_
                    obtain ⟨t76, h⟩ := zc_at h
                    obtain ⟨st78, r79, c77, h⟩ := zb_at h
                    refine z_cV hx hb hq hml hown hK hW hS 12 [.int ((xs ((x3 + (nI 1))).toNatClampNeg)), .int ((xs ((x3 + (nI 2))).toNatClampNeg))] [.int r73] rfl (List.mem_singleton.mp t76) (c_X12_write l G N st72 x2 (xs ((x3 + (nI 1))).toNatClampNeg) (xs ((x3 + (nI 2))).toNatClampNeg) c77) (zi zm548) (zi zm549) (zi zm550) (zi zm5) (zi zm551) cal_X12_write rfl rfl hl.1 rfl (Nat.le_of_ble_eq_true rfl) ⟨(Nat.le_of_ble_eq_true rfl), (Nat.le_of_ble_eq_true rfl)⟩ ⟨(by show _ ≤ 600000; omega), (by show _ ≤ 7302250; omega)⟩ dL_law_368 (fun H locs hW hS => ?_)
                    refine W.eq (g2 := F0 m 371 ls [.int r79, .int r73]) rfl ?_
                    refine z_br (lv_icmp_eq (tgt := 1208) hx hb dL_law_371 (by decide)) h (fun h => ?_) (fun h => ?_)
                    · refine W.widen (k := 50 + 2 * (j + 1)) (n := 4000 + 105 * (j + 1)) (by omega) (by omega) ?_
                      exact B1208 st78 x1 x2 x3 _ _ _ h hW hS (lv_sub hl [0, 1, 2, 3] rfl)
                    · refine lv_iconst (v := (nI 0)) hx hb dL_law_374 (by decide) ?_
                      exact absurd (Option.some.inj h) (by decide)
                  · rcases zi_at h with ⟨k80, h⟩ | ⟨k80, h⟩
                    · refine lv_tableIn (off := 343) (tgt := 376) hx hb dL_law_33 (by rw [k80]; decide) (by rw [k80]; decide) (by rw [k80]; rfl) (by decide) ?_
                      refine lv_aload_n hx hb dL_law_376 rfl (lv_at hl 1 rfl) ?_
                      obtain ⟨t81, h⟩ := zc_at h
                      obtain ⟨st83, r84, c82, h⟩ := zb_at h
                      refine z_cV hx hb hq hml hown hK hW hS 11 [] [] rfl (List.mem_singleton.mp t81) (c_X11_tear l G st x1 c82) (zi zm572) (zi zm573) (zi zm574) (zi zm2) (zi zm575) cal_X11_tear rfl rfl hl.1 rfl (Nat.le_of_ble_eq_true rfl) ⟨(Nat.le_of_ble_eq_true rfl), (Nat.le_of_ble_eq_true rfl)⟩ ⟨(by show _ ≤ 600000; omega), (by show _ ≤ 7302250; omega)⟩ dL_law_377 (fun H locs hW hS => ?_)
                      refine W.eq (g2 := F0 m 380 ls [.int r84]) rfl ?_
                      refine lv_aload_n hx hb dL_law_380 rfl (lv_at hl 2 rfl) ?_
                      obtain ⟨t85, h⟩ := zc_at h
                      obtain ⟨st87, r88, c86, h⟩ := zb_at h
                      refine z_cV hx hb hq hml hown hK hW hS 12 [] [.int r84] rfl (List.mem_singleton.mp t85) (c_X12_tear l G st83 x2 c86) (zi zm577) (zi zm578) (zi zm579) (zi zm5) (zi zm580) cal_X12_tear rfl rfl hl.1 rfl (Nat.le_of_ble_eq_true rfl) ⟨(Nat.le_of_ble_eq_true rfl), (Nat.le_of_ble_eq_true rfl)⟩ ⟨(by show _ ≤ 600000; omega), (by show _ ≤ 7302250; omega)⟩ dL_law_381 (fun H locs hW hS => ?_)
                      refine W.eq (g2 := F0 m 384 ls [.int r88, .int r84]) rfl ?_
                      refine z_br (lv_icmp_eq (tgt := 1208) hx hb dL_law_384 (by decide)) h (fun h => ?_) (fun h => ?_)
                      · refine W.widen (k := 50 + 2 * (j + 1)) (n := 4000 + 105 * (j + 1)) (by omega) (by omega) ?_
                        exact B1208 st87 x1 x2 x3 _ _ _ h hW hS (lv_sub hl [0, 1, 2, 3] rfl)
                      · refine lv_iconst (v := (nI 0)) hx hb dL_law_387 (by decide) ?_
                        exact absurd (Option.some.inj h) (by decide)
                    · rcases zi_at h with ⟨k89, h⟩ | ⟨k89, h⟩
                      · refine lv_tableIn (off := 356) (tgt := 389) hx hb dL_law_33 (by rw [k89]; decide) (by rw [k89]; decide) (by rw [k89]; rfl) (by decide) ?_
                        refine lv_aload_n hx hb dL_law_389 rfl (lv_at hl 1 rfl) ?_
                        refine lv_aload_n hx hb dL_law_390 rfl (lv_at hl 0 rfl) ?_
                        refine lv_iload_n hx hb dL_law_391 rfl (lv_at hl 3 rfl) ?_
                        refine lv_iconst (v := (nI 1)) hx hb dL_law_392 (by decide) ?_
                        refine lv_iadd hx hb dL_law_393 ?_
                        obtain ⟨t90, h⟩ := zc_at h
                        refine va_sld hx hb hX hbl hbA hS t90 dL_law_394 ?_
                        refine lv_aload_n hx hb dL_law_395 rfl (lv_at hl 0 rfl) ?_
                        refine lv_iload_n hx hb dL_law_396 rfl (lv_at hl 3 rfl) ?_
                        refine lv_iconst (v := (nI 2)) hx hb dL_law_397 (by decide) ?_
                        refine lv_iadd hx hb dL_law_398 ?_
                        obtain ⟨t91, h⟩ := zc_at h
                        refine va_sld hx hb hX hbl hbA hS t91 dL_law_399 ?_
                        obtain ⟨t92, h⟩ := zc_at h
                        obtain ⟨r94, c93, h⟩ := zd_at h
                        refine z_cV hx hb hq hml hown hK hW hS 11 [.int ((xs ((x3 + (nI 1))).toNatClampNeg)), .int ((xs ((x3 + (nI 2))).toNatClampNeg))] [] rfl (List.mem_singleton.mp t92) (c_X11_line l G N st x1 (xs ((x3 + (nI 1))).toNatClampNeg) (xs ((x3 + (nI 2))).toNatClampNeg) c93) (zi zm581) (zi zm582) (zi zm583) (zi zm2) (zi zm584) cal_X11_line rfl rfl hl.1 rfl (Nat.le_of_ble_eq_true rfl) ⟨(Nat.le_of_ble_eq_true rfl), (Nat.le_of_ble_eq_true rfl)⟩ ⟨(by show _ ≤ 600000; omega), (by show _ ≤ 7302250; omega)⟩ dL_law_400 (fun H locs hW hS => ?_)
                        refine W.eq (g2 := F0 m 403 ls [.int r94]) rfl ?_
                        refine lv_aload_n hx hb dL_law_403 rfl (lv_at hl 2 rfl) ?_
                        refine lv_aload_n hx hb dL_law_404 rfl (lv_at hl 0 rfl) ?_
                        refine lv_iload_n hx hb dL_law_405 rfl (lv_at hl 3 rfl) ?_
                        refine lv_iconst (v := (nI 1)) hx hb dL_law_406 (by decide) ?_
                        refine lv_iadd hx hb dL_law_407 ?_
                        obtain ⟨t95, h⟩ := zc_at h
                        refine va_sld hx hb hX hbl hbA hS t95 dL_law_408 ?_
                        refine lv_aload_n hx hb dL_law_409 rfl (lv_at hl 0 rfl) ?_
                        refine lv_iload_n hx hb dL_law_410 rfl (lv_at hl 3 rfl) ?_
                        refine lv_iconst (v := (nI 2)) hx hb dL_law_411 (by decide) ?_
                        refine lv_iadd hx hb dL_law_412 ?_
                        obtain ⟨t96, h⟩ := zc_at h
                        refine va_sld hx hb hX hbl hbA hS t96 dL_law_413 ?_
                        obtain ⟨t97, h⟩ := zc_at h
                        obtain ⟨st99, r100, c98, h⟩ := zb_at h
                        refine z_cV hx hb hq hml hown hK hW hS 12 [.int ((xs ((x3 + (nI 1))).toNatClampNeg)), .int ((xs ((x3 + (nI 2))).toNatClampNeg))] [.int r94] rfl (List.mem_singleton.mp t97) (c_X12_line l G N st x2 (xs ((x3 + (nI 1))).toNatClampNeg) (xs ((x3 + (nI 2))).toNatClampNeg) c98) (zi zm620) (zi zm621) (zi zm622) (zi zm5) (zi zm623) cal_X12_line rfl rfl hl.1 rfl (Nat.le_of_ble_eq_true rfl) ⟨(Nat.le_of_ble_eq_true rfl), (Nat.le_of_ble_eq_true rfl)⟩ ⟨(by show _ ≤ 600000; omega), (by show _ ≤ 7302250; omega)⟩ dL_law_414 (fun H locs hW hS => ?_)
                        refine W.eq (g2 := F0 m 417 ls [.int r100, .int r94]) rfl ?_
                        refine z_br (lv_icmp_eq (tgt := 1208) hx hb dL_law_417 (by decide)) h (fun h => ?_) (fun h => ?_)
                        · refine W.widen (k := 50 + 2 * (j + 1)) (n := 4000 + 105 * (j + 1)) (by omega) (by omega) ?_
                          exact B1208 st99 x1 x2 x3 _ _ _ h hW hS (lv_sub hl [0, 1, 2, 3] rfl)
                        · refine lv_iconst (v := (nI 0)) hx hb dL_law_420 (by decide) ?_
                          exact absurd (Option.some.inj h) (by decide)
                      · rcases zi_at h with ⟨k101, h⟩ | ⟨k101, h⟩
                        · refine lv_tableIn (off := 389) (tgt := 422) hx hb dL_law_33 (by rw [k101]; decide) (by rw [k101]; decide) (by rw [k101]; rfl) (by decide) ?_
                          refine lv_aload_n hx hb dL_law_422 rfl (lv_at hl 1 rfl) ?_
                          refine lv_aload_n hx hb dL_law_423 rfl (lv_at hl 0 rfl) ?_
                          refine lv_iload_n hx hb dL_law_424 rfl (lv_at hl 3 rfl) ?_
                          refine lv_iconst (v := (nI 1)) hx hb dL_law_425 (by decide) ?_
                          refine lv_iadd hx hb dL_law_426 ?_
                          obtain ⟨t102, h⟩ := zc_at h
                          refine va_sld hx hb hX hbl hbA hS t102 dL_law_427 ?_
                          obtain ⟨t103, h⟩ := zc_at h
                          obtain ⟨r105, c104, h⟩ := zd_at h
                          refine z_cV hx hb hq hml hown hK hW hS 11 [.int ((xs ((x3 + (nI 1))).toNatClampNeg))] [] rfl (List.mem_singleton.mp t103) (c_X11_told l G N st x1 (xs ((x3 + (nI 1))).toNatClampNeg) c104) (zi zm636) (zi zm637) (zi zm638) (zi zm2) (zi zm639) cal_X11_told rfl rfl hl.1 rfl (Nat.le_of_ble_eq_true rfl) ⟨(Nat.le_of_ble_eq_true rfl), (Nat.le_of_ble_eq_true rfl)⟩ ⟨(by show _ ≤ 600000; omega), (by show _ ≤ 7302250; omega)⟩ dL_law_428 (fun H locs hW hS => ?_)
                          refine W.eq (g2 := F0 m 431 ls [.int r105]) rfl ?_
                          refine lv_aload_n hx hb dL_law_431 rfl (lv_at hl 2 rfl) ?_
                          refine lv_aload_n hx hb dL_law_432 rfl (lv_at hl 0 rfl) ?_
                          refine lv_iload_n hx hb dL_law_433 rfl (lv_at hl 3 rfl) ?_
                          refine lv_iconst (v := (nI 1)) hx hb dL_law_434 (by decide) ?_
                          refine lv_iadd hx hb dL_law_435 ?_
                          obtain ⟨t106, h⟩ := zc_at h
                          refine va_sld hx hb hX hbl hbA hS t106 dL_law_436 ?_
                          obtain ⟨t107, h⟩ := zc_at h
                          obtain ⟨st109, r110, c108, h⟩ := zb_at h
                          refine z_cV hx hb hq hml hown hK hW hS 12 [.int ((xs ((x3 + (nI 1))).toNatClampNeg))] [.int r105] rfl (List.mem_singleton.mp t107) (c_X12_told l G N st x2 (xs ((x3 + (nI 1))).toNatClampNeg) c108) (zi zm655) (zi zm656) (zi zm657) (zi zm5) (zi zm658) cal_X12_told rfl rfl hl.1 rfl (Nat.le_of_ble_eq_true rfl) ⟨(Nat.le_of_ble_eq_true rfl), (Nat.le_of_ble_eq_true rfl)⟩ ⟨(by show _ ≤ 600000; omega), (by show _ ≤ 7302250; omega)⟩ dL_law_437 (fun H locs hW hS => ?_)
                          refine W.eq (g2 := F0 m 440 ls [.int r110, .int r105]) rfl ?_
                          refine z_br (lv_icmp_eq (tgt := 1208) hx hb dL_law_440 (by decide)) h (fun h => ?_) (fun h => ?_)
                          · refine W.widen (k := 50 + 2 * (j + 1)) (n := 4000 + 105 * (j + 1)) (by omega) (by omega) ?_
                            exact B1208 st109 x1 x2 x3 _ _ _ h hW hS (lv_sub hl [0, 1, 2, 3] rfl)
                          · refine lv_iconst (v := (nI 0)) hx hb dL_law_443 (by decide) ?_
                            exact absurd (Option.some.inj h) (by decide)
                        · rcases zi_at h with ⟨k111, h⟩ | ⟨k111, h⟩
                          · refine lv_tableIn (off := 412) (tgt := 445) hx hb dL_law_33 (by rw [k111]; decide) (by rw [k111]; decide) (by rw [k111]; rfl) (by decide) ?_
                            refine lv_aload_n hx hb dL_law_445 rfl (lv_at hl 1 rfl) ?_
                            refine lv_aload_n hx hb dL_law_446 rfl (lv_at hl 0 rfl) ?_
                            refine lv_iload_n hx hb dL_law_447 rfl (lv_at hl 3 rfl) ?_
                            refine lv_iconst (v := (nI 1)) hx hb dL_law_448 (by decide) ?_
                            refine lv_iadd hx hb dL_law_449 ?_
                            obtain ⟨t112, h⟩ := zc_at h
                            refine va_sld hx hb hX hbl hbA hS t112 dL_law_450 ?_
                            refine lv_aload_n hx hb dL_law_451 rfl (lv_at hl 0 rfl) ?_
                            refine lv_iload_n hx hb dL_law_452 rfl (lv_at hl 3 rfl) ?_
                            refine lv_iconst (v := (nI 2)) hx hb dL_law_453 (by decide) ?_
                            refine lv_iadd hx hb dL_law_454 ?_
                            obtain ⟨t113, h⟩ := zc_at h
                            refine va_sld hx hb hX hbl hbA hS t113 dL_law_455 ?_
                            refine lv_aload_n hx hb dL_law_456 rfl (lv_at hl 0 rfl) ?_
                            refine lv_iload_n hx hb dL_law_457 rfl (lv_at hl 3 rfl) ?_
                            refine lv_iconst (v := (nI 3)) hx hb dL_law_458 (by decide) ?_
                            refine lv_iadd hx hb dL_law_459 ?_
                            obtain ⟨t114, h⟩ := zc_at h
                            refine va_sld hx hb hX hbl hbA hS t114 dL_law_460 ?_
                            obtain ⟨t115, h⟩ := zc_at h
                            obtain ⟨r117, c116, h⟩ := zd_at h
                            refine z_cV hx hb hq hml hown hK hW hS 11 [.int ((xs ((x3 + (nI 1))).toNatClampNeg)), .int ((xs ((x3 + (nI 2))).toNatClampNeg)), .int ((xs ((x3 + (nI 3))).toNatClampNeg))] [] rfl (List.mem_singleton.mp t115) (c_X11_cost l G st x1 (xs ((x3 + (nI 1))).toNatClampNeg) (xs ((x3 + (nI 2))).toNatClampNeg) (xs ((x3 + (nI 3))).toNatClampNeg) c116) (zi zm683) (zi zm684) (zi zm685) (zi zm2) (zi zm686) cal_X11_cost rfl rfl hl.1 rfl (Nat.le_of_ble_eq_true rfl) ⟨(Nat.le_of_ble_eq_true rfl), (Nat.le_of_ble_eq_true rfl)⟩ ⟨(by show _ ≤ 600000; omega), (by show _ ≤ 7302250; omega)⟩ dL_law_461 (fun H locs hW hS => ?_)
                            refine W.eq (g2 := F0 m 464 ls [.int r117]) rfl ?_
                            refine lv_aload_n hx hb dL_law_464 rfl (lv_at hl 2 rfl) ?_
                            refine lv_aload_n hx hb dL_law_465 rfl (lv_at hl 0 rfl) ?_
                            refine lv_iload_n hx hb dL_law_466 rfl (lv_at hl 3 rfl) ?_
                            refine lv_iconst (v := (nI 1)) hx hb dL_law_467 (by decide) ?_
                            refine lv_iadd hx hb dL_law_468 ?_
                            obtain ⟨t118, h⟩ := zc_at h
                            refine va_sld hx hb hX hbl hbA hS t118 dL_law_469 ?_
                            refine lv_aload_n hx hb dL_law_470 rfl (lv_at hl 0 rfl) ?_
                            refine lv_iload_n hx hb dL_law_471 rfl (lv_at hl 3 rfl) ?_
                            refine lv_iconst (v := (nI 2)) hx hb dL_law_472 (by decide) ?_
                            refine lv_iadd hx hb dL_law_473 ?_
                            obtain ⟨t119, h⟩ := zc_at h
                            refine va_sld hx hb hX hbl hbA hS t119 dL_law_474 ?_
                            refine lv_aload_n hx hb dL_law_475 rfl (lv_at hl 0 rfl) ?_
                            refine lv_iload_n hx hb dL_law_476 rfl (lv_at hl 3 rfl) ?_
                            refine lv_iconst (v := (nI 3)) hx hb dL_law_477 (by decide) ?_
                            refine lv_iadd hx hb dL_law_478 ?_
                            obtain ⟨t120, h⟩ := zc_at h
                            refine va_sld hx hb hX hbl hbA hS t120 dL_law_479 ?_
                            obtain ⟨t121, h⟩ := zc_at h
                            obtain ⟨r123, c122, h⟩ := zd_at h
                            refine z_cV hx hb hq hml hown hK hW hS 12 [.int ((xs ((x3 + (nI 1))).toNatClampNeg)), .int ((xs ((x3 + (nI 2))).toNatClampNeg)), .int ((xs ((x3 + (nI 3))).toNatClampNeg))] [.int r117] rfl (List.mem_singleton.mp t121) (c_X12_cost l G N st x2 (xs ((x3 + (nI 1))).toNatClampNeg) (xs ((x3 + (nI 2))).toNatClampNeg) (xs ((x3 + (nI 3))).toNatClampNeg) c122) (zi zm687) (zi zm688) (zi zm689) (zi zm5) (zi zm690) cal_X12_cost rfl rfl hl.1 rfl (Nat.le_of_ble_eq_true rfl) ⟨(Nat.le_of_ble_eq_true rfl), (Nat.le_of_ble_eq_true rfl)⟩ ⟨(by show _ ≤ 600000; omega), (by show _ ≤ 7302250; omega)⟩ dL_law_480 (fun H locs hW hS => ?_)
                            refine W.eq (g2 := F0 m 483 ls [.int r123, .int r117]) rfl ?_
                            refine z_br (lv_icmp_eq (tgt := 1208) hx hb dL_law_483 (by decide)) h (fun h => ?_) (fun h => ?_)
                            · refine W.widen (k := 50 + 2 * (j + 1)) (n := 4000 + 105 * (j + 1)) (by omega) (by omega) ?_
                              exact B1208 st x1 x2 x3 _ _ _ h hW hS (lv_sub hl [0, 1, 2, 3] rfl)
                            · refine lv_iconst (v := (nI 0)) hx hb dL_law_486 (by decide) ?_
                              exact absurd (Option.some.inj h) (by decide)
                          · rcases zi_at h with ⟨k124, h⟩ | ⟨k124, h⟩
                            · refine lv_tableIn (off := 455) (tgt := 488) hx hb dL_law_33 (by rw [k124]; decide) (by rw [k124]; decide) (by rw [k124]; rfl) (by decide) ?_
                              refine lv_aload_n hx hb dL_law_488 rfl (lv_at hl 1 rfl) ?_
                              refine lv_aload_n hx hb dL_law_489 rfl (lv_at hl 0 rfl) ?_
                              refine lv_iload_n hx hb dL_law_490 rfl (lv_at hl 3 rfl) ?_
                              refine lv_iconst (v := (nI 1)) hx hb dL_law_491 (by decide) ?_
                              refine lv_iadd hx hb dL_law_492 ?_
                              obtain ⟨t125, h⟩ := zc_at h
                              refine va_sld hx hb hX hbl hbA hS t125 dL_law_493 ?_
                              obtain ⟨t126, h⟩ := zc_at h
                              obtain ⟨st128, r129, c127, h⟩ := zb_at h
                              refine z_cV hx hb hq hml hown hK hW hS 11 [.int ((xs ((x3 + (nI 1))).toNatClampNeg))] [] rfl (List.mem_singleton.mp t126) (c_X11_looks l G N st x1 (xs ((x3 + (nI 1))).toNatClampNeg) c127) (zi zm691) (zi zm692) (zi zm693) (zi zm2) (zi zm694) cal_X11_looks rfl rfl hl.1 rfl (Nat.le_of_ble_eq_true rfl) ⟨(Nat.le_of_ble_eq_true rfl), (Nat.le_of_ble_eq_true rfl)⟩ ⟨(by show _ ≤ 600000; omega), (by show _ ≤ 7302250; omega)⟩ dL_law_494 (fun H locs hW hS => ?_)
                              refine W.eq (g2 := F0 m 497 ls [.int r129]) rfl ?_
                              refine lv_aload_n hx hb dL_law_497 rfl (lv_at hl 2 rfl) ?_
                              refine lv_aload_n hx hb dL_law_498 rfl (lv_at hl 0 rfl) ?_
                              refine lv_iload_n hx hb dL_law_499 rfl (lv_at hl 3 rfl) ?_
                              refine lv_iconst (v := (nI 1)) hx hb dL_law_500 (by decide) ?_
                              refine lv_iadd hx hb dL_law_501 ?_
                              obtain ⟨t130, h⟩ := zc_at h
                              refine va_sld hx hb hX hbl hbA hS t130 dL_law_502 ?_
                              obtain ⟨t131, h⟩ := zc_at h
                              obtain ⟨st133, r134, c132, h⟩ := zb_at h
                              refine z_cV hx hb hq hml hown hK hW hS 12 [.int ((xs ((x3 + (nI 1))).toNatClampNeg))] [.int r129] rfl (List.mem_singleton.mp t131) (c_X12_looks l G N st128 x2 (xs ((x3 + (nI 1))).toNatClampNeg) c132) (zi zm699) (zi zm700) (zi zm701) (zi zm5) (zi zm702) cal_X12_looks rfl rfl hl.1 rfl (Nat.le_of_ble_eq_true rfl) ⟨(Nat.le_of_ble_eq_true rfl), (Nat.le_of_ble_eq_true rfl)⟩ ⟨(by show _ ≤ 600000; omega), (by show _ ≤ 7302250; omega)⟩ dL_law_503 (fun H locs hW hS => ?_)
                              refine W.eq (g2 := F0 m 506 ls [.int r134, .int r129]) rfl ?_
                              refine z_br (lv_icmp_eq (tgt := 1208) hx hb dL_law_506 (by decide)) h (fun h => ?_) (fun h => ?_)
                              · refine W.widen (k := 50 + 2 * (j + 1)) (n := 4000 + 105 * (j + 1)) (by omega) (by omega) ?_
                                exact B1208 st133 x1 x2 x3 _ _ _ h hW hS (lv_sub hl [0, 1, 2, 3] rfl)
                              · refine lv_iconst (v := (nI 0)) hx hb dL_law_509 (by decide) ?_
                                exact absurd (Option.some.inj h) (by decide)
                            · rcases zi_at h with ⟨k135, h⟩ | ⟨k135, h⟩
                              · refine lv_tableIn (off := 478) (tgt := 511) hx hb dL_law_33 (by rw [k135]; decide) (by rw [k135]; decide) (by rw [k135]; rfl) (by decide) ?_
                                refine lv_aload_n hx hb dL_law_511 rfl (lv_at hl 1 rfl) ?_
                                refine lv_aload_n hx hb dL_law_512 rfl (lv_at hl 0 rfl) ?_
                                refine lv_iload_n hx hb dL_law_513 rfl (lv_at hl 3 rfl) ?_
                                refine lv_iconst (v := (nI 1)) hx hb dL_law_514 (by decide) ?_
                                refine lv_iadd hx hb dL_law_515 ?_
                                obtain ⟨t136, h⟩ := zc_at h
                                refine va_sld hx hb hX hbl hbA hS t136 dL_law_516 ?_
                                obtain ⟨t137, h⟩ := zc_at h
                                obtain ⟨r139, c138, h⟩ := zd_at h
                                refine z_cV hx hb hq hml hown hK hW hS 11 [.int ((xs ((x3 + (nI 1))).toNatClampNeg))] [] rfl (List.mem_singleton.mp t137) (c_X11_safe l G N st x1 (xs ((x3 + (nI 1))).toNatClampNeg) c138) (zi zm703) (zi zm704) (zi zm705) (zi zm2) (zi zm706) cal_X11_safe rfl rfl hl.1 rfl (Nat.le_of_ble_eq_true rfl) ⟨(Nat.le_of_ble_eq_true rfl), (Nat.le_of_ble_eq_true rfl)⟩ ⟨(by show _ ≤ 600000; omega), (by show _ ≤ 7302250; omega)⟩ dL_law_517 (fun H locs hW hS => ?_)
                                refine W.eq (g2 := F0 m 520 ls [.long (r139)]) rfl ?_
                                refine lv_aload_n hx hb dL_law_520 rfl (lv_at hl 2 rfl) ?_
                                refine lv_aload_n hx hb dL_law_521 rfl (lv_at hl 0 rfl) ?_
                                refine lv_iload_n hx hb dL_law_522 rfl (lv_at hl 3 rfl) ?_
                                refine lv_iconst (v := (nI 1)) hx hb dL_law_523 (by decide) ?_
                                refine lv_iadd hx hb dL_law_524 ?_
                                obtain ⟨t140, h⟩ := zc_at h
                                refine va_sld hx hb hX hbl hbA hS t140 dL_law_525 ?_
                                obtain ⟨t141, h⟩ := zc_at h
                                obtain ⟨st143, r144, c142, h⟩ := zb_at h
                                refine z_cV hx hb hq hml hown hK hW hS 12 [.int ((xs ((x3 + (nI 1))).toNatClampNeg))] [.long (r139)] rfl (List.mem_singleton.mp t141) (c_X12_safe l G N st x2 (xs ((x3 + (nI 1))).toNatClampNeg) c142) (zi zm736) (zi zm737) (zi zm738) (zi zm5) (zi zm739) cal_X12_safe rfl rfl hl.1 rfl (Nat.le_of_ble_eq_true rfl) ⟨(Nat.le_of_ble_eq_true rfl), (Nat.le_of_ble_eq_true rfl)⟩ ⟨(by show _ ≤ 600000; omega), (by show _ ≤ 7302250; omega)⟩ dL_law_526 (fun H locs hW hS => ?_)
                                refine W.eq (g2 := F0 m 529 ls [.long (r144), .long (r139)]) rfl ?_
                                refine W.lcmp hx hb dL_law_529 ?_
                                refine z_br (lv_if_eq (tgt := 1208) hx hb dL_law_530 (by decide)) h (fun h => ?_) (fun h => ?_)
                                · refine W.widen (k := 50 + 2 * (j + 1)) (n := 4000 + 105 * (j + 1)) (by omega) (by omega) ?_
                                  exact B1208 st143 x1 x2 x3 _ _ _ h hW hS (lv_sub hl [0, 1, 2, 3] rfl)
                                · refine lv_iconst (v := (nI 0)) hx hb dL_law_533 (by decide) ?_
                                  exact absurd (Option.some.inj h) (by decide)
                              · rcases zi_at h with ⟨k145, h⟩ | ⟨k145, h⟩
                                · refine lv_tableIn (off := 502) (tgt := 535) hx hb dL_law_33 (by rw [k145]; decide) (by rw [k145]; decide) (by rw [k145]; rfl) (by decide) ?_
                                  refine lv_aload_n hx hb dL_law_535 rfl (lv_at hl 1 rfl) ?_
                                  refine lv_aload_n hx hb dL_law_536 rfl (lv_at hl 0 rfl) ?_
                                  refine lv_iload_n hx hb dL_law_537 rfl (lv_at hl 3 rfl) ?_
                                  refine lv_iconst (v := (nI 1)) hx hb dL_law_538 (by decide) ?_
                                  refine lv_iadd hx hb dL_law_539 ?_
                                  obtain ⟨t146, h⟩ := zc_at h
                                  refine va_sld hx hb hX hbl hbA hS t146 dL_law_540 ?_
                                  obtain ⟨t147, h⟩ := zc_at h
                                  obtain ⟨r149, c148, h⟩ := zd_at h
                                  refine z_cV hx hb hq hml hown hK hW hS 11 [.int ((xs ((x3 + (nI 1))).toNatClampNeg))] [] rfl (List.mem_singleton.mp t147) (c_X11_again l G N st x1 (xs ((x3 + (nI 1))).toNatClampNeg) c148) (zi zm761) (zi zm762) (zi zm763) (zi zm2) (zi zm764) cal_X11_again rfl rfl hl.1 rfl (Nat.le_of_ble_eq_true rfl) ⟨(Nat.le_of_ble_eq_true rfl), (Nat.le_of_ble_eq_true rfl)⟩ ⟨(by show _ ≤ 600000; omega), (by show _ ≤ 7302250; omega)⟩ dL_law_541 (fun H locs hW hS => ?_)
                                  refine W.eq (g2 := F0 m 544 ls [.long (r149)]) rfl ?_
                                  refine lv_aload_n hx hb dL_law_544 rfl (lv_at hl 2 rfl) ?_
                                  refine lv_aload_n hx hb dL_law_545 rfl (lv_at hl 0 rfl) ?_
                                  refine lv_iload_n hx hb dL_law_546 rfl (lv_at hl 3 rfl) ?_
                                  refine lv_iconst (v := (nI 1)) hx hb dL_law_547 (by decide) ?_
                                  refine lv_iadd hx hb dL_law_548 ?_
                                  obtain ⟨t150, h⟩ := zc_at h
                                  refine va_sld hx hb hX hbl hbA hS t150 dL_law_549 ?_
                                  obtain ⟨t151, h⟩ := zc_at h
                                  obtain ⟨st153, r154, c152, h⟩ := zb_at h
                                  refine z_cV hx hb hq hml hown hK hW hS 12 [.int ((xs ((x3 + (nI 1))).toNatClampNeg))] [.long (r149)] rfl (List.mem_singleton.mp t151) (c_X12_again l G N st x2 (xs ((x3 + (nI 1))).toNatClampNeg) c152) (zi zm766) (zi zm767) (zi zm768) (zi zm5) (zi zm769) cal_X12_again rfl rfl hl.1 rfl (Nat.le_of_ble_eq_true rfl) ⟨(Nat.le_of_ble_eq_true rfl), (Nat.le_of_ble_eq_true rfl)⟩ ⟨(by show _ ≤ 600000; omega), (by show _ ≤ 7302250; omega)⟩ dL_law_550 (fun H locs hW hS => ?_)
                                  refine W.eq (g2 := F0 m 553 ls [.long (r154), .long (r149)]) rfl ?_
                                  refine W.lcmp hx hb dL_law_553 ?_
                                  refine z_br (lv_if_eq (tgt := 1208) hx hb dL_law_554 (by decide)) h (fun h => ?_) (fun h => ?_)
                                  · refine W.widen (k := 50 + 2 * (j + 1)) (n := 4000 + 105 * (j + 1)) (by omega) (by omega) ?_
                                    exact B1208 st153 x1 x2 x3 _ _ _ h hW hS (lv_sub hl [0, 1, 2, 3] rfl)
                                  · refine lv_iconst (v := (nI 0)) hx hb dL_law_557 (by decide) ?_
                                    exact absurd (Option.some.inj h) (by decide)
                                · rcases zi_at h with ⟨k155, h⟩ | ⟨k155, h⟩
                                  · refine lv_tableIn (off := 526) (tgt := 559) hx hb dL_law_33 (by rw [k155]; decide) (by rw [k155]; decide) (by rw [k155]; rfl) (by decide) ?_
                                    refine lv_aload_n hx hb dL_law_559 rfl (lv_at hl 1 rfl) ?_
                                    refine lv_aload_n hx hb dL_law_560 rfl (lv_at hl 0 rfl) ?_
                                    refine lv_iload_n hx hb dL_law_561 rfl (lv_at hl 3 rfl) ?_
                                    refine lv_iconst (v := (nI 1)) hx hb dL_law_562 (by decide) ?_
                                    refine lv_iadd hx hb dL_law_563 ?_
                                    obtain ⟨t156, h⟩ := zc_at h
                                    refine va_sld hx hb hX hbl hbA hS t156 dL_law_564 ?_
                                    refine lv_aload_n hx hb dL_law_565 rfl (lv_at hl 0 rfl) ?_
                                    refine lv_iload_n hx hb dL_law_566 rfl (lv_at hl 3 rfl) ?_
                                    refine lv_iconst (v := (nI 2)) hx hb dL_law_567 (by decide) ?_
                                    refine lv_iadd hx hb dL_law_568 ?_
                                    obtain ⟨t157, h⟩ := zc_at h
                                    refine va_sld hx hb hX hbl hbA hS t157 dL_law_569 ?_
                                    obtain ⟨t158, h⟩ := zc_at h
                                    obtain ⟨r160, c159, h⟩ := zd_at h
                                    refine z_cV hx hb hq hml hown hK hW hS 11 [.int ((xs ((x3 + (nI 1))).toNatClampNeg)), .int ((xs ((x3 + (nI 2))).toNatClampNeg))] [] rfl (List.mem_singleton.mp t158) (c_X11_twice l G N st x1 (xs ((x3 + (nI 1))).toNatClampNeg) (xs ((x3 + (nI 2))).toNatClampNeg) c159) (zi zm771) (zi zm772) (zi zm773) (zi zm2) (zi zm774) cal_X11_twice rfl rfl hl.1 rfl (Nat.le_of_ble_eq_true rfl) ⟨(Nat.le_of_ble_eq_true rfl), (Nat.le_of_ble_eq_true rfl)⟩ ⟨(by show _ ≤ 600000; omega), (by show _ ≤ 7302250; omega)⟩ dL_law_570 (fun H locs hW hS => ?_)
                                    refine W.eq (g2 := F0 m 573 ls [.long (r160)]) rfl ?_
                                    refine lv_aload_n hx hb dL_law_573 rfl (lv_at hl 2 rfl) ?_
                                    refine lv_aload_n hx hb dL_law_574 rfl (lv_at hl 0 rfl) ?_
                                    refine lv_iload_n hx hb dL_law_575 rfl (lv_at hl 3 rfl) ?_
                                    refine lv_iconst (v := (nI 1)) hx hb dL_law_576 (by decide) ?_
                                    refine lv_iadd hx hb dL_law_577 ?_
                                    obtain ⟨t161, h⟩ := zc_at h
                                    refine va_sld hx hb hX hbl hbA hS t161 dL_law_578 ?_
                                    refine lv_aload_n hx hb dL_law_579 rfl (lv_at hl 0 rfl) ?_
                                    refine lv_iload_n hx hb dL_law_580 rfl (lv_at hl 3 rfl) ?_
                                    refine lv_iconst (v := (nI 2)) hx hb dL_law_581 (by decide) ?_
                                    refine lv_iadd hx hb dL_law_582 ?_
                                    obtain ⟨t162, h⟩ := zc_at h
                                    refine va_sld hx hb hX hbl hbA hS t162 dL_law_583 ?_
                                    obtain ⟨t163, h⟩ := zc_at h
                                    obtain ⟨st165, r166, c164, h⟩ := zb_at h
                                    refine z_cV hx hb hq hml hown hK hW hS 12 [.int ((xs ((x3 + (nI 1))).toNatClampNeg)), .int ((xs ((x3 + (nI 2))).toNatClampNeg))] [.long (r160)] rfl (List.mem_singleton.mp t163) (c_X12_twice l G N st x2 (xs ((x3 + (nI 1))).toNatClampNeg) (xs ((x3 + (nI 2))).toNatClampNeg) c164) (zi zm776) (zi zm777) (zi zm778) (zi zm5) (zi zm779) cal_X12_twice rfl rfl hl.1 rfl (Nat.le_of_ble_eq_true rfl) ⟨(Nat.le_of_ble_eq_true rfl), (Nat.le_of_ble_eq_true rfl)⟩ ⟨(by show _ ≤ 600000; omega), (by show _ ≤ 7302250; omega)⟩ dL_law_584 (fun H locs hW hS => ?_)
                                    refine W.eq (g2 := F0 m 587 ls [.long (r166), .long (r160)]) rfl ?_
                                    refine W.lcmp hx hb dL_law_587 ?_
                                    refine z_br (lv_if_eq (tgt := 1208) hx hb dL_law_588 (by decide)) h (fun h => ?_) (fun h => ?_)
                                    · refine W.widen (k := 50 + 2 * (j + 1)) (n := 4000 + 105 * (j + 1)) (by omega) (by omega) ?_
                                      exact B1208 st165 x1 x2 x3 _ _ _ h hW hS (lv_sub hl [0, 1, 2, 3] rfl)
                                    · refine lv_iconst (v := (nI 0)) hx hb dL_law_591 (by decide) ?_
                                      exact absurd (Option.some.inj h) (by decide)
                                  · rcases zi_at h with ⟨k167, h⟩ | ⟨k167, h⟩
                                    · refine lv_tableIn (off := 560) (tgt := 593) hx hb dL_law_33 (by rw [k167]; decide) (by rw [k167]; decide) (by rw [k167]; rfl) (by decide) ?_
                                      refine lv_aload_n hx hb dL_law_593 rfl (lv_at hl 1 rfl) ?_
                                      refine lv_aload_n hx hb dL_law_594 rfl (lv_at hl 0 rfl) ?_
                                      refine lv_iload_n hx hb dL_law_595 rfl (lv_at hl 3 rfl) ?_
                                      refine lv_iconst (v := (nI 1)) hx hb dL_law_596 (by decide) ?_
                                      refine lv_iadd hx hb dL_law_597 ?_
                                      obtain ⟨t168, h⟩ := zc_at h
                                      refine va_sld hx hb hX hbl hbA hS t168 dL_law_598 ?_
                                      refine lv_aload_n hx hb dL_law_599 rfl (lv_at hl 0 rfl) ?_
                                      refine lv_iload_n hx hb dL_law_600 rfl (lv_at hl 3 rfl) ?_
                                      refine lv_iconst (v := (nI 2)) hx hb dL_law_601 (by decide) ?_
                                      refine lv_iadd hx hb dL_law_602 ?_
                                      obtain ⟨t169, h⟩ := zc_at h
                                      refine va_sld hx hb hX hbl hbA hS t169 dL_law_603 ?_
                                      refine lv_aload_n hx hb dL_law_604 rfl (lv_at hl 0 rfl) ?_
                                      refine lv_iload_n hx hb dL_law_605 rfl (lv_at hl 3 rfl) ?_
                                      refine lv_iconst (v := (nI 3)) hx hb dL_law_606 (by decide) ?_
                                      refine lv_iadd hx hb dL_law_607 ?_
                                      obtain ⟨t170, h⟩ := zc_at h
                                      refine va_sld hx hb hX hbl hbA hS t170 dL_law_608 ?_
                                      obtain ⟨t171, h⟩ := zc_at h
                                      obtain ⟨r173, c172, h⟩ := zd_at h
                                      refine z_cV hx hb hq hml hown hK hW hS 11 [.int ((xs ((x3 + (nI 1))).toNatClampNeg)), .int ((xs ((x3 + (nI 2))).toNatClampNeg)), .int ((xs ((x3 + (nI 3))).toNatClampNeg))] [] rfl (List.mem_singleton.mp t171) (c_X11_quick l G N st x1 (xs ((x3 + (nI 1))).toNatClampNeg) (xs ((x3 + (nI 2))).toNatClampNeg) (xs ((x3 + (nI 3))).toNatClampNeg) c172) (zi zm780) (zi zm781) (zi zm782) (zi zm2) (zi zm783) cal_X11_quick rfl rfl hl.1 rfl (Nat.le_of_ble_eq_true rfl) ⟨(Nat.le_of_ble_eq_true rfl), (Nat.le_of_ble_eq_true rfl)⟩ ⟨(by show _ ≤ 600000; omega), (by show _ ≤ 7302250; omega)⟩ dL_law_609 (fun H locs hW hS => ?_)
                                      refine W.eq (g2 := F0 m 612 ls [.int r173]) rfl ?_
                                      refine lv_aload_n hx hb dL_law_612 rfl (lv_at hl 2 rfl) ?_
                                      refine lv_aload_n hx hb dL_law_613 rfl (lv_at hl 0 rfl) ?_
                                      refine lv_iload_n hx hb dL_law_614 rfl (lv_at hl 3 rfl) ?_
                                      refine lv_iconst (v := (nI 1)) hx hb dL_law_615 (by decide) ?_
                                      refine lv_iadd hx hb dL_law_616 ?_
                                      obtain ⟨t174, h⟩ := zc_at h
                                      refine va_sld hx hb hX hbl hbA hS t174 dL_law_617 ?_
                                      refine lv_aload_n hx hb dL_law_618 rfl (lv_at hl 0 rfl) ?_
                                      refine lv_iload_n hx hb dL_law_619 rfl (lv_at hl 3 rfl) ?_
                                      refine lv_iconst (v := (nI 2)) hx hb dL_law_620 (by decide) ?_
                                      refine lv_iadd hx hb dL_law_621 ?_
                                      obtain ⟨t175, h⟩ := zc_at h
                                      refine va_sld hx hb hX hbl hbA hS t175 dL_law_622 ?_
                                      refine lv_aload_n hx hb dL_law_623 rfl (lv_at hl 0 rfl) ?_
                                      refine lv_iload_n hx hb dL_law_624 rfl (lv_at hl 3 rfl) ?_
                                      refine lv_iconst (v := (nI 3)) hx hb dL_law_625 (by decide) ?_
                                      refine lv_iadd hx hb dL_law_626 ?_
                                      obtain ⟨t176, h⟩ := zc_at h
                                      refine va_sld hx hb hX hbl hbA hS t176 dL_law_627 ?_
                                      obtain ⟨t177, h⟩ := zc_at h
                                      obtain ⟨r179, c178, h⟩ := zd_at h
                                      refine z_cV hx hb hq hml hown hK hW hS 12 [.int ((xs ((x3 + (nI 1))).toNatClampNeg)), .int ((xs ((x3 + (nI 2))).toNatClampNeg)), .int ((xs ((x3 + (nI 3))).toNatClampNeg))] [.int r173] rfl (List.mem_singleton.mp t177) (c_X12_quick l G N st x2 (xs ((x3 + (nI 1))).toNatClampNeg) (xs ((x3 + (nI 2))).toNatClampNeg) (xs ((x3 + (nI 3))).toNatClampNeg) c178) (zi zm787) (zi zm788) (zi zm789) (zi zm5) (zi zm790) cal_X12_quick rfl rfl hl.1 rfl (Nat.le_of_ble_eq_true rfl) ⟨(Nat.le_of_ble_eq_true rfl), (Nat.le_of_ble_eq_true rfl)⟩ ⟨(by show _ ≤ 600000; omega), (by show _ ≤ 7302250; omega)⟩ dL_law_628 (fun H locs hW hS => ?_)
                                      refine W.eq (g2 := F0 m 631 ls [.int r179, .int r173]) rfl ?_
                                      refine z_br (lv_icmp_eq (tgt := 1208) hx hb dL_law_631 (by decide)) h (fun h => ?_) (fun h => ?_)
                                      · refine W.widen (k := 50 + 2 * (j + 1)) (n := 4000 + 105 * (j + 1)) (by omega) (by omega) ?_
                                        exact B1208 st x1 x2 x3 _ _ _ h hW hS (lv_sub hl [0, 1, 2, 3] rfl)
                                      · refine lv_iconst (v := (nI 0)) hx hb dL_law_634 (by decide) ?_
                                        exact absurd (Option.some.inj h) (by decide)
                                    · rcases zi_at h with ⟨k180, h⟩ | ⟨k180, h⟩
                                      · refine lv_tableIn (off := 603) (tgt := 636) hx hb dL_law_33 (by rw [k180]; decide) (by rw [k180]; decide) (by rw [k180]; rfl) (by decide) ?_
                                        refine lv_aload_n hx hb dL_law_636 rfl (lv_at hl 1 rfl) ?_
                                        refine lv_aload_n hx hb dL_law_637 rfl (lv_at hl 0 rfl) ?_
                                        refine lv_iload_n hx hb dL_law_638 rfl (lv_at hl 3 rfl) ?_
                                        refine lv_iconst (v := (nI 1)) hx hb dL_law_639 (by decide) ?_
                                        refine lv_iadd hx hb dL_law_640 ?_
                                        obtain ⟨t181, h⟩ := zc_at h
                                        refine va_sld hx hb hX hbl hbA hS t181 dL_law_641 ?_
                                        refine lv_aload_n hx hb dL_law_642 rfl (lv_at hl 0 rfl) ?_
                                        refine lv_iload_n hx hb dL_law_643 rfl (lv_at hl 3 rfl) ?_
                                        refine lv_iconst (v := (nI 2)) hx hb dL_law_644 (by decide) ?_
                                        refine lv_iadd hx hb dL_law_645 ?_
                                        obtain ⟨t182, h⟩ := zc_at h
                                        refine va_sld hx hb hX hbl hbA hS t182 dL_law_646 ?_
                                        refine lv_aload_n hx hb dL_law_647 rfl (lv_at hl 0 rfl) ?_
                                        refine lv_iload_n hx hb dL_law_648 rfl (lv_at hl 3 rfl) ?_
                                        refine lv_iconst (v := (nI 3)) hx hb dL_law_649 (by decide) ?_
                                        refine lv_iadd hx hb dL_law_650 ?_
                                        obtain ⟨t183, h⟩ := zc_at h
                                        refine va_sld hx hb hX hbl hbA hS t183 dL_law_651 ?_
                                        obtain ⟨t184, h⟩ := zc_at h
                                        obtain ⟨r186, c185, h⟩ := zd_at h
                                        refine z_cV hx hb hq hml hown hK hW hS 11 [.int ((xs ((x3 + (nI 1))).toNatClampNeg)), .int ((xs ((x3 + (nI 2))).toNatClampNeg)), .int ((xs ((x3 + (nI 3))).toNatClampNeg))] [] rfl (List.mem_singleton.mp t184) (c_X11_change l G N st x1 (xs ((x3 + (nI 1))).toNatClampNeg) (xs ((x3 + (nI 2))).toNatClampNeg) (xs ((x3 + (nI 3))).toNatClampNeg) c185) (zi zm791) (zi zm792) (zi zm793) (zi zm2) (zi zm794) cal_X11_change rfl rfl hl.1 rfl (Nat.le_of_ble_eq_true rfl) ⟨(Nat.le_of_ble_eq_true rfl), (Nat.le_of_ble_eq_true rfl)⟩ ⟨(by show _ ≤ 600000; omega), (by show _ ≤ 7302250; omega)⟩ dL_law_652 (fun H locs hW hS => ?_)
                                        refine W.eq (g2 := F0 m 655 ls [.int r186]) rfl ?_
                                        refine lv_aload_n hx hb dL_law_655 rfl (lv_at hl 2 rfl) ?_
                                        refine lv_aload_n hx hb dL_law_656 rfl (lv_at hl 0 rfl) ?_
                                        refine lv_iload_n hx hb dL_law_657 rfl (lv_at hl 3 rfl) ?_
                                        refine lv_iconst (v := (nI 1)) hx hb dL_law_658 (by decide) ?_
                                        refine lv_iadd hx hb dL_law_659 ?_
                                        obtain ⟨t187, h⟩ := zc_at h
                                        refine va_sld hx hb hX hbl hbA hS t187 dL_law_660 ?_
                                        refine lv_aload_n hx hb dL_law_661 rfl (lv_at hl 0 rfl) ?_
                                        refine lv_iload_n hx hb dL_law_662 rfl (lv_at hl 3 rfl) ?_
                                        refine lv_iconst (v := (nI 2)) hx hb dL_law_663 (by decide) ?_
                                        refine lv_iadd hx hb dL_law_664 ?_
                                        obtain ⟨t188, h⟩ := zc_at h
                                        refine va_sld hx hb hX hbl hbA hS t188 dL_law_665 ?_
                                        refine lv_aload_n hx hb dL_law_666 rfl (lv_at hl 0 rfl) ?_
                                        refine lv_iload_n hx hb dL_law_667 rfl (lv_at hl 3 rfl) ?_
                                        refine lv_iconst (v := (nI 3)) hx hb dL_law_668 (by decide) ?_
                                        refine lv_iadd hx hb dL_law_669 ?_
                                        obtain ⟨t189, h⟩ := zc_at h
                                        refine va_sld hx hb hX hbl hbA hS t189 dL_law_670 ?_
                                        obtain ⟨t190, h⟩ := zc_at h
                                        obtain ⟨st192, r193, c191, h⟩ := zb_at h
                                        refine z_cV hx hb hq hml hown hK hW hS 12 [.int ((xs ((x3 + (nI 1))).toNatClampNeg)), .int ((xs ((x3 + (nI 2))).toNatClampNeg)), .int ((xs ((x3 + (nI 3))).toNatClampNeg))] [.int r186] rfl (List.mem_singleton.mp t190) (c_X12_change l G N st x2 (xs ((x3 + (nI 1))).toNatClampNeg) (xs ((x3 + (nI 2))).toNatClampNeg) (xs ((x3 + (nI 3))).toNatClampNeg) c191) (zi zm800) (zi zm801) (zi zm802) (zi zm5) (zi zm803) cal_X12_change rfl rfl hl.1 rfl (Nat.le_of_ble_eq_true rfl) ⟨(Nat.le_of_ble_eq_true rfl), (Nat.le_of_ble_eq_true rfl)⟩ ⟨(by show _ ≤ 600000; omega), (by show _ ≤ 7302250; omega)⟩ dL_law_671 (fun H locs hW hS => ?_)
                                        refine W.eq (g2 := F0 m 674 ls [.int r193, .int r186]) rfl ?_
                                        refine z_br (lv_icmp_eq (tgt := 1208) hx hb dL_law_674 (by decide)) h (fun h => ?_) (fun h => ?_)
                                        · refine W.widen (k := 50 + 2 * (j + 1)) (n := 4000 + 105 * (j + 1)) (by omega) (by omega) ?_
                                          exact B1208 st192 x1 x2 x3 _ _ _ h hW hS (lv_sub hl [0, 1, 2, 3] rfl)
                                        · refine lv_iconst (v := (nI 0)) hx hb dL_law_677 (by decide) ?_
                                          exact absurd (Option.some.inj h) (by decide)
                                      · rcases zi_at h with ⟨k194, h⟩ | ⟨k194, h⟩
                                        · refine lv_tableIn (off := 646) (tgt := 679) hx hb dL_law_33 (by rw [k194]; decide) (by rw [k194]; decide) (by rw [k194]; rfl) (by decide) ?_
                                          refine lv_aload_n hx hb dL_law_679 rfl (lv_at hl 1 rfl) ?_
                                          refine lv_aload_n hx hb dL_law_680 rfl (lv_at hl 0 rfl) ?_
                                          refine lv_iload_n hx hb dL_law_681 rfl (lv_at hl 3 rfl) ?_
                                          refine lv_iconst (v := (nI 1)) hx hb dL_law_682 (by decide) ?_
                                          refine lv_iadd hx hb dL_law_683 ?_
                                          obtain ⟨t195, h⟩ := zc_at h
                                          refine va_sld hx hb hX hbl hbA hS t195 dL_law_684 ?_
                                          refine lv_aload_n hx hb dL_law_685 rfl (lv_at hl 0 rfl) ?_
                                          refine lv_iload_n hx hb dL_law_686 rfl (lv_at hl 3 rfl) ?_
                                          refine lv_iconst (v := (nI 2)) hx hb dL_law_687 (by decide) ?_
                                          refine lv_iadd hx hb dL_law_688 ?_
                                          obtain ⟨t196, h⟩ := zc_at h
                                          refine va_sld hx hb hX hbl hbA hS t196 dL_law_689 ?_
                                          refine lv_aload_n hx hb dL_law_690 rfl (lv_at hl 0 rfl) ?_
                                          refine lv_iload_n hx hb dL_law_691 rfl (lv_at hl 3 rfl) ?_
                                          refine lv_iconst (v := (nI 3)) hx hb dL_law_692 (by decide) ?_
                                          refine lv_iadd hx hb dL_law_693 ?_
                                          obtain ⟨t197, h⟩ := zc_at h
                                          refine va_sld hx hb hX hbl hbA hS t197 dL_law_694 ?_
                                          refine lv_aload_n hx hb dL_law_695 rfl (lv_at hl 0 rfl) ?_
                                          refine lv_iload_n hx hb dL_law_696 rfl (lv_at hl 3 rfl) ?_
                                          refine lv_iconst (v := (nI 4)) hx hb dL_law_697 (by decide) ?_
                                          refine lv_iadd hx hb dL_law_698 ?_
                                          obtain ⟨t198, h⟩ := zc_at h
                                          refine va_sld hx hb hX hbl hbA hS t198 dL_law_699 ?_
                                          obtain ⟨t199, h⟩ := zc_at h
                                          obtain ⟨r201, c200, h⟩ := zd_at h
                                          refine z_cV hx hb hq hml hown hK hW hS 11 [.int ((xs ((x3 + (nI 1))).toNatClampNeg)), .int ((xs ((x3 + (nI 2))).toNatClampNeg)), .int ((xs ((x3 + (nI 3))).toNatClampNeg)), .int ((xs ((x3 + (nI 4))).toNatClampNeg))] [] rfl (List.mem_singleton.mp t199) (c_X11_rests l G N st x1 (xs ((x3 + (nI 1))).toNatClampNeg) (xs ((x3 + (nI 2))).toNatClampNeg) (xs ((x3 + (nI 3))).toNatClampNeg) (xs ((x3 + (nI 4))).toNatClampNeg) c200) (zi zm812) (zi zm813) (zi zm814) (zi zm2) (zi zm815) cal_X11_rests rfl rfl hl.1 rfl (Nat.le_of_ble_eq_true rfl) ⟨(Nat.le_of_ble_eq_true rfl), (Nat.le_of_ble_eq_true rfl)⟩ ⟨(by show _ ≤ 600000; omega), (by show _ ≤ 7302250; omega)⟩ dL_law_700 (fun H locs hW hS => ?_)
                                          refine W.eq (g2 := F0 m 703 ls [.int r201]) rfl ?_
                                          refine lv_aload_n hx hb dL_law_703 rfl (lv_at hl 2 rfl) ?_
                                          refine lv_aload_n hx hb dL_law_704 rfl (lv_at hl 0 rfl) ?_
                                          refine lv_iload_n hx hb dL_law_705 rfl (lv_at hl 3 rfl) ?_
                                          refine lv_iconst (v := (nI 1)) hx hb dL_law_706 (by decide) ?_
                                          refine lv_iadd hx hb dL_law_707 ?_
                                          obtain ⟨t202, h⟩ := zc_at h
                                          refine va_sld hx hb hX hbl hbA hS t202 dL_law_708 ?_
                                          refine lv_aload_n hx hb dL_law_709 rfl (lv_at hl 0 rfl) ?_
                                          refine lv_iload_n hx hb dL_law_710 rfl (lv_at hl 3 rfl) ?_
                                          refine lv_iconst (v := (nI 2)) hx hb dL_law_711 (by decide) ?_
                                          refine lv_iadd hx hb dL_law_712 ?_
                                          obtain ⟨t203, h⟩ := zc_at h
                                          refine va_sld hx hb hX hbl hbA hS t203 dL_law_713 ?_
                                          refine lv_aload_n hx hb dL_law_714 rfl (lv_at hl 0 rfl) ?_
                                          refine lv_iload_n hx hb dL_law_715 rfl (lv_at hl 3 rfl) ?_
                                          refine lv_iconst (v := (nI 3)) hx hb dL_law_716 (by decide) ?_
                                          refine lv_iadd hx hb dL_law_717 ?_
                                          obtain ⟨t204, h⟩ := zc_at h
                                          refine va_sld hx hb hX hbl hbA hS t204 dL_law_718 ?_
                                          refine lv_aload_n hx hb dL_law_719 rfl (lv_at hl 0 rfl) ?_
                                          refine lv_iload_n hx hb dL_law_720 rfl (lv_at hl 3 rfl) ?_
                                          refine lv_iconst (v := (nI 4)) hx hb dL_law_721 (by decide) ?_
                                          refine lv_iadd hx hb dL_law_722 ?_
                                          obtain ⟨t205, h⟩ := zc_at h
                                          refine va_sld hx hb hX hbl hbA hS t205 dL_law_723 ?_
                                          obtain ⟨t206, h⟩ := zc_at h
                                          obtain ⟨r208, c207, h⟩ := zd_at h
                                          refine z_cV hx hb hq hml hown hK hW hS 12 [.int ((xs ((x3 + (nI 1))).toNatClampNeg)), .int ((xs ((x3 + (nI 2))).toNatClampNeg)), .int ((xs ((x3 + (nI 3))).toNatClampNeg)), .int ((xs ((x3 + (nI 4))).toNatClampNeg))] [.int r201] rfl (List.mem_singleton.mp t206) (c_X12_rests l G N st x2 (xs ((x3 + (nI 1))).toNatClampNeg) (xs ((x3 + (nI 2))).toNatClampNeg) (xs ((x3 + (nI 3))).toNatClampNeg) (xs ((x3 + (nI 4))).toNatClampNeg) c207) (zi zm820) (zi zm821) (zi zm822) (zi zm5) (zi zm823) cal_X12_rests rfl rfl hl.1 rfl (Nat.le_of_ble_eq_true rfl) ⟨(Nat.le_of_ble_eq_true rfl), (Nat.le_of_ble_eq_true rfl)⟩ ⟨(by show _ ≤ 600000; omega), (by show _ ≤ 7302250; omega)⟩ dL_law_724 (fun H locs hW hS => ?_)
                                          refine W.eq (g2 := F0 m 727 ls [.int r208, .int r201]) rfl ?_
                                          refine z_br (lv_icmp_eq (tgt := 1208) hx hb dL_law_727 (by decide)) h (fun h => ?_) (fun h => ?_)
                                          · refine W.widen (k := 50 + 2 * (j + 1)) (n := 4000 + 105 * (j + 1)) (by omega) (by omega) ?_
                                            exact B1208 st x1 x2 x3 _ _ _ h hW hS (lv_sub hl [0, 1, 2, 3] rfl)
                                          · refine lv_iconst (v := (nI 0)) hx hb dL_law_730 (by decide) ?_
                                            exact absurd (Option.some.inj h) (by decide)
                                        · rcases zi_at h with ⟨k209, h⟩ | ⟨k209, h⟩
                                          · refine lv_tableIn (off := 699) (tgt := 732) hx hb dL_law_33 (by rw [k209]; decide) (by rw [k209]; decide) (by rw [k209]; rfl) (by decide) ?_
                                            refine lv_aload_n hx hb dL_law_732 rfl (lv_at hl 1 rfl) ?_
                                            refine lv_aload_n hx hb dL_law_733 rfl (lv_at hl 0 rfl) ?_
                                            refine lv_iload_n hx hb dL_law_734 rfl (lv_at hl 3 rfl) ?_
                                            refine lv_iconst (v := (nI 1)) hx hb dL_law_735 (by decide) ?_
                                            refine lv_iadd hx hb dL_law_736 ?_
                                            obtain ⟨t210, h⟩ := zc_at h
                                            refine va_sld hx hb hX hbl hbA hS t210 dL_law_737 ?_
                                            obtain ⟨t211, h⟩ := zc_at h
                                            obtain ⟨r213, c212, h⟩ := zd_at h
                                            refine z_cV hx hb hq hml hown hK hW hS 11 [.int ((xs ((x3 + (nI 1))).toNatClampNeg))] [] rfl (List.mem_singleton.mp t211) (c_X11_mend l G N st x1 (xs ((x3 + (nI 1))).toNatClampNeg) c212) (zi zm825) (zi zm826) (zi zm827) (zi zm2) (zi zm828) cal_X11_mend rfl rfl hl.1 rfl (Nat.le_of_ble_eq_true rfl) ⟨(Nat.le_of_ble_eq_true rfl), (Nat.le_of_ble_eq_true rfl)⟩ ⟨(by show _ ≤ 600000; omega), (by show _ ≤ 7302250; omega)⟩ dL_law_738 (fun H locs hW hS => ?_)
                                            refine W.eq (g2 := F0 m 741 ls [.int r213]) rfl ?_
                                            refine lv_aload_n hx hb dL_law_741 rfl (lv_at hl 2 rfl) ?_
                                            refine lv_aload_n hx hb dL_law_742 rfl (lv_at hl 0 rfl) ?_
                                            refine lv_iload_n hx hb dL_law_743 rfl (lv_at hl 3 rfl) ?_
                                            refine lv_iconst (v := (nI 1)) hx hb dL_law_744 (by decide) ?_
                                            refine lv_iadd hx hb dL_law_745 ?_
                                            obtain ⟨t214, h⟩ := zc_at h
                                            refine va_sld hx hb hX hbl hbA hS t214 dL_law_746 ?_
                                            obtain ⟨t215, h⟩ := zc_at h
                                            obtain ⟨st217, r218, c216, h⟩ := zb_at h
                                            refine z_cV hx hb hq hml hown hK hW hS 12 [.int ((xs ((x3 + (nI 1))).toNatClampNeg))] [.int r213] rfl (List.mem_singleton.mp t215) (c_X12_mend l G N st x2 (xs ((x3 + (nI 1))).toNatClampNeg) c216) (zi zm830) (zi zm831) (zi zm832) (zi zm5) (zi zm833) cal_X12_mend rfl rfl hl.1 rfl (Nat.le_of_ble_eq_true rfl) ⟨(Nat.le_of_ble_eq_true rfl), (Nat.le_of_ble_eq_true rfl)⟩ ⟨(by show _ ≤ 600000; omega), (by show _ ≤ 7302250; omega)⟩ dL_law_747 (fun H locs hW hS => ?_)
                                            refine W.eq (g2 := F0 m 750 ls [.int r218, .int r213]) rfl ?_
                                            refine z_br (lv_icmp_eq (tgt := 1208) hx hb dL_law_750 (by decide)) h (fun h => ?_) (fun h => ?_)
                                            · refine W.widen (k := 50 + 2 * (j + 1)) (n := 4000 + 105 * (j + 1)) (by omega) (by omega) ?_
                                              exact B1208 st217 x1 x2 x3 _ _ _ h hW hS (lv_sub hl [0, 1, 2, 3] rfl)
                                            · refine lv_iconst (v := (nI 0)) hx hb dL_law_753 (by decide) ?_
                                              exact absurd (Option.some.inj h) (by decide)
                                          · rcases zi_at h with ⟨k219, h⟩ | ⟨k219, h⟩
                                            · refine lv_tableIn (off := 722) (tgt := 755) hx hb dL_law_33 (by rw [k219]; decide) (by rw [k219]; decide) (by rw [k219]; rfl) (by decide) ?_
                                              refine lv_aload_n hx hb dL_law_755 rfl (lv_at hl 1 rfl) ?_
                                              refine lv_aload_n hx hb dL_law_756 rfl (lv_at hl 0 rfl) ?_
                                              refine lv_iload_n hx hb dL_law_757 rfl (lv_at hl 3 rfl) ?_
                                              refine lv_iconst (v := (nI 1)) hx hb dL_law_758 (by decide) ?_
                                              refine lv_iadd hx hb dL_law_759 ?_
                                              obtain ⟨t220, h⟩ := zc_at h
                                              refine va_sld hx hb hX hbl hbA hS t220 dL_law_760 ?_
                                              obtain ⟨t221, h⟩ := zc_at h
                                              obtain ⟨r223, c222, h⟩ := zd_at h
                                              refine z_cV hx hb hq hml hown hK hW hS 11 [.int ((xs ((x3 + (nI 1))).toNatClampNeg))] [] rfl (List.mem_singleton.mp t221) (c_X11_where l G N st x1 (xs ((x3 + (nI 1))).toNatClampNeg) c222) (zi zm834) (zi zm835) (zi zm836) (zi zm2) (zi zm837) cal_X11_where rfl rfl hl.1 rfl (Nat.le_of_ble_eq_true rfl) ⟨(Nat.le_of_ble_eq_true rfl), (Nat.le_of_ble_eq_true rfl)⟩ ⟨(by show _ ≤ 600000; omega), (by show _ ≤ 7302250; omega)⟩ dL_law_761 (fun H locs hW hS => ?_)
                                              refine W.eq (g2 := F0 m 764 ls [.int r223]) rfl ?_
                                              refine lv_aload_n hx hb dL_law_764 rfl (lv_at hl 2 rfl) ?_
                                              refine lv_aload_n hx hb dL_law_765 rfl (lv_at hl 0 rfl) ?_
                                              refine lv_iload_n hx hb dL_law_766 rfl (lv_at hl 3 rfl) ?_
                                              refine lv_iconst (v := (nI 1)) hx hb dL_law_767 (by decide) ?_
                                              refine lv_iadd hx hb dL_law_768 ?_
                                              obtain ⟨t224, h⟩ := zc_at h
                                              refine va_sld hx hb hX hbl hbA hS t224 dL_law_769 ?_
                                              obtain ⟨t225, h⟩ := zc_at h
                                              obtain ⟨st227, r228, c226, h⟩ := zb_at h
                                              refine z_cV hx hb hq hml hown hK hW hS 12 [.int ((xs ((x3 + (nI 1))).toNatClampNeg))] [.int r223] rfl (List.mem_singleton.mp t225) (c_X12_where l G N st x2 (xs ((x3 + (nI 1))).toNatClampNeg) c226) (zi zm842) (zi zm843) (zi zm844) (zi zm5) (zi zm845) cal_X12_where rfl rfl hl.1 rfl (Nat.le_of_ble_eq_true rfl) ⟨(Nat.le_of_ble_eq_true rfl), (Nat.le_of_ble_eq_true rfl)⟩ ⟨(by show _ ≤ 600000; omega), (by show _ ≤ 7302250; omega)⟩ dL_law_770 (fun H locs hW hS => ?_)
                                              refine W.eq (g2 := F0 m 773 ls [.int r228, .int r223]) rfl ?_
                                              refine z_br (lv_icmp_eq (tgt := 1208) hx hb dL_law_773 (by decide)) h (fun h => ?_) (fun h => ?_)
                                              · refine W.widen (k := 50 + 2 * (j + 1)) (n := 4000 + 105 * (j + 1)) (by omega) (by omega) ?_
                                                exact B1208 st227 x1 x2 x3 _ _ _ h hW hS (lv_sub hl [0, 1, 2, 3] rfl)
                                              · refine lv_iconst (v := (nI 0)) hx hb dL_law_776 (by decide) ?_
                                                exact absurd (Option.some.inj h) (by decide)
                                            · rcases zi_at h with ⟨k229, h⟩ | ⟨k229, h⟩
                                              · refine lv_tableIn (off := 745) (tgt := 778) hx hb dL_law_33 (by rw [k229]; decide) (by rw [k229]; decide) (by rw [k229]; rfl) (by decide) ?_
                                                refine lv_aload_n hx hb dL_law_778 rfl (lv_at hl 1 rfl) ?_
                                                obtain ⟨t230, h⟩ := zc_at h
                                                obtain ⟨r232, c231, h⟩ := zd_at h
                                                refine z_cV hx hb hq hml hown hK hW hS 11 [] [] rfl (List.mem_singleton.mp t230) (c_X11_left l G N st x1 c231) (zi zm846) (zi zm847) (zi zm848) (zi zm2) (zi zm849) cal_X11_left rfl rfl hl.1 rfl (Nat.le_of_ble_eq_true rfl) ⟨(Nat.le_of_ble_eq_true rfl), (Nat.le_of_ble_eq_true rfl)⟩ ⟨(by show _ ≤ 600000; omega), (by show _ ≤ 7302250; omega)⟩ dL_law_779 (fun H locs hW hS => ?_)
                                                refine W.eq (g2 := F0 m 782 ls [.int r232]) rfl ?_
                                                refine lv_aload_n hx hb dL_law_782 rfl (lv_at hl 2 rfl) ?_
                                                obtain ⟨t233, h⟩ := zc_at h
                                                obtain ⟨st235, r236, c234, h⟩ := zb_at h
                                                refine z_cV hx hb hq hml hown hK hW hS 12 [] [.int r232] rfl (List.mem_singleton.mp t233) (c_X12_left l G N st x2 c234) (zi zm850) (zi zm851) (zi zm852) (zi zm5) (zi zm853) cal_X12_left rfl rfl hl.1 rfl (Nat.le_of_ble_eq_true rfl) ⟨(Nat.le_of_ble_eq_true rfl), (Nat.le_of_ble_eq_true rfl)⟩ ⟨(by show _ ≤ 600000; omega), (by show _ ≤ 7302250; omega)⟩ dL_law_783 (fun H locs hW hS => ?_)
                                                refine W.eq (g2 := F0 m 786 ls [.int r236, .int r232]) rfl ?_
                                                refine z_br (lv_icmp_eq (tgt := 1208) hx hb dL_law_786 (by decide)) h (fun h => ?_) (fun h => ?_)
                                                · refine W.widen (k := 50 + 2 * (j + 1)) (n := 4000 + 105 * (j + 1)) (by omega) (by omega) ?_
                                                  exact B1208 st235 x1 x2 x3 _ _ _ h hW hS (lv_sub hl [0, 1, 2, 3] rfl)
                                                · refine lv_iconst (v := (nI 0)) hx hb dL_law_789 (by decide) ?_
                                                  exact absurd (Option.some.inj h) (by decide)
                                              · rcases zi_at h with ⟨k237, h⟩ | ⟨k237, h⟩
                                                · refine lv_tableIn (off := 758) (tgt := 791) hx hb dL_law_33 (by rw [k237]; decide) (by rw [k237]; decide) (by rw [k237]; rfl) (by decide) ?_
                                                  refine lv_aload_n hx hb dL_law_791 rfl (lv_at hl 1 rfl) ?_
                                                  refine lv_aload_n hx hb dL_law_792 rfl (lv_at hl 0 rfl) ?_
                                                  refine lv_iload_n hx hb dL_law_793 rfl (lv_at hl 3 rfl) ?_
                                                  refine lv_iconst (v := (nI 1)) hx hb dL_law_794 (by decide) ?_
                                                  refine lv_iadd hx hb dL_law_795 ?_
                                                  obtain ⟨t238, h⟩ := zc_at h
                                                  refine va_sld hx hb hX hbl hbA hS t238 dL_law_796 ?_
                                                  obtain ⟨t239, h⟩ := zc_at h
                                                  obtain ⟨r241, c240, h⟩ := zd_at h
                                                  refine z_cV hx hb hq hml hown hK hW hS 11 [.int ((xs ((x3 + (nI 1))).toNatClampNeg))] [] rfl (List.mem_singleton.mp t239) (c_X11_longest l G N st x1 (xs ((x3 + (nI 1))).toNatClampNeg) c240) (zi zm854) (zi zm855) (zi zm856) (zi zm2) (zi zm857) cal_X11_longest rfl rfl hl.1 rfl (Nat.le_of_ble_eq_true rfl) ⟨(Nat.le_of_ble_eq_true rfl), (Nat.le_of_ble_eq_true rfl)⟩ ⟨(by show _ ≤ 600000; omega), (by show _ ≤ 7302250; omega)⟩ dL_law_797 (fun H locs hW hS => ?_)
                                                  refine W.eq (g2 := F0 m 800 ls [.int r241]) rfl ?_
                                                  refine lv_aload_n hx hb dL_law_800 rfl (lv_at hl 2 rfl) ?_
                                                  refine lv_aload_n hx hb dL_law_801 rfl (lv_at hl 0 rfl) ?_
                                                  refine lv_iload_n hx hb dL_law_802 rfl (lv_at hl 3 rfl) ?_
                                                  refine lv_iconst (v := (nI 1)) hx hb dL_law_803 (by decide) ?_
                                                  refine lv_iadd hx hb dL_law_804 ?_
                                                  obtain ⟨t242, h⟩ := zc_at h
                                                  refine va_sld hx hb hX hbl hbA hS t242 dL_law_805 ?_
                                                  obtain ⟨t243, h⟩ := zc_at h
                                                  obtain ⟨r245, c244, h⟩ := zd_at h
                                                  refine z_cV hx hb hq hml hown hK hW hS 12 [.int ((xs ((x3 + (nI 1))).toNatClampNeg))] [.int r241] rfl (List.mem_singleton.mp t243) (c_X12_longest l G N st x2 (xs ((x3 + (nI 1))).toNatClampNeg) c244) (zi zm858) (zi zm859) (zi zm860) (zi zm5) (zi zm861) cal_X12_longest rfl rfl hl.1 rfl (Nat.le_of_ble_eq_true rfl) ⟨(Nat.le_of_ble_eq_true rfl), (Nat.le_of_ble_eq_true rfl)⟩ ⟨(by show _ ≤ 600000; omega), (by show _ ≤ 7302250; omega)⟩ dL_law_806 (fun H locs hW hS => ?_)
                                                  refine W.eq (g2 := F0 m 809 ls [.int r245, .int r241]) rfl ?_
                                                  refine z_br (lv_icmp_eq (tgt := 1208) hx hb dL_law_809 (by decide)) h (fun h => ?_) (fun h => ?_)
                                                  · refine W.widen (k := 50 + 2 * (j + 1)) (n := 4000 + 105 * (j + 1)) (by omega) (by omega) ?_
                                                    exact B1208 st x1 x2 x3 _ _ _ h hW hS (lv_sub hl [0, 1, 2, 3] rfl)
                                                  · refine lv_iconst (v := (nI 0)) hx hb dL_law_812 (by decide) ?_
                                                    exact absurd (Option.some.inj h) (by decide)
                                                · rcases zi_at h with ⟨k246, h⟩ | ⟨k246, h⟩
                                                  · refine lv_tableIn (off := 781) (tgt := 814) hx hb dL_law_33 (by rw [k246]; decide) (by rw [k246]; decide) (by rw [k246]; rfl) (by decide) ?_
                                                    refine lv_aload_n hx hb dL_law_814 rfl (lv_at hl 1 rfl) ?_
                                                    refine lv_aload_n hx hb dL_law_815 rfl (lv_at hl 0 rfl) ?_
                                                    refine lv_iload_n hx hb dL_law_816 rfl (lv_at hl 3 rfl) ?_
                                                    refine lv_iconst (v := (nI 1)) hx hb dL_law_817 (by decide) ?_
                                                    refine lv_iadd hx hb dL_law_818 ?_
                                                    obtain ⟨t247, h⟩ := zc_at h
                                                    refine va_sld hx hb hX hbl hbA hS t247 dL_law_819 ?_
                                                    obtain ⟨t248, h⟩ := zc_at h
                                                    obtain ⟨st250, r251, c249, h⟩ := zb_at h
                                                    refine z_cV hx hb hq hml hown hK hW hS 11 [.int ((xs ((x3 + (nI 1))).toNatClampNeg))] [] rfl (List.mem_singleton.mp t248) (c_X11_show l G st x1 (xs ((x3 + (nI 1))).toNatClampNeg) c249) (zi zm862) (zi zm863) (zi zm864) (zi zm2) (zi zm865) cal_X11_show rfl rfl hl.1 rfl (Nat.le_of_ble_eq_true rfl) ⟨(Nat.le_of_ble_eq_true rfl), (Nat.le_of_ble_eq_true rfl)⟩ ⟨(by show _ ≤ 600000; omega), (by show _ ≤ 7302250; omega)⟩ dL_law_820 (fun H locs hW hS => ?_)
                                                    refine W.eq (g2 := F0 m 823 ls [.int r251]) rfl ?_
                                                    refine lv_aload_n hx hb dL_law_823 rfl (lv_at hl 2 rfl) ?_
                                                    refine lv_aload_n hx hb dL_law_824 rfl (lv_at hl 0 rfl) ?_
                                                    refine lv_iload_n hx hb dL_law_825 rfl (lv_at hl 3 rfl) ?_
                                                    refine lv_iconst (v := (nI 1)) hx hb dL_law_826 (by decide) ?_
                                                    refine lv_iadd hx hb dL_law_827 ?_
                                                    obtain ⟨t252, h⟩ := zc_at h
                                                    refine va_sld hx hb hX hbl hbA hS t252 dL_law_828 ?_
                                                    obtain ⟨t253, h⟩ := zc_at h
                                                    obtain ⟨st255, r256, c254, h⟩ := zb_at h
                                                    refine z_cV hx hb hq hml hown hK hW hS 12 [.int ((xs ((x3 + (nI 1))).toNatClampNeg))] [.int r251] rfl (List.mem_singleton.mp t253) (c_X12_show l G st250 x2 (xs ((x3 + (nI 1))).toNatClampNeg) c254) (zi zm866) (zi zm867) (zi zm868) (zi zm5) (zi zm869) cal_X12_show rfl rfl hl.1 rfl (Nat.le_of_ble_eq_true rfl) ⟨(Nat.le_of_ble_eq_true rfl), (Nat.le_of_ble_eq_true rfl)⟩ ⟨(by show _ ≤ 600000; omega), (by show _ ≤ 7302250; omega)⟩ dL_law_829 (fun H locs hW hS => ?_)
                                                    refine W.eq (g2 := F0 m 832 ls [.int r256, .int r251]) rfl ?_
                                                    refine z_br (lv_icmp_eq (tgt := 1208) hx hb dL_law_832 (by decide)) h (fun h => ?_) (fun h => ?_)
                                                    · refine W.widen (k := 50 + 2 * (j + 1)) (n := 4000 + 105 * (j + 1)) (by omega) (by omega) ?_
                                                      exact B1208 st255 x1 x2 x3 _ _ _ h hW hS (lv_sub hl [0, 1, 2, 3] rfl)
                                                    · refine lv_iconst (v := (nI 0)) hx hb dL_law_835 (by decide) ?_
                                                      exact absurd (Option.some.inj h) (by decide)
                                                  · rcases zi_at h with ⟨k257, h⟩ | ⟨k257, h⟩
                                                    · refine lv_tableIn (off := 804) (tgt := 837) hx hb dL_law_33 (by rw [k257]; decide) (by rw [k257]; decide) (by rw [k257]; rfl) (by decide) ?_
                                                      refine lv_aload_n hx hb dL_law_837 rfl (lv_at hl 1 rfl) ?_
                                                      obtain ⟨t258, h⟩ := zc_at h
                                                      obtain ⟨r260, c259, h⟩ := zd_at h
                                                      refine z_cV hx hb hq hml hown hK hW hS 11 [] [] rfl (List.mem_singleton.mp t258) (c_X11_whose l G N st x1 c259) (zi zm870) (zi zm871) (zi zm872) (zi zm2) (zi zm873) cal_X11_whose rfl rfl hl.1 rfl (Nat.le_of_ble_eq_true rfl) ⟨(Nat.le_of_ble_eq_true rfl), (Nat.le_of_ble_eq_true rfl)⟩ ⟨(by show _ ≤ 600000; omega), (by show _ ≤ 7302250; omega)⟩ dL_law_838 (fun H locs hW hS => ?_)
                                                      refine W.eq (g2 := F0 m 841 ls [.int r260]) rfl ?_
                                                      refine lv_aload_n hx hb dL_law_841 rfl (lv_at hl 2 rfl) ?_
                                                      obtain ⟨t261, h⟩ := zc_at h
                                                      obtain ⟨st263, r264, c262, h⟩ := zb_at h
                                                      refine z_cV hx hb hq hml hown hK hW hS 12 [] [.int r260] rfl (List.mem_singleton.mp t261) (c_X12_whose l G N st x2 c262) (zi zm879) (zi zm880) (zi zm881) (zi zm5) (zi zm882) cal_X12_whose rfl rfl hl.1 rfl (Nat.le_of_ble_eq_true rfl) ⟨(Nat.le_of_ble_eq_true rfl), (Nat.le_of_ble_eq_true rfl)⟩ ⟨(by show _ ≤ 600000; omega), (by show _ ≤ 7302250; omega)⟩ dL_law_842 (fun H locs hW hS => ?_)
                                                      refine W.eq (g2 := F0 m 845 ls [.int r264, .int r260]) rfl ?_
                                                      refine z_br (lv_icmp_eq (tgt := 1208) hx hb dL_law_845 (by decide)) h (fun h => ?_) (fun h => ?_)
                                                      · refine W.widen (k := 50 + 2 * (j + 1)) (n := 4000 + 105 * (j + 1)) (by omega) (by omega) ?_
                                                        exact B1208 st263 x1 x2 x3 _ _ _ h hW hS (lv_sub hl [0, 1, 2, 3] rfl)
                                                      · refine lv_iconst (v := (nI 0)) hx hb dL_law_848 (by decide) ?_
                                                        exact absurd (Option.some.inj h) (by decide)
                                                    · rcases zi_at h with ⟨k265, h⟩ | ⟨k265, h⟩
                                                      · refine lv_tableIn (off := 817) (tgt := 850) hx hb dL_law_33 (by rw [k265]; decide) (by rw [k265]; decide) (by rw [k265]; rfl) (by decide) ?_
                                                        refine lv_aload_n hx hb dL_law_850 rfl (lv_at hl 1 rfl) ?_
                                                        refine lv_aload_n hx hb dL_law_851 rfl (lv_at hl 0 rfl) ?_
                                                        refine lv_iload_n hx hb dL_law_852 rfl (lv_at hl 3 rfl) ?_
                                                        refine lv_iconst (v := (nI 1)) hx hb dL_law_853 (by decide) ?_
                                                        refine lv_iadd hx hb dL_law_854 ?_
                                                        obtain ⟨t266, h⟩ := zc_at h
                                                        refine va_sld hx hb hX hbl hbA hS t266 dL_law_855 ?_
                                                        obtain ⟨t267, h⟩ := zc_at h
                                                        obtain ⟨st269, r270, c268, h⟩ := zb_at h
                                                        refine z_cV hx hb hq hml hown hK hW hS 11 [.int ((xs ((x3 + (nI 1))).toNatClampNeg))] [] rfl (List.mem_singleton.mp t267) (c_X11_wanted l G st x1 (xs ((x3 + (nI 1))).toNatClampNeg) c268) (zi zm887) (zi zm888) (zi zm889) (zi zm2) (zi zm890) cal_X11_wanted rfl rfl hl.1 rfl (Nat.le_of_ble_eq_true rfl) ⟨(Nat.le_of_ble_eq_true rfl), (Nat.le_of_ble_eq_true rfl)⟩ ⟨(by show _ ≤ 600000; omega), (by show _ ≤ 7302250; omega)⟩ dL_law_856 (fun H locs hW hS => ?_)
                                                        refine W.eq (g2 := F0 m 859 ls [.int r270]) rfl ?_
                                                        refine lv_aload_n hx hb dL_law_859 rfl (lv_at hl 2 rfl) ?_
                                                        refine lv_aload_n hx hb dL_law_860 rfl (lv_at hl 0 rfl) ?_
                                                        refine lv_iload_n hx hb dL_law_861 rfl (lv_at hl 3 rfl) ?_
                                                        refine lv_iconst (v := (nI 1)) hx hb dL_law_862 (by decide) ?_
                                                        refine lv_iadd hx hb dL_law_863 ?_
                                                        obtain ⟨t271, h⟩ := zc_at h
                                                        refine va_sld hx hb hX hbl hbA hS t271 dL_law_864 ?_
                                                        obtain ⟨t272, h⟩ := zc_at h
                                                        obtain ⟨st274, r275, c273, h⟩ := zb_at h
                                                        refine z_cV hx hb hq hml hown hK hW hS 12 [.int ((xs ((x3 + (nI 1))).toNatClampNeg))] [.int r270] rfl (List.mem_singleton.mp t272) (c_X12_wanted l G st269 x2 (xs ((x3 + (nI 1))).toNatClampNeg) c273) (zi zm892) (zi zm893) (zi zm894) (zi zm5) (zi zm895) cal_X12_wanted rfl rfl hl.1 rfl (Nat.le_of_ble_eq_true rfl) ⟨(Nat.le_of_ble_eq_true rfl), (Nat.le_of_ble_eq_true rfl)⟩ ⟨(by show _ ≤ 600000; omega), (by show _ ≤ 7302250; omega)⟩ dL_law_865 (fun H locs hW hS => ?_)
                                                        refine W.eq (g2 := F0 m 868 ls [.int r275, .int r270]) rfl ?_
                                                        refine z_br (lv_icmp_eq (tgt := 1208) hx hb dL_law_868 (by decide)) h (fun h => ?_) (fun h => ?_)
                                                        · refine W.widen (k := 50 + 2 * (j + 1)) (n := 4000 + 105 * (j + 1)) (by omega) (by omega) ?_
                                                          exact B1208 st274 x1 x2 x3 _ _ _ h hW hS (lv_sub hl [0, 1, 2, 3] rfl)
                                                        · refine lv_iconst (v := (nI 0)) hx hb dL_law_871 (by decide) ?_
                                                          exact absurd (Option.some.inj h) (by decide)
                                                      · rcases zi_at h with ⟨k276, h⟩ | ⟨k276, h⟩
                                                        · refine lv_tableIn (off := 840) (tgt := 873) hx hb dL_law_33 (by rw [k276]; decide) (by rw [k276]; decide) (by rw [k276]; rfl) (by decide) ?_
                                                          refine lv_aload_n hx hb dL_law_873 rfl (lv_at hl 1 rfl) ?_
                                                          refine lv_aload_n hx hb dL_law_874 rfl (lv_at hl 0 rfl) ?_
                                                          refine lv_iload_n hx hb dL_law_875 rfl (lv_at hl 3 rfl) ?_
                                                          refine lv_iconst (v := (nI 1)) hx hb dL_law_876 (by decide) ?_
                                                          refine lv_iadd hx hb dL_law_877 ?_
                                                          obtain ⟨t277, h⟩ := zc_at h
                                                          refine va_sld hx hb hX hbl hbA hS t277 dL_law_878 ?_
                                                          refine lv_aload_n hx hb dL_law_879 rfl (lv_at hl 0 rfl) ?_
                                                          refine lv_iload_n hx hb dL_law_880 rfl (lv_at hl 3 rfl) ?_
                                                          refine lv_iconst (v := (nI 2)) hx hb dL_law_881 (by decide) ?_
                                                          refine lv_iadd hx hb dL_law_882 ?_
                                                          obtain ⟨t278, h⟩ := zc_at h
                                                          refine va_sld hx hb hX hbl hbA hS t278 dL_law_883 ?_
                                                          obtain ⟨t279, h⟩ := zc_at h
                                                          obtain ⟨r281, c280, h⟩ := zd_at h
                                                          refine z_cV hx hb hq hml hown hK hW hS 11 [.int ((xs ((x3 + (nI 1))).toNatClampNeg)), .int ((xs ((x3 + (nI 2))).toNatClampNeg))] [] rfl (List.mem_singleton.mp t279) (c_X11_stock l G N st x1 (xs ((x3 + (nI 1))).toNatClampNeg) (xs ((x3 + (nI 2))).toNatClampNeg) c280) (zi zm896) (zi zm897) (zi zm898) (zi zm2) (zi zm899) cal_X11_stock rfl rfl hl.1 rfl (Nat.le_of_ble_eq_true rfl) ⟨(Nat.le_of_ble_eq_true rfl), (Nat.le_of_ble_eq_true rfl)⟩ ⟨(by show _ ≤ 600000; omega), (by show _ ≤ 7302250; omega)⟩ dL_law_884 (fun H locs hW hS => ?_)
                                                          refine W.eq (g2 := F0 m 887 ls [.int r281]) rfl ?_
                                                          refine lv_aload_n hx hb dL_law_887 rfl (lv_at hl 2 rfl) ?_
                                                          refine lv_aload_n hx hb dL_law_888 rfl (lv_at hl 0 rfl) ?_
                                                          refine lv_iload_n hx hb dL_law_889 rfl (lv_at hl 3 rfl) ?_
                                                          refine lv_iconst (v := (nI 1)) hx hb dL_law_890 (by decide) ?_
                                                          refine lv_iadd hx hb dL_law_891 ?_
                                                          obtain ⟨t282, h⟩ := zc_at h
                                                          refine va_sld hx hb hX hbl hbA hS t282 dL_law_892 ?_
                                                          refine lv_aload_n hx hb dL_law_893 rfl (lv_at hl 0 rfl) ?_
                                                          refine lv_iload_n hx hb dL_law_894 rfl (lv_at hl 3 rfl) ?_
                                                          refine lv_iconst (v := (nI 2)) hx hb dL_law_895 (by decide) ?_
                                                          refine lv_iadd hx hb dL_law_896 ?_
                                                          obtain ⟨t283, h⟩ := zc_at h
                                                          refine va_sld hx hb hX hbl hbA hS t283 dL_law_897 ?_
                                                          obtain ⟨t284, h⟩ := zc_at h
                                                          obtain ⟨st286, r287, c285, h⟩ := zb_at h
                                                          refine z_cV hx hb hq hml hown hK hW hS 12 [.int ((xs ((x3 + (nI 1))).toNatClampNeg)), .int ((xs ((x3 + (nI 2))).toNatClampNeg))] [.int r281] rfl (List.mem_singleton.mp t284) (c_X12_stock l G N st x2 (xs ((x3 + (nI 1))).toNatClampNeg) (xs ((x3 + (nI 2))).toNatClampNeg) c285) (zi zm911) (zi zm912) (zi zm913) (zi zm5) (zi zm914) cal_X12_stock rfl rfl hl.1 rfl (Nat.le_of_ble_eq_true rfl) ⟨(Nat.le_of_ble_eq_true rfl), (Nat.le_of_ble_eq_true rfl)⟩ ⟨(by show _ ≤ 600000; omega), (by show _ ≤ 7302250; omega)⟩ dL_law_898 (fun H locs hW hS => ?_)
                                                          refine W.eq (g2 := F0 m 901 ls [.int r287, .int r281]) rfl ?_
                                                          refine z_br (lv_icmp_eq (tgt := 1208) hx hb dL_law_901 (by decide)) h (fun h => ?_) (fun h => ?_)
                                                          · refine W.widen (k := 50 + 2 * (j + 1)) (n := 4000 + 105 * (j + 1)) (by omega) (by omega) ?_
                                                            exact B1208 st286 x1 x2 x3 _ _ _ h hW hS (lv_sub hl [0, 1, 2, 3] rfl)
                                                          · refine lv_iconst (v := (nI 0)) hx hb dL_law_904 (by decide) ?_
                                                            exact absurd (Option.some.inj h) (by decide)
                                                        · rcases zi_at h with ⟨k288, h⟩ | ⟨k288, h⟩
                                                          · refine lv_tableIn (off := 873) (tgt := 906) hx hb dL_law_33 (by rw [k288]; decide) (by rw [k288]; decide) (by rw [k288]; rfl) (by decide) ?_
                                                            refine lv_aload_n hx hb dL_law_906 rfl (lv_at hl 1 rfl) ?_
                                                            refine lv_aload_n hx hb dL_law_907 rfl (lv_at hl 0 rfl) ?_
                                                            refine lv_iload_n hx hb dL_law_908 rfl (lv_at hl 3 rfl) ?_
                                                            refine lv_iconst (v := (nI 1)) hx hb dL_law_909 (by decide) ?_
                                                            refine lv_iadd hx hb dL_law_910 ?_
                                                            obtain ⟨t289, h⟩ := zc_at h
                                                            refine va_sld hx hb hX hbl hbA hS t289 dL_law_911 ?_
                                                            refine lv_aload_n hx hb dL_law_912 rfl (lv_at hl 0 rfl) ?_
                                                            refine lv_iload_n hx hb dL_law_913 rfl (lv_at hl 3 rfl) ?_
                                                            refine lv_iconst (v := (nI 2)) hx hb dL_law_914 (by decide) ?_
                                                            refine lv_iadd hx hb dL_law_915 ?_
                                                            obtain ⟨t290, h⟩ := zc_at h
                                                            refine va_sld hx hb hX hbl hbA hS t290 dL_law_916 ?_
                                                            refine lv_aload_n hx hb dL_law_917 rfl (lv_at hl 0 rfl) ?_
                                                            refine lv_iload_n hx hb dL_law_918 rfl (lv_at hl 3 rfl) ?_
                                                            refine lv_iconst (v := (nI 3)) hx hb dL_law_919 (by decide) ?_
                                                            refine lv_iadd hx hb dL_law_920 ?_
                                                            obtain ⟨t291, h⟩ := zc_at h
                                                            refine va_sld hx hb hX hbl hbA hS t291 dL_law_921 ?_
                                                            obtain ⟨t292, h⟩ := zc_at h
                                                            obtain ⟨r294, c293, h⟩ := zd_at h
                                                            refine z_cV hx hb hq hml hown hK hW hS 11 [.int ((xs ((x3 + (nI 1))).toNatClampNeg)), .int ((xs ((x3 + (nI 2))).toNatClampNeg)), .int ((xs ((x3 + (nI 3))).toNatClampNeg))] [] rfl (List.mem_singleton.mp t292) (c_X11_mean l G N st x1 (xs ((x3 + (nI 1))).toNatClampNeg) (xs ((x3 + (nI 2))).toNatClampNeg) (xs ((x3 + (nI 3))).toNatClampNeg) c293) (zi zm920) (zi zm921) (zi zm922) (zi zm2) (zi zm923) cal_X11_mean rfl rfl hl.1 rfl (Nat.le_of_ble_eq_true rfl) ⟨(Nat.le_of_ble_eq_true rfl), (Nat.le_of_ble_eq_true rfl)⟩ ⟨(by show _ ≤ 600000; omega), (by show _ ≤ 7302250; omega)⟩ dL_law_922 (fun H locs hW hS => ?_)
                                                            refine W.eq (g2 := F0 m 925 ls [.long (r294)]) rfl ?_
                                                            refine lv_aload_n hx hb dL_law_925 rfl (lv_at hl 2 rfl) ?_
                                                            refine lv_aload_n hx hb dL_law_926 rfl (lv_at hl 0 rfl) ?_
                                                            refine lv_iload_n hx hb dL_law_927 rfl (lv_at hl 3 rfl) ?_
                                                            refine lv_iconst (v := (nI 1)) hx hb dL_law_928 (by decide) ?_
                                                            refine lv_iadd hx hb dL_law_929 ?_
                                                            obtain ⟨t295, h⟩ := zc_at h
                                                            refine va_sld hx hb hX hbl hbA hS t295 dL_law_930 ?_
                                                            refine lv_aload_n hx hb dL_law_931 rfl (lv_at hl 0 rfl) ?_
                                                            refine lv_iload_n hx hb dL_law_932 rfl (lv_at hl 3 rfl) ?_
                                                            refine lv_iconst (v := (nI 2)) hx hb dL_law_933 (by decide) ?_
                                                            refine lv_iadd hx hb dL_law_934 ?_
                                                            obtain ⟨t296, h⟩ := zc_at h
                                                            refine va_sld hx hb hX hbl hbA hS t296 dL_law_935 ?_
                                                            refine lv_aload_n hx hb dL_law_936 rfl (lv_at hl 0 rfl) ?_
                                                            refine lv_iload_n hx hb dL_law_937 rfl (lv_at hl 3 rfl) ?_
                                                            refine lv_iconst (v := (nI 3)) hx hb dL_law_938 (by decide) ?_
                                                            refine lv_iadd hx hb dL_law_939 ?_
                                                            obtain ⟨t297, h⟩ := zc_at h
                                                            refine va_sld hx hb hX hbl hbA hS t297 dL_law_940 ?_
                                                            obtain ⟨t298, h⟩ := zc_at h
                                                            obtain ⟨st300, r301, c299, h⟩ := zb_at h
                                                            refine z_cV hx hb hq hml hown hK hW hS 12 [.int ((xs ((x3 + (nI 1))).toNatClampNeg)), .int ((xs ((x3 + (nI 2))).toNatClampNeg)), .int ((xs ((x3 + (nI 3))).toNatClampNeg))] [.long (r294)] rfl (List.mem_singleton.mp t298) (c_X12_mean l G N st x2 (xs ((x3 + (nI 1))).toNatClampNeg) (xs ((x3 + (nI 2))).toNatClampNeg) (xs ((x3 + (nI 3))).toNatClampNeg) c299) (zi zm924) (zi zm925) (zi zm926) (zi zm5) (zi zm927) cal_X12_mean rfl rfl hl.1 rfl (Nat.le_of_ble_eq_true rfl) ⟨(Nat.le_of_ble_eq_true rfl), (Nat.le_of_ble_eq_true rfl)⟩ ⟨(by show _ ≤ 600000; omega), (by show _ ≤ 7302250; omega)⟩ dL_law_941 (fun H locs hW hS => ?_)
                                                            refine W.eq (g2 := F0 m 944 ls [.long (r301), .long (r294)]) rfl ?_
                                                            refine W.lcmp hx hb dL_law_944 ?_
                                                            refine z_br (lv_if_eq (tgt := 1208) hx hb dL_law_945 (by decide)) h (fun h => ?_) (fun h => ?_)
                                                            · refine W.widen (k := 50 + 2 * (j + 1)) (n := 4000 + 105 * (j + 1)) (by omega) (by omega) ?_
                                                              exact B1208 st300 x1 x2 x3 _ _ _ h hW hS (lv_sub hl [0, 1, 2, 3] rfl)
                                                            · refine lv_iconst (v := (nI 0)) hx hb dL_law_948 (by decide) ?_
                                                              exact absurd (Option.some.inj h) (by decide)
                                                          · rcases zi_at h with ⟨k302, h⟩ | ⟨k302, h⟩
                                                            · refine lv_tableIn (off := 917) (tgt := 950) hx hb dL_law_33 (by rw [k302]; decide) (by rw [k302]; decide) (by rw [k302]; rfl) (by decide) ?_
                                                              refine lv_aload_n hx hb dL_law_950 rfl (lv_at hl 1 rfl) ?_
                                                              refine lv_aload_n hx hb dL_law_951 rfl (lv_at hl 0 rfl) ?_
                                                              refine lv_iload_n hx hb dL_law_952 rfl (lv_at hl 3 rfl) ?_
                                                              refine lv_iconst (v := (nI 1)) hx hb dL_law_953 (by decide) ?_
                                                              refine lv_iadd hx hb dL_law_954 ?_
                                                              obtain ⟨t303, h⟩ := zc_at h
                                                              refine va_sld hx hb hX hbl hbA hS t303 dL_law_955 ?_
                                                              refine lv_aload_n hx hb dL_law_956 rfl (lv_at hl 0 rfl) ?_
                                                              refine lv_iload_n hx hb dL_law_957 rfl (lv_at hl 3 rfl) ?_
                                                              refine lv_iconst (v := (nI 2)) hx hb dL_law_958 (by decide) ?_
                                                              refine lv_iadd hx hb dL_law_959 ?_
                                                              obtain ⟨t304, h⟩ := zc_at h
                                                              refine va_sld hx hb hX hbl hbA hS t304 dL_law_960 ?_
                                                              refine lv_aload_n hx hb dL_law_961 rfl (lv_at hl 0 rfl) ?_
                                                              refine lv_iload_n hx hb dL_law_962 rfl (lv_at hl 3 rfl) ?_
                                                              refine lv_iconst (v := (nI 3)) hx hb dL_law_963 (by decide) ?_
                                                              refine lv_iadd hx hb dL_law_964 ?_
                                                              obtain ⟨t305, h⟩ := zc_at h
                                                              refine va_sld hx hb hX hbl hbA hS t305 dL_law_965 ?_
                                                              refine lv_aload_n hx hb dL_law_966 rfl (lv_at hl 0 rfl) ?_
                                                              refine lv_iload_n hx hb dL_law_967 rfl (lv_at hl 3 rfl) ?_
                                                              refine lv_iconst (v := (nI 4)) hx hb dL_law_968 (by decide) ?_
                                                              refine lv_iadd hx hb dL_law_969 ?_
                                                              obtain ⟨t306, h⟩ := zc_at h
                                                              refine va_sld hx hb hX hbl hbA hS t306 dL_law_970 ?_
                                                              refine lv_aload_n hx hb dL_law_971 rfl (lv_at hl 0 rfl) ?_
                                                              refine lv_iload_n hx hb dL_law_972 rfl (lv_at hl 3 rfl) ?_
                                                              refine lv_iconst (v := (nI 5)) hx hb dL_law_973 (by decide) ?_
                                                              refine lv_iadd hx hb dL_law_974 ?_
                                                              obtain ⟨t307, h⟩ := zc_at h
                                                              refine va_sld hx hb hX hbl hbA hS t307 dL_law_975 ?_
                                                              obtain ⟨t308, h⟩ := zc_at h
                                                              obtain ⟨r310, c309, h⟩ := zd_at h
                                                              refine z_cV hx hb hq hml hown hK hW hS 11 [.int ((xs ((x3 + (nI 1))).toNatClampNeg)), .int ((xs ((x3 + (nI 2))).toNatClampNeg)), .int ((xs ((x3 + (nI 3))).toNatClampNeg)), .int ((xs ((x3 + (nI 4))).toNatClampNeg)), .int ((xs ((x3 + (nI 5))).toNatClampNeg))] [] rfl (List.mem_singleton.mp t308) (c_X11_table l G N st x1 (xs ((x3 + (nI 1))).toNatClampNeg) (xs ((x3 + (nI 2))).toNatClampNeg) (xs ((x3 + (nI 3))).toNatClampNeg) (xs ((x3 + (nI 4))).toNatClampNeg) (xs ((x3 + (nI 5))).toNatClampNeg) c309) (zi zm928) (zi zm929) (zi zm930) (zi zm2) (zi zm931) cal_X11_table rfl rfl hl.1 rfl (Nat.le_of_ble_eq_true rfl) ⟨(Nat.le_of_ble_eq_true rfl), (Nat.le_of_ble_eq_true rfl)⟩ ⟨(by show _ ≤ 600000; omega), (by show _ ≤ 7302250; omega)⟩ dL_law_976 (fun H locs hW hS => ?_)
                                                              refine W.eq (g2 := F0 m 979 ls [.long (r310)]) rfl ?_
                                                              refine lv_aload_n hx hb dL_law_979 rfl (lv_at hl 2 rfl) ?_
                                                              refine lv_aload_n hx hb dL_law_980 rfl (lv_at hl 0 rfl) ?_
                                                              refine lv_iload_n hx hb dL_law_981 rfl (lv_at hl 3 rfl) ?_
                                                              refine lv_iconst (v := (nI 1)) hx hb dL_law_982 (by decide) ?_
                                                              refine lv_iadd hx hb dL_law_983 ?_
                                                              obtain ⟨t311, h⟩ := zc_at h
                                                              refine va_sld hx hb hX hbl hbA hS t311 dL_law_984 ?_
                                                              refine lv_aload_n hx hb dL_law_985 rfl (lv_at hl 0 rfl) ?_
                                                              refine lv_iload_n hx hb dL_law_986 rfl (lv_at hl 3 rfl) ?_
                                                              refine lv_iconst (v := (nI 2)) hx hb dL_law_987 (by decide) ?_
                                                              refine lv_iadd hx hb dL_law_988 ?_
                                                              obtain ⟨t312, h⟩ := zc_at h
                                                              refine va_sld hx hb hX hbl hbA hS t312 dL_law_989 ?_
                                                              refine lv_aload_n hx hb dL_law_990 rfl (lv_at hl 0 rfl) ?_
                                                              refine lv_iload_n hx hb dL_law_991 rfl (lv_at hl 3 rfl) ?_
                                                              refine lv_iconst (v := (nI 3)) hx hb dL_law_992 (by decide) ?_
                                                              refine lv_iadd hx hb dL_law_993 ?_
                                                              obtain ⟨t313, h⟩ := zc_at h
                                                              refine va_sld hx hb hX hbl hbA hS t313 dL_law_994 ?_
                                                              refine lv_aload_n hx hb dL_law_995 rfl (lv_at hl 0 rfl) ?_
                                                              refine lv_iload_n hx hb dL_law_996 rfl (lv_at hl 3 rfl) ?_
                                                              refine lv_iconst (v := (nI 4)) hx hb dL_law_997 (by decide) ?_
                                                              refine lv_iadd hx hb dL_law_998 ?_
                                                              obtain ⟨t314, h⟩ := zc_at h
                                                              refine va_sld hx hb hX hbl hbA hS t314 dL_law_999 ?_
                                                              refine lv_aload_n hx hb dL_law_1000 rfl (lv_at hl 0 rfl) ?_
                                                              refine lv_iload_n hx hb dL_law_1001 rfl (lv_at hl 3 rfl) ?_
                                                              refine lv_iconst (v := (nI 5)) hx hb dL_law_1002 (by decide) ?_
                                                              refine lv_iadd hx hb dL_law_1003 ?_
                                                              obtain ⟨t315, h⟩ := zc_at h
                                                              refine va_sld hx hb hX hbl hbA hS t315 dL_law_1004 ?_
                                                              obtain ⟨t316, h⟩ := zc_at h
                                                              obtain ⟨r318, c317, h⟩ := zd_at h
                                                              refine z_cV hx hb hq hml hown hK hW hS 12 [.int ((xs ((x3 + (nI 1))).toNatClampNeg)), .int ((xs ((x3 + (nI 2))).toNatClampNeg)), .int ((xs ((x3 + (nI 3))).toNatClampNeg)), .int ((xs ((x3 + (nI 4))).toNatClampNeg)), .int ((xs ((x3 + (nI 5))).toNatClampNeg))] [.long (r310)] rfl (List.mem_singleton.mp t316) (c_X12_table l G N st x2 (xs ((x3 + (nI 1))).toNatClampNeg) (xs ((x3 + (nI 2))).toNatClampNeg) (xs ((x3 + (nI 3))).toNatClampNeg) (xs ((x3 + (nI 4))).toNatClampNeg) (xs ((x3 + (nI 5))).toNatClampNeg) c317) (zi zm936) (zi zm937) (zi zm938) (zi zm5) (zi zm939) cal_X12_table rfl rfl hl.1 rfl (Nat.le_of_ble_eq_true rfl) ⟨(Nat.le_of_ble_eq_true rfl), (Nat.le_of_ble_eq_true rfl)⟩ ⟨(by show _ ≤ 600000; omega), (by show _ ≤ 7302250; omega)⟩ dL_law_1005 (fun H locs hW hS => ?_)
                                                              refine W.eq (g2 := F0 m 1008 ls [.long (r318), .long (r310)]) rfl ?_
                                                              refine W.lcmp hx hb dL_law_1008 ?_
                                                              refine z_br (lv_if_eq (tgt := 1208) hx hb dL_law_1009 (by decide)) h (fun h => ?_) (fun h => ?_)
                                                              · refine W.widen (k := 50 + 2 * (j + 1)) (n := 4000 + 105 * (j + 1)) (by omega) (by omega) ?_
                                                                exact B1208 st x1 x2 x3 _ _ _ h hW hS (lv_sub hl [0, 1, 2, 3] rfl)
                                                              · refine lv_iconst (v := (nI 0)) hx hb dL_law_1012 (by decide) ?_
                                                                exact absurd (Option.some.inj h) (by decide)
                                                            · rcases zi_at h with ⟨k319, h⟩ | ⟨k319, h⟩
                                                              · refine lv_tableIn (off := 981) (tgt := 1014) hx hb dL_law_33 (by rw [k319]; decide) (by rw [k319]; decide) (by rw [k319]; rfl) (by decide) ?_
                                                                refine lv_aload_n hx hb dL_law_1014 rfl (lv_at hl 1 rfl) ?_
                                                                refine lv_aload_n hx hb dL_law_1015 rfl (lv_at hl 0 rfl) ?_
                                                                refine lv_iload_n hx hb dL_law_1016 rfl (lv_at hl 3 rfl) ?_
                                                                refine lv_iconst (v := (nI 1)) hx hb dL_law_1017 (by decide) ?_
                                                                refine lv_iadd hx hb dL_law_1018 ?_
                                                                obtain ⟨t320, h⟩ := zc_at h
                                                                refine va_sld hx hb hX hbl hbA hS t320 dL_law_1019 ?_
                                                                refine lv_aload_n hx hb dL_law_1020 rfl (lv_at hl 0 rfl) ?_
                                                                refine lv_iload_n hx hb dL_law_1021 rfl (lv_at hl 3 rfl) ?_
                                                                refine lv_iconst (v := (nI 2)) hx hb dL_law_1022 (by decide) ?_
                                                                refine lv_iadd hx hb dL_law_1023 ?_
                                                                obtain ⟨t321, h⟩ := zc_at h
                                                                refine va_sld hx hb hX hbl hbA hS t321 dL_law_1024 ?_
                                                                obtain ⟨t322, h⟩ := zc_at h
                                                                obtain ⟨st324, r325, c323, h⟩ := zb_at h
                                                                refine z_cV hx hb hq hml hown hK hW hS 11 [.int ((xs ((x3 + (nI 1))).toNatClampNeg)), .int ((xs ((x3 + (nI 2))).toNatClampNeg))] [] rfl (List.mem_singleton.mp t322) (c_X11_book l G st x1 (xs ((x3 + (nI 1))).toNatClampNeg) (xs ((x3 + (nI 2))).toNatClampNeg) c323) (zi zm943) (zi zm944) (zi zm945) (zi zm2) (zi zm946) cal_X11_book rfl rfl hl.1 rfl (Nat.le_of_ble_eq_true rfl) ⟨(Nat.le_of_ble_eq_true rfl), (Nat.le_of_ble_eq_true rfl)⟩ ⟨(by show _ ≤ 600000; omega), (by show _ ≤ 7302250; omega)⟩ dL_law_1025 (fun H locs hW hS => ?_)
                                                                refine W.eq (g2 := F0 m 1028 ls [.int r325]) rfl ?_
                                                                refine lv_aload_n hx hb dL_law_1028 rfl (lv_at hl 2 rfl) ?_
                                                                refine lv_aload_n hx hb dL_law_1029 rfl (lv_at hl 0 rfl) ?_
                                                                refine lv_iload_n hx hb dL_law_1030 rfl (lv_at hl 3 rfl) ?_
                                                                refine lv_iconst (v := (nI 1)) hx hb dL_law_1031 (by decide) ?_
                                                                refine lv_iadd hx hb dL_law_1032 ?_
                                                                obtain ⟨t326, h⟩ := zc_at h
                                                                refine va_sld hx hb hX hbl hbA hS t326 dL_law_1033 ?_
                                                                refine lv_aload_n hx hb dL_law_1034 rfl (lv_at hl 0 rfl) ?_
                                                                refine lv_iload_n hx hb dL_law_1035 rfl (lv_at hl 3 rfl) ?_
                                                                refine lv_iconst (v := (nI 2)) hx hb dL_law_1036 (by decide) ?_
                                                                refine lv_iadd hx hb dL_law_1037 ?_
                                                                obtain ⟨t327, h⟩ := zc_at h
                                                                refine va_sld hx hb hX hbl hbA hS t327 dL_law_1038 ?_
                                                                obtain ⟨t328, h⟩ := zc_at h
                                                                obtain ⟨st330, r331, c329, h⟩ := zb_at h
                                                                refine z_cV hx hb hq hml hown hK hW hS 12 [.int ((xs ((x3 + (nI 1))).toNatClampNeg)), .int ((xs ((x3 + (nI 2))).toNatClampNeg))] [.int r325] rfl (List.mem_singleton.mp t328) (c_X12_book l G st324 x2 (xs ((x3 + (nI 1))).toNatClampNeg) (xs ((x3 + (nI 2))).toNatClampNeg) c329) (zi zm949) (zi zm950) (zi zm951) (zi zm5) (zi zm952) cal_X12_book rfl rfl hl.1 rfl (Nat.le_of_ble_eq_true rfl) ⟨(Nat.le_of_ble_eq_true rfl), (Nat.le_of_ble_eq_true rfl)⟩ ⟨(by show _ ≤ 600000; omega), (by show _ ≤ 7302250; omega)⟩ dL_law_1039 (fun H locs hW hS => ?_)
                                                                refine W.eq (g2 := F0 m 1042 ls [.int r331, .int r325]) rfl ?_
                                                                refine z_br (lv_icmp_eq (tgt := 1208) hx hb dL_law_1042 (by decide)) h (fun h => ?_) (fun h => ?_)
                                                                · refine W.widen (k := 50 + 2 * (j + 1)) (n := 4000 + 105 * (j + 1)) (by omega) (by omega) ?_
                                                                  exact B1208 st330 x1 x2 x3 _ _ _ h hW hS (lv_sub hl [0, 1, 2, 3] rfl)
                                                                · refine lv_iconst (v := (nI 0)) hx hb dL_law_1045 (by decide) ?_
                                                                  exact absurd (Option.some.inj h) (by decide)
                                                              · rcases zi_at h with ⟨k332, h⟩ | ⟨k332, h⟩
                                                                · refine lv_tableIn (off := 1014) (tgt := 1047) hx hb dL_law_33 (by rw [k332]; decide) (by rw [k332]; decide) (by rw [k332]; rfl) (by decide) ?_
                                                                  refine lv_aload_n hx hb dL_law_1047 rfl (lv_at hl 1 rfl) ?_
                                                                  obtain ⟨t333, h⟩ := zc_at h
                                                                  obtain ⟨r335, c334, h⟩ := zd_at h
                                                                  refine z_cV hx hb hq hml hown hK hW hS 11 [] [] rfl (List.mem_singleton.mp t333) (c_X11_looked l G N st x1 c334) (zi zm953) (zi zm954) (zi zm955) (zi zm2) (zi zm956) cal_X11_looked rfl rfl hl.1 rfl (Nat.le_of_ble_eq_true rfl) ⟨(Nat.le_of_ble_eq_true rfl), (Nat.le_of_ble_eq_true rfl)⟩ ⟨(by show _ ≤ 600000; omega), (by show _ ≤ 7302250; omega)⟩ dL_law_1048 (fun H locs hW hS => ?_)
                                                                  refine W.eq (g2 := F0 m 1051 ls [.int r335]) rfl ?_
                                                                  refine lv_aload_n hx hb dL_law_1051 rfl (lv_at hl 2 rfl) ?_
                                                                  obtain ⟨t336, h⟩ := zc_at h
                                                                  obtain ⟨r338, c337, h⟩ := zd_at h
                                                                  refine z_cV hx hb hq hml hown hK hW hS 12 [] [.int r335] rfl (List.mem_singleton.mp t336) (c_X12_looked l G N st x2 c337) (zi zm957) (zi zm958) (zi zm959) (zi zm5) (zi zm960) cal_X12_looked rfl rfl hl.1 rfl (Nat.le_of_ble_eq_true rfl) ⟨(Nat.le_of_ble_eq_true rfl), (Nat.le_of_ble_eq_true rfl)⟩ ⟨(by show _ ≤ 600000; omega), (by show _ ≤ 7302250; omega)⟩ dL_law_1052 (fun H locs hW hS => ?_)
                                                                  refine W.eq (g2 := F0 m 1055 ls [.int r338, .int r335]) rfl ?_
                                                                  refine z_br (lv_icmp_eq (tgt := 1208) hx hb dL_law_1055 (by decide)) h (fun h => ?_) (fun h => ?_)
                                                                  · refine W.widen (k := 50 + 2 * (j + 1)) (n := 4000 + 105 * (j + 1)) (by omega) (by omega) ?_
                                                                    exact B1208 st x1 x2 x3 _ _ _ h hW hS (lv_sub hl [0, 1, 2, 3] rfl)
                                                                  · refine lv_iconst (v := (nI 0)) hx hb dL_law_1058 (by decide) ?_
                                                                    exact absurd (Option.some.inj h) (by decide)
                                                                · rcases zi_at h with ⟨k339, h⟩ | ⟨k339, h⟩
                                                                  · refine lv_tableIn (off := 1027) (tgt := 1060) hx hb dL_law_33 (by rw [k339]; decide) (by rw [k339]; decide) (by rw [k339]; rfl) (by decide) ?_
                                                                    refine lv_aload_n hx hb dL_law_1060 rfl (lv_at hl 1 rfl) ?_
                                                                    refine lv_aload_n hx hb dL_law_1061 rfl (lv_at hl 0 rfl) ?_
                                                                    refine lv_iload_n hx hb dL_law_1062 rfl (lv_at hl 3 rfl) ?_
                                                                    refine lv_iconst (v := (nI 1)) hx hb dL_law_1063 (by decide) ?_
                                                                    refine lv_iadd hx hb dL_law_1064 ?_
                                                                    obtain ⟨t340, h⟩ := zc_at h
                                                                    refine va_sld hx hb hX hbl hbA hS t340 dL_law_1065 ?_
                                                                    refine lv_aload_n hx hb dL_law_1066 rfl (lv_at hl 0 rfl) ?_
                                                                    refine lv_iload_n hx hb dL_law_1067 rfl (lv_at hl 3 rfl) ?_
                                                                    refine lv_iconst (v := (nI 2)) hx hb dL_law_1068 (by decide) ?_
                                                                    refine lv_iadd hx hb dL_law_1069 ?_
                                                                    obtain ⟨t341, h⟩ := zc_at h
                                                                    refine va_sld hx hb hX hbl hbA hS t341 dL_law_1070 ?_
                                                                    refine lv_aload_n hx hb dL_law_1071 rfl (lv_at hl 0 rfl) ?_
                                                                    refine lv_iload_n hx hb dL_law_1072 rfl (lv_at hl 3 rfl) ?_
                                                                    refine lv_iconst (v := (nI 3)) hx hb dL_law_1073 (by decide) ?_
                                                                    refine lv_iadd hx hb dL_law_1074 ?_
                                                                    obtain ⟨t342, h⟩ := zc_at h
                                                                    refine va_sld hx hb hX hbl hbA hS t342 dL_law_1075 ?_
                                                                    obtain ⟨t343, h⟩ := zc_at h
                                                                    obtain ⟨st345, r346, c344, h⟩ := zb_at h
                                                                    refine z_cV hx hb hq hml hown hK hW hS 11 [.int ((xs ((x3 + (nI 1))).toNatClampNeg)), .int ((xs ((x3 + (nI 2))).toNatClampNeg)), .int ((xs ((x3 + (nI 3))).toNatClampNeg))] [] rfl (List.mem_singleton.mp t343) (c_X11_act l G st x1 (xs ((x3 + (nI 1))).toNatClampNeg) (xs ((x3 + (nI 2))).toNatClampNeg) (xs ((x3 + (nI 3))).toNatClampNeg) c344) (zi zm961) (zi zm962) (zi zm963) (zi zm2) (zi zm964) cal_X11_act rfl rfl hl.1 rfl (Nat.le_of_ble_eq_true rfl) ⟨(Nat.le_of_ble_eq_true rfl), (Nat.le_of_ble_eq_true rfl)⟩ ⟨(by show _ ≤ 600000; omega), (by show _ ≤ 7302250; omega)⟩ dL_law_1076 (fun H locs hW hS => ?_)
                                                                    refine W.eq (g2 := F0 m 1079 ls [.int r346]) rfl ?_
                                                                    refine lv_aload_n hx hb dL_law_1079 rfl (lv_at hl 2 rfl) ?_
                                                                    refine lv_aload_n hx hb dL_law_1080 rfl (lv_at hl 0 rfl) ?_
                                                                    refine lv_iload_n hx hb dL_law_1081 rfl (lv_at hl 3 rfl) ?_
                                                                    refine lv_iconst (v := (nI 1)) hx hb dL_law_1082 (by decide) ?_
                                                                    refine lv_iadd hx hb dL_law_1083 ?_
                                                                    obtain ⟨t347, h⟩ := zc_at h
                                                                    refine va_sld hx hb hX hbl hbA hS t347 dL_law_1084 ?_
                                                                    refine lv_aload_n hx hb dL_law_1085 rfl (lv_at hl 0 rfl) ?_
                                                                    refine lv_iload_n hx hb dL_law_1086 rfl (lv_at hl 3 rfl) ?_
                                                                    refine lv_iconst (v := (nI 2)) hx hb dL_law_1087 (by decide) ?_
                                                                    refine lv_iadd hx hb dL_law_1088 ?_
                                                                    obtain ⟨t348, h⟩ := zc_at h
                                                                    refine va_sld hx hb hX hbl hbA hS t348 dL_law_1089 ?_
                                                                    refine lv_aload_n hx hb dL_law_1090 rfl (lv_at hl 0 rfl) ?_
                                                                    refine lv_iload_n hx hb dL_law_1091 rfl (lv_at hl 3 rfl) ?_
                                                                    refine lv_iconst (v := (nI 3)) hx hb dL_law_1092 (by decide) ?_
                                                                    refine lv_iadd hx hb dL_law_1093 ?_
                                                                    obtain ⟨t349, h⟩ := zc_at h
                                                                    refine va_sld hx hb hX hbl hbA hS t349 dL_law_1094 ?_
                                                                    obtain ⟨t350, h⟩ := zc_at h
                                                                    obtain ⟨st352, r353, c351, h⟩ := zb_at h
                                                                    refine z_cV hx hb hq hml hown hK hW hS 12 [.int ((xs ((x3 + (nI 1))).toNatClampNeg)), .int ((xs ((x3 + (nI 2))).toNatClampNeg)), .int ((xs ((x3 + (nI 3))).toNatClampNeg))] [.int r346] rfl (List.mem_singleton.mp t350) (c_X12_act l G st345 x2 (xs ((x3 + (nI 1))).toNatClampNeg) (xs ((x3 + (nI 2))).toNatClampNeg) (xs ((x3 + (nI 3))).toNatClampNeg) c351) (zi zm1046) (zi zm1047) (zi zm1048) (zi zm5) (zi zm1049) cal_X12_act rfl rfl hl.1 rfl (Nat.le_of_ble_eq_true rfl) ⟨(Nat.le_of_ble_eq_true rfl), (Nat.le_of_ble_eq_true rfl)⟩ ⟨(by show _ ≤ 600000; omega), (by show _ ≤ 7302250; omega)⟩ dL_law_1095 (fun H locs hW hS => ?_)
                                                                    refine W.eq (g2 := F0 m 1098 ls [.int r353, .int r346]) rfl ?_
                                                                    refine z_br (lv_icmp_eq (tgt := 1208) hx hb dL_law_1098 (by decide)) h (fun h => ?_) (fun h => ?_)
                                                                    · refine W.widen (k := 50 + 2 * (j + 1)) (n := 4000 + 105 * (j + 1)) (by omega) (by omega) ?_
                                                                      exact B1208 st352 x1 x2 x3 _ _ _ h hW hS (lv_sub hl [0, 1, 2, 3] rfl)
                                                                    · refine lv_iconst (v := (nI 0)) hx hb dL_law_1101 (by decide) ?_
                                                                      exact absurd (Option.some.inj h) (by decide)
                                                                  · rcases zi_at h with ⟨k354, h⟩ | ⟨k354, h⟩
                                                                    · refine lv_tableIn (off := 1070) (tgt := 1103) hx hb dL_law_33 (by rw [k354]; decide) (by rw [k354]; decide) (by rw [k354]; rfl) (by decide) ?_
                                                                      refine lv_aload_n hx hb dL_law_1103 rfl (lv_at hl 1 rfl) ?_
                                                                      refine lv_aload_n hx hb dL_law_1104 rfl (lv_at hl 0 rfl) ?_
                                                                      refine lv_iload_n hx hb dL_law_1105 rfl (lv_at hl 3 rfl) ?_
                                                                      refine lv_iconst (v := (nI 1)) hx hb dL_law_1106 (by decide) ?_
                                                                      refine lv_iadd hx hb dL_law_1107 ?_
                                                                      obtain ⟨t355, h⟩ := zc_at h
                                                                      refine va_sld hx hb hX hbl hbA hS t355 dL_law_1108 ?_
                                                                      obtain ⟨t356, h⟩ := zc_at h
                                                                      obtain ⟨r358, c357, h⟩ := zd_at h
                                                                      refine z_cV hx hb hq hml hown hK hW hS 11 [.int ((xs ((x3 + (nI 1))).toNatClampNeg))] [] rfl (List.mem_singleton.mp t356) (c_X11_trace l G st x1 (xs ((x3 + (nI 1))).toNatClampNeg) c357) (zi zm1085) (zi zm1086) (zi zm1087) (zi zm2) (zi zm1088) cal_X11_trace rfl rfl hl.1 rfl (Nat.le_of_ble_eq_true rfl) ⟨(Nat.le_of_ble_eq_true rfl), (Nat.le_of_ble_eq_true rfl)⟩ ⟨(by show _ ≤ 600000; omega), (by show _ ≤ 7302250; omega)⟩ dL_law_1109 (fun H locs hW hS => ?_)
                                                                      refine W.eq (g2 := F0 m 1112 ls [.int r358]) rfl ?_
                                                                      refine lv_aload_n hx hb dL_law_1112 rfl (lv_at hl 2 rfl) ?_
                                                                      refine lv_aload_n hx hb dL_law_1113 rfl (lv_at hl 0 rfl) ?_
                                                                      refine lv_iload_n hx hb dL_law_1114 rfl (lv_at hl 3 rfl) ?_
                                                                      refine lv_iconst (v := (nI 1)) hx hb dL_law_1115 (by decide) ?_
                                                                      refine lv_iadd hx hb dL_law_1116 ?_
                                                                      obtain ⟨t359, h⟩ := zc_at h
                                                                      refine va_sld hx hb hX hbl hbA hS t359 dL_law_1117 ?_
                                                                      obtain ⟨t360, h⟩ := zc_at h
                                                                      obtain ⟨r362, c361, h⟩ := zd_at h
                                                                      refine z_cV hx hb hq hml hown hK hW hS 12 [.int ((xs ((x3 + (nI 1))).toNatClampNeg))] [.int r358] rfl (List.mem_singleton.mp t360) (c_X12_trace l G st x2 (xs ((x3 + (nI 1))).toNatClampNeg) c361) (zi zm1093) (zi zm1094) (zi zm1095) (zi zm5) (zi zm1096) cal_X12_trace rfl rfl hl.1 rfl (Nat.le_of_ble_eq_true rfl) ⟨(Nat.le_of_ble_eq_true rfl), (Nat.le_of_ble_eq_true rfl)⟩ ⟨(by show _ ≤ 600000; omega), (by show _ ≤ 7302250; omega)⟩ dL_law_1118 (fun H locs hW hS => ?_)
                                                                      refine W.eq (g2 := F0 m 1121 ls [.int r362, .int r358]) rfl ?_
                                                                      refine z_br (lv_icmp_eq (tgt := 1208) hx hb dL_law_1121 (by decide)) h (fun h => ?_) (fun h => ?_)
                                                                      · refine W.widen (k := 50 + 2 * (j + 1)) (n := 4000 + 105 * (j + 1)) (by omega) (by omega) ?_
                                                                        exact B1208 st x1 x2 x3 _ _ _ h hW hS (lv_sub hl [0, 1, 2, 3] rfl)
                                                                      · refine lv_iconst (v := (nI 0)) hx hb dL_law_1124 (by decide) ?_
                                                                        exact absurd (Option.some.inj h) (by decide)
                                                                    · rcases zi_at h with ⟨k363, h⟩ | ⟨k363, h⟩
                                                                      · refine lv_tableIn (off := 1093) (tgt := 1126) hx hb dL_law_33 (by rw [k363]; decide) (by rw [k363]; decide) (by rw [k363]; rfl) (by decide) ?_
                                                                        refine lv_aload_n hx hb dL_law_1126 rfl (lv_at hl 1 rfl) ?_
                                                                        refine lv_aload_n hx hb dL_law_1127 rfl (lv_at hl 0 rfl) ?_
                                                                        refine lv_iload_n hx hb dL_law_1128 rfl (lv_at hl 3 rfl) ?_
                                                                        refine lv_iconst (v := (nI 1)) hx hb dL_law_1129 (by decide) ?_
                                                                        refine lv_iadd hx hb dL_law_1130 ?_
                                                                        obtain ⟨t364, h⟩ := zc_at h
                                                                        refine va_sld hx hb hX hbl hbA hS t364 dL_law_1131 ?_
                                                                        refine lv_aload_n hx hb dL_law_1132 rfl (lv_at hl 0 rfl) ?_
                                                                        refine lv_iload_n hx hb dL_law_1133 rfl (lv_at hl 3 rfl) ?_
                                                                        refine lv_iconst (v := (nI 2)) hx hb dL_law_1134 (by decide) ?_
                                                                        refine lv_iadd hx hb dL_law_1135 ?_
                                                                        obtain ⟨t365, h⟩ := zc_at h
                                                                        refine va_sld hx hb hX hbl hbA hS t365 dL_law_1136 ?_
                                                                        obtain ⟨t366, h⟩ := zc_at h
                                                                        obtain ⟨r368, c367, h⟩ := zd_at h
                                                                        refine z_cV hx hb hq hml hown hK hW hS 11 [.int ((xs ((x3 + (nI 1))).toNatClampNeg)), .int ((xs ((x3 + (nI 2))).toNatClampNeg))] [] rfl (List.mem_singleton.mp t366) (c_X11_as l G st x1 (xs ((x3 + (nI 1))).toNatClampNeg) (xs ((x3 + (nI 2))).toNatClampNeg) c367) (zi zm1097) (zi zm1098) (zi zm1099) (zi zm2) (zi zm1100) cal_X11_as rfl rfl hl.1 rfl (Nat.le_of_ble_eq_true rfl) ⟨(Nat.le_of_ble_eq_true rfl), (Nat.le_of_ble_eq_true rfl)⟩ ⟨(by show _ ≤ 600000; omega), (by show _ ≤ 7302250; omega)⟩ dL_law_1137 (fun H locs hW hS => ?_)
                                                                        refine W.eq (g2 := F0 m 1140 ls [.int r368]) rfl ?_
                                                                        refine lv_aload_n hx hb dL_law_1140 rfl (lv_at hl 2 rfl) ?_
                                                                        refine lv_aload_n hx hb dL_law_1141 rfl (lv_at hl 0 rfl) ?_
                                                                        refine lv_iload_n hx hb dL_law_1142 rfl (lv_at hl 3 rfl) ?_
                                                                        refine lv_iconst (v := (nI 1)) hx hb dL_law_1143 (by decide) ?_
                                                                        refine lv_iadd hx hb dL_law_1144 ?_
                                                                        obtain ⟨t369, h⟩ := zc_at h
                                                                        refine va_sld hx hb hX hbl hbA hS t369 dL_law_1145 ?_
                                                                        refine lv_aload_n hx hb dL_law_1146 rfl (lv_at hl 0 rfl) ?_
                                                                        refine lv_iload_n hx hb dL_law_1147 rfl (lv_at hl 3 rfl) ?_
                                                                        refine lv_iconst (v := (nI 2)) hx hb dL_law_1148 (by decide) ?_
                                                                        refine lv_iadd hx hb dL_law_1149 ?_
                                                                        obtain ⟨t370, h⟩ := zc_at h
                                                                        refine va_sld hx hb hX hbl hbA hS t370 dL_law_1150 ?_
                                                                        obtain ⟨t371, h⟩ := zc_at h
                                                                        obtain ⟨r373, c372, h⟩ := zd_at h
                                                                        refine z_cV hx hb hq hml hown hK hW hS 12 [.int ((xs ((x3 + (nI 1))).toNatClampNeg)), .int ((xs ((x3 + (nI 2))).toNatClampNeg))] [.int r368] rfl (List.mem_singleton.mp t371) (c_X12_as l G st x2 (xs ((x3 + (nI 1))).toNatClampNeg) (xs ((x3 + (nI 2))).toNatClampNeg) c372) (zi zm1109) (zi zm1110) (zi zm1111) (zi zm5) (zi zm1112) cal_X12_as rfl rfl hl.1 rfl (Nat.le_of_ble_eq_true rfl) ⟨(Nat.le_of_ble_eq_true rfl), (Nat.le_of_ble_eq_true rfl)⟩ ⟨(by show _ ≤ 600000; omega), (by show _ ≤ 7302250; omega)⟩ dL_law_1151 (fun H locs hW hS => ?_)
                                                                        refine W.eq (g2 := F0 m 1154 ls [.int r373, .int r368]) rfl ?_
                                                                        refine z_br (lv_icmp_eq (tgt := 1208) hx hb dL_law_1154 (by decide)) h (fun h => ?_) (fun h => ?_)
                                                                        · refine W.widen (k := 50 + 2 * (j + 1)) (n := 4000 + 105 * (j + 1)) (by omega) (by omega) ?_
                                                                          exact B1208 st x1 x2 x3 _ _ _ h hW hS (lv_sub hl [0, 1, 2, 3] rfl)
                                                                        · refine lv_iconst (v := (nI 0)) hx hb dL_law_1157 (by decide) ?_
                                                                          exact absurd (Option.some.inj h) (by decide)
                                                                      · rcases zi_at h with ⟨k374, h⟩ | ⟨k374, h⟩
                                                                        · refine lv_tableIn (off := 1126) (tgt := 1159) hx hb dL_law_33 (by rw [k374]; decide) (by rw [k374]; decide) (by rw [k374]; rfl) (by decide) ?_
                                                                          refine lv_aload_n hx hb dL_law_1159 rfl (lv_at hl 1 rfl) ?_
                                                                          obtain ⟨t375, h⟩ := zc_at h
                                                                          obtain ⟨st377, r378, c376, h⟩ := zb_at h
                                                                          refine z_cV hx hb hq hml hown hK hW hS 11 [] [] rfl (List.mem_singleton.mp t375) (c_X11_image l G N st x1 c376) (zi zm1113) (zi zm1114) (zi zm1115) (zi zm2) (zi zm1116) cal_X11_image rfl rfl hl.1 rfl (Nat.le_of_ble_eq_true rfl) ⟨(Nat.le_of_ble_eq_true rfl), (Nat.le_of_ble_eq_true rfl)⟩ ⟨(by show _ ≤ 600000; omega), (by show _ ≤ 7302250; omega)⟩ dL_law_1160 (fun H locs hW hS => ?_)
                                                                          refine W.eq (g2 := F0 m 1163 ls [.int r378]) rfl ?_
                                                                          refine lv_aload_n hx hb dL_law_1163 rfl (lv_at hl 2 rfl) ?_
                                                                          obtain ⟨t379, h⟩ := zc_at h
                                                                          obtain ⟨st381, r382, c380, h⟩ := zb_at h
                                                                          refine z_cV hx hb hq hml hown hK hW hS 12 [] [.int r378] rfl (List.mem_singleton.mp t379) (c_X12_image l G N st377 x2 c380) (zi zm1131) (zi zm1132) (zi zm1133) (zi zm5) (zi zm1134) cal_X12_image rfl rfl hl.1 rfl (Nat.le_of_ble_eq_true rfl) ⟨(Nat.le_of_ble_eq_true rfl), (Nat.le_of_ble_eq_true rfl)⟩ ⟨(by show _ ≤ 600000; omega), (by show _ ≤ 7302250; omega)⟩ dL_law_1164 (fun H locs hW hS => ?_)
                                                                          refine W.eq (g2 := F0 m 1167 ls [.int r382, .int r378]) rfl ?_
                                                                          refine z_br (lv_icmp_eq (tgt := 1208) hx hb dL_law_1167 (by decide)) h (fun h => ?_) (fun h => ?_)
                                                                          · refine W.widen (k := 50 + 2 * (j + 1)) (n := 4000 + 105 * (j + 1)) (by omega) (by omega) ?_
                                                                            exact B1208 st381 x1 x2 x3 _ _ _ h hW hS (lv_sub hl [0, 1, 2, 3] rfl)
                                                                          · refine lv_iconst (v := (nI 0)) hx hb dL_law_1170 (by decide) ?_
                                                                            exact absurd (Option.some.inj h) (by decide)
                                                                        · rcases zi_at h with ⟨k383, h⟩ | ⟨k383, h⟩
                                                                          · refine lv_tableIn (off := 1139) (tgt := 1172) hx hb dL_law_33 (by rw [k383]; decide) (by rw [k383]; decide) (by rw [k383]; rfl) (by decide) ?_
                                                                            refine lv_aload_n hx hb dL_law_1172 rfl (lv_at hl 1 rfl) ?_
                                                                            obtain ⟨t384, h⟩ := zc_at h
                                                                            obtain ⟨st386, r387, c385, h⟩ := zb_at h
                                                                            refine z_cV hx hb hq hml hown hK hW hS 11 [] [] rfl (List.mem_singleton.mp t384) (c_X11_undo l G N st x1 c385) (zi zm1136) (zi zm1137) (zi zm1138) (zi zm2) (zi zm1139) cal_X11_undo rfl rfl hl.1 rfl (Nat.le_of_ble_eq_true rfl) ⟨(Nat.le_of_ble_eq_true rfl), (Nat.le_of_ble_eq_true rfl)⟩ ⟨(by show _ ≤ 600000; omega), (by show _ ≤ 7302250; omega)⟩ dL_law_1173 (fun H locs hW hS => ?_)
                                                                            refine W.eq (g2 := F0 m 1176 ls [.int r387]) rfl ?_
                                                                            refine lv_aload_n hx hb dL_law_1176 rfl (lv_at hl 2 rfl) ?_
                                                                            obtain ⟨t388, h⟩ := zc_at h
                                                                            obtain ⟨st390, r391, c389, h⟩ := zb_at h
                                                                            refine z_cV hx hb hq hml hown hK hW hS 12 [] [.int r387] rfl (List.mem_singleton.mp t388) (c_X12_undo l G N st386 x2 c389) (zi zm1140) (zi zm1141) (zi zm1142) (zi zm5) (zi zm1143) cal_X12_undo rfl rfl hl.1 rfl (Nat.le_of_ble_eq_true rfl) ⟨(Nat.le_of_ble_eq_true rfl), (Nat.le_of_ble_eq_true rfl)⟩ ⟨(by show _ ≤ 600000; omega), (by show _ ≤ 7302250; omega)⟩ dL_law_1177 (fun H locs hW hS => ?_)
                                                                            refine W.eq (g2 := F0 m 1180 ls [.int r391, .int r387]) rfl ?_
                                                                            refine z_br (lv_icmp_eq (tgt := 1208) hx hb dL_law_1180 (by decide)) h (fun h => ?_) (fun h => ?_)
                                                                            · refine W.widen (k := 50 + 2 * (j + 1)) (n := 4000 + 105 * (j + 1)) (by omega) (by omega) ?_
                                                                              exact B1208 st390 x1 x2 x3 _ _ _ h hW hS (lv_sub hl [0, 1, 2, 3] rfl)
                                                                            · refine lv_iconst (v := (nI 0)) hx hb dL_law_1183 (by decide) ?_
                                                                              exact absurd (Option.some.inj h) (by decide)
                                                                          · rcases zi_at h with ⟨k392, h⟩ | ⟨k392, h⟩
                                                                            · refine lv_tableIn (off := 1152) (tgt := 1185) hx hb dL_law_33 (by rw [k392]; decide) (by rw [k392]; decide) (by rw [k392]; rfl) (by decide) ?_
                                                                              refine lv_aload_n hx hb dL_law_1185 rfl (lv_at hl 1 rfl) ?_
                                                                              refine lv_aload_n hx hb dL_law_1186 rfl (lv_at hl 0 rfl) ?_
                                                                              refine lv_iload_n hx hb dL_law_1187 rfl (lv_at hl 3 rfl) ?_
                                                                              refine lv_iconst (v := (nI 1)) hx hb dL_law_1188 (by decide) ?_
                                                                              refine lv_iadd hx hb dL_law_1189 ?_
                                                                              obtain ⟨t393, h⟩ := zc_at h
                                                                              refine va_sld hx hb hX hbl hbA hS t393 dL_law_1190 ?_
                                                                              obtain ⟨t394, h⟩ := zc_at h
                                                                              obtain ⟨r396, c395, h⟩ := zd_at h
                                                                              refine z_cV hx hb hq hml hown hK hW hS 11 [.int ((xs ((x3 + (nI 1))).toNatClampNeg))] [] rfl (List.mem_singleton.mp t394) (c_X11_count l G st x1 (xs ((x3 + (nI 1))).toNatClampNeg) c395) (zi zm1144) (zi zm1145) (zi zm1146) (zi zm2) (zi zm1147) cal_X11_count rfl rfl hl.1 rfl (Nat.le_of_ble_eq_true rfl) ⟨(Nat.le_of_ble_eq_true rfl), (Nat.le_of_ble_eq_true rfl)⟩ ⟨(by show _ ≤ 600000; omega), (by show _ ≤ 7302250; omega)⟩ dL_law_1191 (fun H locs hW hS => ?_)
                                                                              refine W.eq (g2 := F0 m 1194 ls [.int r396]) rfl ?_
                                                                              refine lv_aload_n hx hb dL_law_1194 rfl (lv_at hl 2 rfl) ?_
                                                                              refine lv_aload_n hx hb dL_law_1195 rfl (lv_at hl 0 rfl) ?_
                                                                              refine lv_iload_n hx hb dL_law_1196 rfl (lv_at hl 3 rfl) ?_
                                                                              refine lv_iconst (v := (nI 1)) hx hb dL_law_1197 (by decide) ?_
                                                                              refine lv_iadd hx hb dL_law_1198 ?_
                                                                              obtain ⟨t397, h⟩ := zc_at h
                                                                              refine va_sld hx hb hX hbl hbA hS t397 dL_law_1199 ?_
                                                                              obtain ⟨t398, h⟩ := zc_at h
                                                                              obtain ⟨r400, c399, h⟩ := zd_at h
                                                                              refine z_cV hx hb hq hml hown hK hW hS 12 [.int ((xs ((x3 + (nI 1))).toNatClampNeg))] [.int r396] rfl (List.mem_singleton.mp t398) (c_X12_count l G st x2 (xs ((x3 + (nI 1))).toNatClampNeg) c399) (zi zm1149) (zi zm1150) (zi zm1151) (zi zm5) (zi zm1152) cal_X12_count rfl rfl hl.1 rfl (Nat.le_of_ble_eq_true rfl) ⟨(Nat.le_of_ble_eq_true rfl), (Nat.le_of_ble_eq_true rfl)⟩ ⟨(by show _ ≤ 600000; omega), (by show _ ≤ 7302250; omega)⟩ dL_law_1200 (fun H locs hW hS => ?_)
                                                                              refine W.eq (g2 := F0 m 1203 ls [.int r400, .int r396]) rfl ?_
                                                                              refine z_br (lv_icmp_eq (tgt := 1208) hx hb dL_law_1203 (by decide)) h (fun h => ?_) (fun h => ?_)
                                                                              · refine W.widen (k := 50 + 2 * (j + 1)) (n := 4000 + 105 * (j + 1)) (by omega) (by omega) ?_
                                                                                exact B1208 st x1 x2 x3 _ _ _ h hW hS (lv_sub hl [0, 1, 2, 3] rfl)
                                                                              · refine lv_iconst (v := (nI 0)) hx hb dL_law_1206 (by decide) ?_
                                                                                exact absurd (Option.some.inj h) (by decide)
                                                                            · refine lv_tableOut (tgt := 1208) hx hb dL_law_33 (by have q0 := lv_neT (a := 0) k6 (by decide); have q1 := lv_neT (a := 1) k17 (by decide); have q2 := lv_neT (a := 2) k26 (by decide); have q3 := lv_neT (a := 3) k41 (by decide); have q4 := lv_neT (a := 4) k52 (by decide); have q5 := lv_neT (a := 5) k67 (by decide); have q6 := lv_neT (a := 6) k80 (by decide); have q7 := lv_neT (a := 7) k89 (by decide); have q8 := lv_neT (a := 8) k101 (by decide); have q9 := lv_neT (a := 9) k111 (by decide); have q10 := lv_neT (a := 10) k124 (by decide); have q11 := lv_neT (a := 11) k135 (by decide); have q12 := lv_neT (a := 12) k145 (by decide); have q13 := lv_neT (a := 13) k155 (by decide); have q14 := lv_neT (a := 14) k167 (by decide); have q15 := lv_neT (a := 15) k180 (by decide); have q16 := lv_neT (a := 16) k194 (by decide); have q17 := lv_neT (a := 17) k209 (by decide); have q18 := lv_neT (a := 18) k219 (by decide); have q19 := lv_neT (a := 19) k229 (by decide); have q20 := lv_neT (a := 20) k237 (by decide); have q21 := lv_neT (a := 21) k246 (by decide); have q22 := lv_neT (a := 22) k257 (by decide); have q23 := lv_neT (a := 23) k265 (by decide); have q24 := lv_neT (a := 24) k276 (by decide); have q25 := lv_neT (a := 25) k288 (by decide); have q26 := lv_neT (a := 26) k302 (by decide); have q27 := lv_neT (a := 27) k319 (by decide); have q28 := lv_neT (a := 28) k332 (by decide); have q29 := lv_neT (a := 29) k339 (by decide); have q30 := lv_neT (a := 30) k354 (by decide); have q31 := lv_neT (a := 31) k363 (by decide); have q32 := lv_neT (a := 32) k374 (by decide); have q33 := lv_neT (a := 33) k383 (by decide); have q34 := lv_neT (a := 34) k392 (by decide); omega) (by decide) ?_
                                                                              refine W.widen (k := 50 + 2 * (j + 1)) (n := 4000 + 105 * (j + 1)) (by omega) (by omega) ?_
                                                                              exact B1208 st x1 x2 x3 _ _ _ h hW hS (lv_sub hl [0, 1, 2, 3] rfl)
  refine z_new (ci := 11) hx hb hq hown hK hW hS rfl (zi zm0) (zi zm1) (zi zm2) df_X11 (Nat.le_of_ble_eq_true rfl) (Nat.le_of_ble_eq_true rfl) dL_law_0 (fun H hW hS => ?_)
  refine lv_dup hx hb dL_law_3 rfl ?_
  obtain ⟨st2, c1, h⟩ := zd_at h
  refine z_cI hx hb hq hml hown hK hW hS [] [.ref (G.2.2.2 + (st).1)] (c_X11_init l G (zNw st 21 0) ((st).1) c1) (zi zm6) (zi zm7) (zi zm2) (zi zm8) cal_X11_init rfl rfl hl.1 rfl (Nat.le_of_ble_eq_true rfl) ⟨(Nat.le_of_ble_eq_true rfl), (Nat.le_of_ble_eq_true rfl)⟩ ⟨(Nat.le_of_ble_eq_true rfl), (Nat.le_of_ble_eq_true rfl)⟩ dL_law_4 (fun H locs hW hS => ?_)
  refine W.eq (g2 := F0 m 7 ls [.ref (G.2.2.2 + (st).1)]) rfl ?_
  refine lv_astore_n (lv' := [(1, .ref (G.2.2.2 + (st).1)), (0, .ref b)]) hx hb dL_law_7 rfl hl (by decide) rfl (fun ls hl => ?_)
  refine z_new (ci := 12) hx hb hq hown hK hW hS rfl (zi zm3) (zi zm4) (zi zm5) df_X12 (Nat.le_of_ble_eq_true rfl) (Nat.le_of_ble_eq_true rfl) dL_law_8 (fun H hW hS => ?_)
  refine lv_dup hx hb dL_law_11 rfl ?_
  obtain ⟨st4, c3, h⟩ := zd_at h
  refine z_cI hx hb hq hml hown hK hW hS [] [.ref (G.2.2.2 + (st2).1)] (c_X12_init l G (zNw st2 22 0) ((st2).1) c3) (zi zm60) (zi zm61) (zi zm5) (zi zm62) cal_X12_init rfl rfl hl.1 rfl (Nat.le_of_ble_eq_true rfl) ⟨(Nat.le_of_ble_eq_true rfl), (Nat.le_of_ble_eq_true rfl)⟩ ⟨(Nat.le_of_ble_eq_true rfl), (Nat.le_of_ble_eq_true rfl)⟩ dL_law_12 (fun H locs hW hS => ?_)
  refine W.eq (g2 := F0 m 15 ls [.ref (G.2.2.2 + (st2).1)]) rfl ?_
  refine lv_astore_n (lv' := [(2, .ref (G.2.2.2 + (st2).1)), (1, .ref (G.2.2.2 + (st).1)), (0, .ref b)]) hx hb dL_law_15 rfl hl (by decide) rfl (fun ls hl => ?_)
  refine lv_iconst (v := (nI 0)) hx hb dL_law_16 (by decide) ?_
  refine lv_istore_n (lv' := [(3, .int ((nI 0))), (2, .ref (G.2.2.2 + (st2).1)), (1, .ref (G.2.2.2 + (st).1)), (0, .ref b)]) hx hb dL_law_17 rfl hl (by decide) rfl (fun ls hl => ?_)
  refine W.widen (k := 50 + 2 * 0) (n := 4000 + 105 * 0) (Nat.le_of_ble_eq_true rfl) (Nat.le_of_ble_eq_true rfl) ?_
  exact B18 n0 0 (by omega) st4 ((st).1) ((st2).1) (nI 0) _ _ _ h hW hS (lv_sub hl [3, 2, 1, 0] rfl)
