/-! what the functions of the methods are made of, and their rows -/
abbrev zin (i : Int32) (n : Nat) : Prop := ¬ (i < 0 ∨ n ≤ i.toNatClampNeg)
abbrev zB (x : Int32) : Prop := x = 0 ∨ x = 1
theorem zB_n {x : Int32} (h : zB x) : narrow .boolean (.int x) = .int x := by rcases h with rfl | rfl <;> rfl
theorem zB_f {x : Int32} (h : zB x) : fits .boolean (.int x) = true := by rcases h with rfl | rfl <;> rfl
theorem znC {x : Int32} (h : vp_nar .char x = x) : narrow .char (.int x) = .int x := by
  have e : narrow .char (.int x) = .int (vp_nar .char x) := rfl
  rw [e, h]
theorem znB {x : Int32} (h : vp_nar .byte x = x) : narrow .byte (.int x) = .int x := by
  have e : narrow .byte (.int x) = .int (vp_nar .byte x) := rfl
  rw [e, h]
def zl {α β : Type} (v : α) (f : α → β) : β := f v
def zb {α β : Type} (x : Option (zS × α)) (f : zS → α → Option β) : Option β := x.bind (fun u => f u.1 u.2)
def zo {β : Type} (x : Option Nat) (A : Option β) (B : Nat → Option β) : Option β := match x with
  | none => A
  | some a => B a
theorem zl_at {α β : Type} {v x : α} {f : α → β} {r : β} (e : x = v) (h : zl v f = r) : f x = r := by subst e; exact h
theorem zb_at {α β : Type} {x : Option (zS × α)} {f : zS → α → Option β} {r : β} (h : zb x f = some r) : ∃ s1 v1, x = some (s1, v1) ∧ f s1 v1 = some r := by
  obtain ⟨⟨a, b⟩, h1, h2⟩ := Option.bind_eq_some_iff.mp h
  exact ⟨a, b, h1, h2⟩
theorem zd_at {α β : Type} {x : Option α} {f : α → Option β} {r : β} (h : Option.bind x f = some r) : ∃ a, x = some a ∧ f a = some r := Option.bind_eq_some_iff.mp h
theorem zc_at {c : Prop} [Decidable c] {β : Type} {a : Option β} {r : β} (h : (if c then a else none) = some r) : c ∧ a = some r := by
  by_cases hc : c
  · rw [if_pos hc] at h; exact ⟨hc, h⟩
  · rw [if_neg hc] at h; cases h
theorem zi_at {c : Prop} [Decidable c] {β : Type} {A B r : β} (h : (if c then A else B) = r) : (c ∧ A = r) ∨ (¬ c ∧ B = r) := by
  by_cases hc : c
  · rw [if_pos hc] at h; exact Or.inl ⟨hc, h⟩
  · rw [if_neg hc] at h; exact Or.inr ⟨hc, h⟩
theorem z_br {c : Prop} [Decidable c] {β : Type} {A B r : β} {W0 W1 W2 : Prop} (row : (c → W1) → (¬ c → W2) → W0) (h : (if c then A else B) = r) (kt : A = r → W1) (kf : B = r → W2) : W0 :=
  row (fun hc => kt (by rw [if_pos hc] at h; exact h)) (fun hc => kf (by rw [if_neg hc] at h; exact h))
theorem z_brn {c : Prop} [Decidable c] {β : Type} {A B r : β} {W0 W1 W2 : Prop} (row : (¬ c → W1) → (c → W2) → W0) (h : (if c then B else A) = r) (kt : A = r → W1) (kf : B = r → W2) : W0 :=
  row (fun hc => kt (by rw [if_neg hc] at h; exact h)) (fun hc => kf (by rw [if_pos hc] at h; exact h))
theorem zR_ok {d d' maxL mc ms : Nat} (h : d' + 1 ≤ d) (h2 : maxL ≤ 41) : d' + 1 ≤ (zRm d mc ms).frames ∧ 8 + (maxL + 11) + 60 * d' ≤ (zRm d mc ms).locals := ⟨h, by show _ ≤ 60 * d; omega⟩
theorem zR_v {d d' mc ms : Nat} (h : d' + 1 ≤ d) : d' + 1 ≤ (zRm d mc ms).frames ∧ 60 + 60 * d' ≤ (zRm d mc ms).locals := ⟨h, by show _ ≤ 60 * d; omega⟩
theorem zR_le {R : Room} {d d' maxL : Nat} (hR : d + 1 ≤ R.frames ∧ 60 + 60 * d ≤ R.locals) (h : d' ≤ d) (h2 : maxL ≤ 41) : d' + 1 ≤ R.frames ∧ 8 + (maxL + 11) + 60 * d' ≤ R.locals := ⟨by omega, by omega⟩
abbrev zlOk (st : zS) (r : Option Nat) : Prop := (match r with | none => true | some b => zLs.contains (zTg st b)) = true
section ZR2
variable {p : Program} {l : Launch} {e : Env} {R : Room} {s : State} {m : MethodId} {args : Array Value} {below : List Frame} {meth : Method} {c : Code} {H : Heap} {locs : List Loc} {cells slots : Nat} {Q : State → Prop}
variable {cc : ByteArray} {pc : Nat} {ls : Array Slot} {rest : List Value} {G : zG} {st : zS} {a : Nat}
theorem z_ent {av : List Value} {n : Nat} (h : (lg_sl av).length ≤ n) (k : ∀ ls : Array Slot, lv_has ls n (lv_args 0 av) → W p l e R s m args below meth c H locs cells slots Q (F0 m 0 ls [])) : W p l e R s m args below meth c H locs cells slots Q (entryFrame m av.toArray n) := by
  have hl := lv_entry av (n := n) h
  rw [lg_entry_eq]
  exact k _ hl
theorem z_asX (hx : p.tables.exec = Jvm.exec) (hb : c.code = cc) (hK : zKn G s) (hW : zWd G st H) (hS : va_S (zA G) s.heap H locs) (ht : zTg st a = 3) {r : Option Nat} (hr : zlOk st r) {i : Int32} (hin : vp_in i (zLn st a)) (hdg : decode cc pc = .ok (.aastore, 1))
    (kk : ∀ (H1 : Heap) (locs1 : List Loc), zWd G (zPR st a i.toNatClampNeg r) H1 → va_S (zA G) s.heap H1 locs1 → W p l e R s m args below meth c H1 locs1 cells slots Q (F0 m (pc + 1) ls rest)) : W p l e R s m args below meth c H locs cells slots Q (F0 m pc ls (zrf G.2.2.2 r :: .int i :: .ref (G.2.2.2 + a) :: rest)) := by
  cases r with
  | none => exact z_asN hx hb hK hW hS ht hin hdg kk
  | some b => exact z_asL hx hb hK hW hS ht (by simpa [zlOk] using hr) hin hdg kk
theorem z_slen (hx : p.tables.exec = Jvm.exec) (hb : c.code = cc) (hK : zKn G s) (hS : va_S (zA G) s.heap H locs) {w : Nat} (hw : w < zsN) (hdg : decode cc pc = .ok (.arraylength, 1))
    (kk : W p l e R s m args below meth c H locs cells slots Q (F0 m (pc + 1) ls (.int (nI (zsl w)) :: rest))) : W p l e R s m args below meth c H locs cells slots Q (F0 m pc ls (.ref (G.2.2.1.2 w) :: rest)) := by
  obtain ⟨cell, h1, h2, h3, h4, h5, h6, h7⟩ := (hK.2.2.2.2.2.2.1 w hw).1.2.2.2.kept hS.2.1
  exact W.alen (n := nI (zsl w)) hx hb h1 h2 h5 rfl rfl hdg kk
theorem z_sald (hx : p.tables.exec = Jvm.exec) (hb : c.code = cc) (hK : zKn G s) (hS : va_S (zA G) s.heap H locs) {w : Nat} (hw : w < zsN) {i : Int32} (hin : vp_in i (zsl w)) (hdg : decode cc pc = .ok (.baload, 1))
    (kk : W p l e R s m args below meth c H locs cells slots Q (F0 m (pc + 1) ls (.int ((zsb w).getD i.toNatClampNeg 0) :: rest))) : W p l e R s m args below meth c H locs cells slots Q (F0 m pc ls (.int i :: .ref (G.2.2.1.2 w) :: rest)) := by
  obtain ⟨cell, h1, h2, h3, h4, h5, h6, h7⟩ := (hK.2.2.2.2.2.2.1 w hw).1.2.2.2.kept hS.2.1
  have hlt : i.toNatClampNeg < zsl w := Nat.not_le.mp fun q => hin (Or.inr q)
  exact W.bald (v := .int ((zsb w).getD i.toNatClampNeg 0)) hx hb h1 h2 h3 (fun q => q.elim (fun z => hin (Or.inl z)) (fun z => by omega)) (h6 _ hlt) rfl rfl hdg kk
variable {y : MethodName} {bytes : ByteArray} {maxL nL d mc ms n index : Nat} {ret : Option FieldType} {own : String} {v : Option Value} {st' : zS}
theorem z_cStr (hx : p.tables.exec = Jvm.exec) (hb : c.code = cc) (hq : ∀ w ∈ zT, w.before args s = true) (hml : c.maxLocals = nL) (hown : s.vm.findClass own = some m.cls) (hK : zKn G s) (hW : zWd G st H) (hS : va_S (zA G) s.heap H locs) {w : Nat} (hw : w < zsN) (As : List Value) (rest : List Value)
    (hM : zMet l G y bytes maxL ret d mc ms (.ref (G.2.2.1.1 w) :: As) st v st') (w1 : Cond.methodLink own index y ∈ zT) (w2 : Cond.instanceMethod y ∈ zT) (w3 : Cond.selects "java/lang/String" y y ∈ zT) (w4 : Cond.initialized "java/lang/String" ∈ zT) (w5 : Cond.code y bytes maxL ret ∈ zT) (hcal : zCal y n) (hyc : y.cls = "java/lang/String")
    (hn : As.length = n) (hsz : ls.size = nL) {st0 : List Value} (hst : st0 = As.reverse ++ .ref (G.2.2.1.1 w) :: rest) (hcat : (rest.map fun v => v.category).sum ≤ 8) (hR : d + 1 ≤ R.frames ∧ 8 + (maxL + 11) + 60 * d ≤ R.locals) (hf : cells + mc ≤ R.cells ∧ slots + ms ≤ R.slots) (hdg : decode cc pc = .ok (.invokevirtual index, 3))
    (kk : ∀ (H1 : Heap) (locs1 : List Loc), zWd G st' H1 → va_S (zA G) s.heap H1 locs1 → W p l e R s m args below meth c H1 locs1 (cells + mc) (slots + ms) Q (F0 m (pc + 3) ls (v.toList ++ rest))) : W p l e R s m args below meth c H locs cells slots Q (F0 m pc ls st0) := by
  obtain ⟨cell, h1, h2, h3, h4⟩ := (hK.2.2.2.2.2.2.1 w hw).1.1.kept hS.2.1
  refine z_call0 (rest := rest) (va_runV (As := As) (n := n) (C := "java/lang/String") (Ts := zT) (own := own) ⟨hx, hb, hml, hown, hq⟩ hM (cwV n hq (zgG (by
    intro w hw
    simp only [List.mem_cons, List.not_mem_nil, or_false] at hw
    rcases hw with rfl | rfl | rfl | rfl <;> assumption) w5) rfl rfl rfl ⟨hyc, hcal.1.1, hcal.1.2, hcal.2⟩ hR) ⟨z_blind, ⟨cell, h1, h2, h3⟩, fun U hU hw => ⟨rfl, by rw [hU]; exact hW, hK.go hS hU hw⟩⟩ rfl hn hsz hst (lv_room hcat) hdg hf) hS kk
end ZR2
/-! the JDK's own check of an index: what it throws with isn't looked at -/
def f_J0_checkIndex_df160 (a0 a1 : Int32) : Option Unit := if a0 < 0 then none else if a0 < a1 then some () else none
theorem c_J3_checkIndex (l : Launch) (G : zG) (st : zS) (a0 a1 : Int32) (q : Value) (hv : q = .null ∨ ∃ t, q = .ref t) (h0 : ¬ a0 < 0) (h1 : a0 < a1) : zMet l G yJ3_checkIndex_8e157 cJ3_checkIndex_8e157 3 (some .int) 1 0 0 [.int a0, .int a1, q] st (some (.int a0)) st := by
  refine zMet_of (by decide +kernel) ?_
  intro p e s m args below meth c X
  obtain ⟨hx, hb, hr, hml, hown, hq, hlk, hK, -, hin, hW, hS⟩ := X
  have hlen : (lg_sl [.int a0, .int a1, q]).length ≤ 3 := by rcases hv with rfl | ⟨t, rfl⟩ <;> exact Nat.le_of_ble_eq_true rfl
  refine z_ent hlen (fun ls hl => ?_)
  have hl : lv_has ls 3 [(0, .int a0), (1, .int a1)] := lv_sub hl [0, 1] rfl
  refine lv_iload_n hx hb dJ3_checkIndex_8e157_0 rfl (lv_at hl 0 rfl) ?_
  refine lv_if_lt (tgt := 9) hx hb dJ3_checkIndex_8e157_1 (by decide) (fun k => absurd k h0) (fun _ => ?_)
  refine lv_iload_n hx hb dJ3_checkIndex_8e157_4 rfl (lv_at hl 0 rfl) ?_
  refine lv_iload_n hx hb dJ3_checkIndex_8e157_5 rfl (lv_at hl 1 rfl) ?_
  refine lv_icmp_lt (tgt := 16) hx hb dJ3_checkIndex_8e157_6 (by decide) (fun _ => ?_) (fun k => absurd h1 k)
  refine lv_iload_n hx hb dJ3_checkIndex_8e157_16 rfl (lv_at hl 0 rfl) ?_
  exact z_ri hx hb hr hlk hW hS (Nat.le_of_ble_eq_true rfl) (Nat.le_of_ble_eq_true rfl) dJ3_checkIndex_8e157_17
theorem cal_J3_checkIndex : zCal yJ3_checkIndex_8e157 3 := by unfold zCal; decide +kernel
theorem c_J0_checkIndex_df160 (l : Launch) (G : zG) (st : zS) (a0 a1 : Int32) (h : f_J0_checkIndex_df160 a0 a1 = some ()) : zMet l G yJ0_checkIndex_df160 cJ0_checkIndex_df160 2 none 2 0 0 [.int a0, .int a1] st none st := by
  have h0 : ¬ a0 < 0 := fun k => by unfold f_J0_checkIndex_df160 at h; rw [if_pos k] at h; cases h
  have h1 : a0 < a1 := Classical.byContradiction fun k => by unfold f_J0_checkIndex_df160 at h; rw [if_neg h0, if_neg k] at h; cases h
  refine zMet_of (by decide +kernel) ?_
  intro p e s m args below meth c X
  obtain ⟨hx, hb, hr, hml, hown, hq, hlk, hK, -, hin, hW, hS⟩ := X
  have hown : s.vm.findClass RJ0 = some m.cls := hown
  refine z_ent (by exact Nat.le_of_ble_eq_true rfl) (fun ls hl => ?_)
  have hl : lv_has ls 2 [(0, .int a0), (1, .int a1)] := hl
  refine lv_iload_n hx hb dJ0_checkIndex_df160_0 rfl (lv_at hl 0 rfl) ?_
  refine lv_iload_n hx hb dJ0_checkIndex_df160_1 rfl (lv_at hl 1 rfl) ?_
  have key : ∀ q : Value, (q = .null ∨ ∃ t, q = .ref t) → va_Z "jdk/internal/util/Preconditions" "SIOOBE_FORMATTER" "Ljava/util/function/BiFunction;" q (zA G) s s.heap → W p l e (zRm 2 0 0) s m args below meth c s.heap [] 0 0 (MQ below (zQ G none st) args s 0 0 (zA G)) (F0 m 2 ls [.int a1, .int a0]) := by
    intro q hv hZ
    refine va_gets hx hb hZ hS hown (hq _ (zi zm151)) (fun _ h => h) dJ0_checkIndex_df160_2 ?_
    refine z_cS hx hb hq hml hown hK hW hS [.int a0, .int a1, q] [] (c_J3_checkIndex l G st a0 a1 q hv h0 h1) (zi zm152) (zi zm153) (zi zm154) (zi zm155) cal_J3_checkIndex rfl hl.1 rfl (Nat.le_of_ble_eq_true rfl) (zR_ok (by omega) (by decide)) ⟨(Nat.le_of_ble_eq_true rfl), (Nat.le_of_ble_eq_true rfl)⟩ dJ0_checkIndex_df160_5 (fun H locs hW hS => ?_)
    refine W.eq (g2 := F0 m 8 ls [.int a0]) rfl ?_
    refine lv_pop hx hb dJ0_checkIndex_df160_8 rfl ?_
    exact z_rv hx hb hr hlk hW hS (Nat.le_of_ble_eq_true rfl) (Nat.le_of_ble_eq_true rfl) dJ0_checkIndex_df160_9
  rcases hK.2.2.2.2.2.2.2.2 with h | ⟨t, h⟩
  · exact key .null (Or.inl rfl) h
  · exact key (.ref t) (Or.inr ⟨t, rfl⟩) h
