def zrFm (k : Nat) : Bool := k == 1 || k == 2 || k == 9 || k == 10 || k == 11 || k == 17 || k == 19
def zNM : List (String × Nat × MethodName × String) := [(RX11, 11, yX2_init, "TwoPens"), (RX2, 19, yX6_init, "TwoPens"), (RX11, 23, yX8_init, "TwoPens"), (RX11, 48, yX6_init, "TwoPens")]
def zCa : List (String × String) := [(RX0, RX4), (RX1, RX0), (RX1, RX4), (RX3, RX4), (RX7, RX3), (RX7, RX4), (RX9, RX4), (RX9, RX10), (RX10, RX4), ("[I", "java/lang/Cloneable")]
def zNc : List (String × String) := [(RX0, RX1), (RX0, RX3), (RX0, RX7), (RX0, RX9), (RX0, RX10), (RX1, RX3), (RX1, RX7), (RX1, RX9), (RX1, RX10), (RX3, RX0), (RX3, RX1), (RX3, RX7), (RX3, RX9), (RX3, RX10), (RX4, RX0), (RX4, RX1), (RX4, RX3), (RX4, RX7), (RX4, RX9), (RX4, RX10), (RX7, RX0), (RX7, RX1), (RX7, RX9), (RX7, RX10), (RX9, RX0), (RX9, RX1), (RX9, RX3), (RX9, RX7), (RX10, RX0), (RX10, RX1), (RX10, RX3), (RX10, RX7), (RX10, RX9)]
def zsN : Nat := 12
def zsr (i : Nat) : String × Nat × String := match i with
  | 0 => (RX6, 43, "want ")
  | 1 => (RX6, 49, "look ")
  | 2 => (RX6, 51, "count ")
  | 3 => (RX6, 77, "sees ")
  | 4 => (RX6, 108, "wkvlmp")
  | 5 => (RX6, 114, "<=>")
  | 6 => (RX12, 102, "want ")
  | 7 => (RX12, 108, "look ")
  | 8 => (RX12, 110, "count ")
  | 9 => (RX12, 112, "sees ")
  | 10 => (RX12, 84, "wkvlmp")
  | _ => (RX12, 90, "<=>")
def zsb (i : Nat) : List Int32 := match i with
  | 0 => [119, 97, 110, 116, 32]
  | 1 => [108, 111, 111, 107, 32]
  | 2 => [99, 111, 117, 110, 116, 32]
  | 3 => [115, 101, 101, 115, 32]
  | 4 => [119, 107, 118, 108, 109, 112]
  | 5 => [60, 61, 62]
  | 6 => [119, 97, 110, 116, 32]
  | 7 => [108, 111, 111, 107, 32]
  | 8 => [99, 111, 117, 110, 116, 32]
  | 9 => [115, 101, 101, 115, 32]
  | 10 => [119, 107, 118, 108, 109, 112]
  | _ => [60, 61, 62]
def zsl (i : Nat) : Nat := (zsb i).length
/-! THE SMALL WORLD: cells numbered from the law's own start on; a cell has a tag and a length, its ints and its references. tag 0: none; 1 int[], 2 boolean[], 3 Line[]; 10 + c: an object of the class c of zcl. -/
def zXt : List Cond := [Cond.superclass "TwoPens$Told" "TwoPens$Lent", Cond.methodLink "TwoPens$Copied" 17 ⟨"TwoPens$Column", "writes", "(ILTwoPens$Trace;)I"⟩, Cond.sameMethod "TwoPens$Column" "TwoPens$Line" "writes" "(ILTwoPens$Trace;)I", Cond.methodLink "TwoPens$Told" 41 ⟨"TwoPens$Lent", "shows", "(ILTwoPens$Trace;)I"⟩, Cond.sameMethod "TwoPens$Lent" "TwoPens$Line" "shows" "(ILTwoPens$Trace;)I", Cond.methodLink "TwoPens$Triple" 26 ⟨"TwoPens$Twin", "tells", "(ILTwoPens$Trace;)I"⟩, Cond.sameMethod "TwoPens$Twin" "TwoPens$Line" "tells" "(ILTwoPens$Trace;)I"]
theorem zxb0 : Cond.superclass "TwoPens$Told" "TwoPens$Lent" ∈ lw_tbl := tbl_2 _ (List.mem_of_getElem? (i := 239) (by decide +kernel))
theorem zxb1 : Cond.methodLink "TwoPens$Copied" 17 ⟨"TwoPens$Column", "writes", "(ILTwoPens$Trace;)I"⟩ ∈ lw_tbl := tbl_4 _ (List.mem_of_getElem? (i := 88) (by decide +kernel))
theorem zxb2 : Cond.sameMethod "TwoPens$Column" "TwoPens$Line" "writes" "(ILTwoPens$Trace;)I" ∈ lw_tbl := tbl_4 _ (List.mem_of_getElem? (i := 89) (by decide +kernel))
theorem zxb3 : Cond.methodLink "TwoPens$Told" 41 ⟨"TwoPens$Lent", "shows", "(ILTwoPens$Trace;)I"⟩ ∈ lw_tbl := tbl_4 _ (List.mem_of_getElem? (i := 116) (by decide +kernel))
theorem zxb4 : Cond.sameMethod "TwoPens$Lent" "TwoPens$Line" "shows" "(ILTwoPens$Trace;)I" ∈ lw_tbl := tbl_4 _ (List.mem_of_getElem? (i := 117) (by decide +kernel))
theorem zxb5 : Cond.methodLink "TwoPens$Triple" 26 ⟨"TwoPens$Twin", "tells", "(ILTwoPens$Trace;)I"⟩ ∈ lw_tbl := tbl_4 _ (List.mem_of_getElem? (i := 139) (by decide +kernel))
theorem zxb6 : Cond.sameMethod "TwoPens$Twin" "TwoPens$Line" "tells" "(ILTwoPens$Trace;)I" ∈ lw_tbl := tbl_4 _ (List.mem_of_getElem? (i := 140) (by decide +kernel))
theorem zXt_in : ∀ w ∈ zXt, w ∈ lw_tbl := List.forall_mem_cons.mpr ⟨zxb0, List.forall_mem_cons.mpr ⟨zxb1, List.forall_mem_cons.mpr ⟨zxb2, List.forall_mem_cons.mpr ⟨zxb3, List.forall_mem_cons.mpr ⟨zxb4, List.forall_mem_cons.mpr ⟨zxb5, List.forall_mem_cons.mpr ⟨zxb6, fun _ h => absurd h List.not_mem_nil⟩⟩⟩⟩⟩⟩⟩
theorem zXt_ok : zXt.all goodWord = true := by decide +kernel
def zT : List Cond := zXt ++ wsL_law
theorem zi {w : Cond} (h : w ∈ wsL_law) : w ∈ zT := List.mem_append_right _ h
theorem zx0 : Cond.superclass "TwoPens$Told" "TwoPens$Lent" ∈ zT := List.mem_append_left _ (List.mem_of_getElem? (i := 0) (by decide +kernel))
theorem zx1 : Cond.methodLink "TwoPens$Copied" 17 ⟨"TwoPens$Column", "writes", "(ILTwoPens$Trace;)I"⟩ ∈ zT := List.mem_append_left _ (List.mem_of_getElem? (i := 1) (by decide +kernel))
theorem zx2 : Cond.sameMethod "TwoPens$Column" "TwoPens$Line" "writes" "(ILTwoPens$Trace;)I" ∈ zT := List.mem_append_left _ (List.mem_of_getElem? (i := 2) (by decide +kernel))
theorem zx3 : Cond.methodLink "TwoPens$Told" 41 ⟨"TwoPens$Lent", "shows", "(ILTwoPens$Trace;)I"⟩ ∈ zT := List.mem_append_left _ (List.mem_of_getElem? (i := 3) (by decide +kernel))
theorem zx4 : Cond.sameMethod "TwoPens$Lent" "TwoPens$Line" "shows" "(ILTwoPens$Trace;)I" ∈ zT := List.mem_append_left _ (List.mem_of_getElem? (i := 4) (by decide +kernel))
theorem zx5 : Cond.methodLink "TwoPens$Triple" 26 ⟨"TwoPens$Twin", "tells", "(ILTwoPens$Trace;)I"⟩ ∈ zT := List.mem_append_left _ (List.mem_of_getElem? (i := 5) (by decide +kernel))
theorem zx6 : Cond.sameMethod "TwoPens$Twin" "TwoPens$Line" "tells" "(ILTwoPens$Trace;)I" ∈ zT := List.mem_append_left _ (List.mem_of_getElem? (i := 6) (by decide +kernel))
theorem zT_good : ∀ w ∈ zT, (w.onTables && w.keeps) = true ∨ ∃ ty, w = .arrayClass ty := fun w h => (List.mem_append.mp h).elim (fun h => good_of_word (List.all_eq_true.mp zXt_ok w h)) (fun h => (wsL_law_g w h).2)
theorem zT_tbl : ∀ w ∈ zT, w ∈ lw_tbl := fun w h => (List.mem_append.mp h).elim (zXt_in w) (wsL_law_in w)
def zcl : List vw_C := [(RX0, TX0, 4), (RX1, TX1, 4), (RX2, TX2, 13), (RX3, TX3, 4), (RX4, TX4, 4), (RX5, TX5, 2), (RX6, TX6, 5), (RX7, TX7, 5), (RX8, TX8, 2), (RX9, TX9, 4), (RX10, TX10, 4), (RX11, TX11, 4), (RX12, TX12, 24)]
/-- is the field k of the class ci a reference -/
def zrF (ci k : Nat) : Bool :=
  if ci = 2 then (k == 0 || k == 2 || k == 4 || k == 5 || k == 8 || k == 9 || k == 10 || k == 11 || k == 12)
  else if ci = 5 then k == 0
  else if ci = 6 then k == 3
  else if ci = 7 then k == 4
  else if ci = 8 then k == 0
  else if ci = 11 then (k == 0 || k == 1 || k == 3)
  else if ci = 12 then zrFm k
  else false
abbrev zS : Type := Nat × (Nat → Nat × Nat) × (Nat → Nat → Int32) × (Nat → Nat → Option Nat)
def zM (s : zS) (k j : Nat) : Int32 := s.2.2.1 k j
def zR (s : zS) (k j : Nat) : Option Nat := s.2.2.2 k j
def zTg (s : zS) (k : Nat) : Nat := (s.2.1 k).1
def zLn (s : zS) (k : Nat) : Nat := (s.2.1 k).2
def zPM (s : zS) (k j : Nat) (x : Int32) : zS := (s.1, s.2.1, fun a b => if a = k ∧ b = j then x else s.2.2.1 a b, s.2.2.2)
def zPR (s : zS) (k j : Nat) (x : Option Nat) : zS := (s.1, s.2.1, s.2.2.1, fun a b => if a = k ∧ b = j then x else s.2.2.2 a b)
def zNw (s : zS) (t n : Nat) : zS := (s.1 + 1, fun a => if a = s.1 then (t, n) else s.2.1 a, fun a b => if a = s.1 then 0 else s.2.2.1 a b, fun a b => if a = s.1 then none else s.2.2.2 a b)
/-- a new array that holds what the array k holds -/
def zCl (s : zS) (k : Nat) : zS := (s.1 + 1, fun a => if a = s.1 then s.2.1 k else s.2.1 a, fun a b => if a = s.1 then s.2.2.1 k b else s.2.2.1 a b, fun a b => if a = s.1 then none else s.2.2.2 a b)
abbrev zG : Type := va_G × (ClassId × ClassId × ClassId) × ((Nat → Nat) × (Nat → Nat)) × Nat
def zrf (B : Nat) (r : Option Nat) : Value := match r with
  | none => .null
  | some a => .ref (B + a)
def zV (B : Nat) (s : zS) (ci k : Nat) : Nat → Value := fun j => if zrF ci j = true then zrf B (zR s k j) else .int (zM s k j)
def zAt (G : zG) (s : zS) (H : Heap) (k : Nat) : Prop :=
  (zTg s k = 1 → H[G.2.2.2 + k]? = some (arrV G.2.1.1 (zLn s k) (fun j => .int (zM s k j)))) ∧
  (zTg s k = 2 → H[G.2.2.2 + k]? = some (arrV G.2.1.2.1 (zLn s k) (fun j => .int (zM s k j)))) ∧
  (zTg s k = 3 → H[G.2.2.2 + k]? = some (arrV G.2.1.2.2 (zLn s k) (fun j => zrf G.2.2.2 (zR s k j)))) ∧
  ∀ (ci : Nat) (r : vw_C), zTg s k = 10 + ci → zcl[ci]? = some r → t_OB (G.2.2.2 + k) (G.1.1 ci) r.2.2 (G.1.2 ci) H (zV G.2.2.2 s ci k)
def zWd (G : zG) (s : zS) (H : Heap) : Prop := H.size = G.2.2.2 + s.1 ∧ ∀ k, zAt G s H k
abbrev zA (G : zG) : Nat → Prop := fun q => G.2.2.2 ≤ q
theorem zAt.of {G : zG} {s s' : zS} {H H' : Heap} {k : Nat} (h : zAt G s H k) (ht : s'.2.1 k = s.2.1 k) (hm : ∀ j, zM s' k j = zM s k j) (hr : ∀ j, zR s' k j = zR s k j) (hq : H'[G.2.2.2 + k]? = H[G.2.2.2 + k]?) : zAt G s' H' k := by
  have e1 : zTg s' k = zTg s k := by unfold zTg; rw [ht]
  have e2 : zLn s' k = zLn s k := by unfold zLn; rw [ht]
  have e3 : (fun j => Value.int (zM s' k j)) = (fun j => Value.int (zM s k j)) := funext fun j => by rw [hm]
  have e4 : (fun j => zrf G.2.2.2 (zR s' k j)) = (fun j => zrf G.2.2.2 (zR s k j)) := funext fun j => by rw [hr]
  have e5 : ∀ ci, zV G.2.2.2 s' ci k = zV G.2.2.2 s ci k := fun ci => funext fun j => by unfold zV; rw [hr, hm]
  refine ⟨fun h1 => ?_, fun h1 => ?_, fun h1 => ?_, fun ci r h1 h2 => ?_⟩
  · rw [hq, e2, e3]; exact h.1 (e1 ▸ h1)
  · rw [hq, e2, e3]; exact h.2.1 (e1 ▸ h1)
  · rw [hq, e2, e4]; exact h.2.2.1 (e1 ▸ h1)
  · rw [e5]; exact (h.2.2.2 ci r (e1 ▸ h1) h2).kept hq
/-- one cell is written: the others stay -/
theorem zWd.set {G : zG} {s s' : zS} {H H' : Heap} {a : Nat} (h : zWd G s H) (h1 : s'.1 = s.1) (h2 : s'.2.1 = s.2.1) (hm : ∀ k, k ≠ a → ∀ j, zM s' k j = zM s k j) (hr : ∀ k, k ≠ a → ∀ j, zR s' k j = zR s k j) (hz : H'.size = H.size) (hq : ∀ q, q ≠ G.2.2.2 + a → H'[q]? = H[q]?) (ha : zAt G s' H' a) : zWd G s' H' := by
  refine ⟨by rw [hz, h.1, h1], fun k => ?_⟩
  by_cases hk : k = a
  · subst hk; exact ha
  · exact (h.2 k).of (by rw [h2]) (hm k hk) (hr k hk) (hq _ (by omega))
/-- a cell comes -/
theorem zWd.new {G : zG} {s s' : zS} {H H' : Heap} (h : zWd G s H) (h1 : s'.1 = s.1 + 1) (ht : ∀ k, k ≠ s.1 → s'.2.1 k = s.2.1 k) (hm : ∀ k, k ≠ s.1 → ∀ j, zM s' k j = zM s k j) (hr : ∀ k, k ≠ s.1 → ∀ j, zR s' k j = zR s k j) (hz : H'.size = H.size + 1) (hq : ∀ q, q < H.size → H'[q]? = H[q]?) (ha : zAt G s' H' s.1) : zWd G s' H' := by
  refine ⟨by rw [hz, h.1, h1]; omega, fun k => ?_⟩
  by_cases hk : k = s.1
  · subst hk; exact ha
  · refine (h.2 k).of (ht k hk) (hm k hk) (hr k hk) ?_
    have h3 := h.1
    by_cases hl : G.2.2.2 + k < H.size
    · exact hq _ hl
    · rw [Array.getElem?_eq_none (by omega), Array.getElem?_eq_none (by omega)]
theorem zM_PM (s : zS) (k j : Nat) (x : Int32) (a b : Nat) : zM (zPM s k j x) a b = if a = k ∧ b = j then x else zM s a b := rfl
theorem zR_PM (s : zS) (k j : Nat) (x : Int32) (a b : Nat) : zR (zPM s k j x) a b = zR s a b := rfl
theorem zTg_PM (s : zS) (k j : Nat) (x : Int32) (a : Nat) : zTg (zPM s k j x) a = zTg s a := rfl
theorem zLn_PM (s : zS) (k j : Nat) (x : Int32) (a : Nat) : zLn (zPM s k j x) a = zLn s a := rfl
theorem z1_PM (s : zS) (k j : Nat) (x : Int32) : (zPM s k j x).1 = s.1 := rfl
theorem zM_PR (s : zS) (k j : Nat) (x : Option Nat) (a b : Nat) : zM (zPR s k j x) a b = zM s a b := rfl
theorem zR_PR (s : zS) (k j : Nat) (x : Option Nat) (a b : Nat) : zR (zPR s k j x) a b = if a = k ∧ b = j then x else zR s a b := rfl
theorem zTg_PR (s : zS) (k j : Nat) (x : Option Nat) (a : Nat) : zTg (zPR s k j x) a = zTg s a := rfl
theorem zLn_PR (s : zS) (k j : Nat) (x : Option Nat) (a : Nat) : zLn (zPR s k j x) a = zLn s a := rfl
theorem z1_PR (s : zS) (k j : Nat) (x : Option Nat) : (zPR s k j x).1 = s.1 := rfl
theorem zM_Nw (s : zS) (t n a b : Nat) : zM (zNw s t n) a b = if a = s.1 then 0 else zM s a b := rfl
theorem zR_Nw (s : zS) (t n a b : Nat) : zR (zNw s t n) a b = if a = s.1 then none else zR s a b := rfl
theorem zTg_Nw (s : zS) (t n a : Nat) : zTg (zNw s t n) a = if a = s.1 then t else zTg s a := by unfold zTg zNw; split <;> simp_all
theorem zLn_Nw (s : zS) (t n a : Nat) : zLn (zNw s t n) a = if a = s.1 then n else zLn s a := by unfold zLn zNw; split <;> simp_all
theorem z1_Nw (s : zS) (t n : Nat) : (zNw s t n).1 = s.1 + 1 := rfl
theorem zM_Cl (s : zS) (k a b : Nat) : zM (zCl s k) a b = if a = s.1 then zM s k b else zM s a b := rfl
theorem zR_Cl (s : zS) (k a b : Nat) : zR (zCl s k) a b = if a = s.1 then none else zR s a b := rfl
theorem zTg_Cl (s : zS) (k a : Nat) : zTg (zCl s k) a = if a = s.1 then zTg s k else zTg s a := by unfold zTg zCl; split <;> simp_all
theorem zLn_Cl (s : zS) (k a : Nat) : zLn (zCl s k) a = if a = s.1 then zLn s k else zLn s a := by unfold zLn zCl; split <;> simp_all
theorem z1_Cl (s : zS) (k : Nat) : (zCl s k).1 = s.1 + 1 := rfl
theorem zcl_in : ∀ (ci : Nat) (r : vw_C), zcl[ci]? = some r → ∀ w ∈ u_ws r.1 r.2.1 r.2.2, w ∈ zT := by
  intro ci r h
  match ci, h with
  | 0, h => cases h; exact fun w h => zi (inlX0 w h)
  | 1, h => cases h; exact fun w h => zi (inlX1 w h)
  | 2, h => cases h; exact fun w h => zi (inlX2 w h)
  | 3, h => cases h; exact fun w h => zi (inlX3 w h)
  | 4, h => cases h; exact fun w h => zi (inlX4 w h)
  | 5, h => cases h; exact fun w h => zi (inlX5 w h)
  | 6, h => cases h; exact fun w h => zi (inlX6 w h)
  | 7, h => cases h; exact fun w h => zi (inlX7 w h)
  | 8, h => cases h; exact fun w h => zi (inlX8 w h)
  | 9, h => cases h; exact fun w h => zi (inlX9 w h)
  | 10, h => cases h; exact fun w h => zi (inlX10 w h)
  | 11, h => cases h; exact fun w h => zi (inlX11 w h)
  | 12, h => cases h; exact fun w h => zi (inlX12 w h)
  | k + 13, h => simp [zcl] at h
theorem zcl_ty : ∀ (ci : Nat) (r : vw_C), zcl[ci]? = some r → (∃ ty : Nat → FieldType, ∀ k, k < r.2.2 → parseFieldDescriptor (r.2.1 k).2.2.1 = some (ty k)) ∧ ∀ a, a < r.2.2 → ∀ b, b < r.2.2 → a ≠ b → (r.2.1 a).2.1 ≠ (r.2.1 b).2.1 := by
  intro ci r h
  match ci, h with
  | 0, h => cases h; exact ⟨⟨_, tyX0_ok⟩, nmX0⟩
  | 1, h => cases h; exact ⟨⟨_, tyX1_ok⟩, nmX1⟩
  | 2, h => cases h; exact ⟨⟨_, tyX2_ok⟩, nmX2⟩
  | 3, h => cases h; exact ⟨⟨_, tyX3_ok⟩, nmX3⟩
  | 4, h => cases h; exact ⟨⟨_, tyX4_ok⟩, nmX4⟩
  | 5, h => cases h; exact ⟨⟨_, tyX5_ok⟩, nmX5⟩
  | 6, h => cases h; exact ⟨⟨_, tyX6_ok⟩, nmX6⟩
  | 7, h => cases h; exact ⟨⟨_, tyX7_ok⟩, nmX7⟩
  | 8, h => cases h; exact ⟨⟨_, tyX8_ok⟩, nmX8⟩
  | 9, h => cases h; exact ⟨⟨_, tyX9_ok⟩, nmX9⟩
  | 10, h => cases h; exact ⟨⟨_, tyX10_ok⟩, nmX10⟩
  | 11, h => cases h; exact ⟨⟨_, tyX11_ok⟩, nmX11⟩
  | 12, h => cases h; exact ⟨⟨_, tyX12_ok⟩, nmX12⟩
  | k + 13, h => simp [zcl] at h
def zfc (cs : List Nat) (k : Nat) (O nm ds : String) (rf : Bool) : Bool := cs.all (fun t => match zcl[t - 10]? with
  | some r => decide (10 ≤ t) && decide (k < r.2.2) && decide ((r.2.1 k).1 = O) && decide ((r.2.1 k).2.1 = nm) && decide ((r.2.1 k).2.2.1 = ds) && (zrF (t - 10) k == rf)
  | none => false)
theorem zfc_spec {cs : List Nat} {k t : Nat} {O nm ds : String} {rf : Bool} (h : zfc cs k O nm ds rf = true) (ht : t ∈ cs) : ∃ (ci : Nat) (r : vw_C), t = 10 + ci ∧ zcl[ci]? = some r ∧ k < r.2.2 ∧ (r.2.1 k).1 = O ∧ (r.2.1 k).2.1 = nm ∧ (r.2.1 k).2.2.1 = ds ∧ zrF ci k = rf := by
  have h1 := List.all_eq_true.mp h t ht
  cases hz : zcl[t - 10]? with
  | none => rw [hz] at h1; cases h1
  | some r =>
    rw [hz] at h1
    simp only [Bool.and_eq_true, decide_eq_true_eq, beq_iff_eq] at h1
    obtain ⟨⟨⟨⟨⟨q1, q2⟩, q3⟩, q4⟩, q5⟩, q6⟩ := h1
    exact ⟨t - 10, r, by omega, hz, q2, q3, q4, q5, q6⟩
/-- the field that an instruction of the class own names by its index, on objects of the tags cs: their field k -/
def zFS (own : String) (idx : Nat) (cs : List Nat) (k : Nat) (rf : Bool) : Prop := ∃ ref O nm ds, Cond.fieldLink own idx ref nm ds ∈ zT ∧ (ref = O ∨ Cond.sameField ref O nm ds ∈ zT) ∧ zfc cs k O nm ds rf = true
def zfp (cs : List Nat) (k : Nat) (fin : Bool) : Bool := cs.all (fun t => match zcl[t - 10]? with
  | some r => ((r.2.1 k).2.2.2 == fin)
  | none => false)
def zFP (own : String) (idx : Nat) (cs : List Nat) (k : Nat) (rf fin : Bool) (ty : FieldType) : Prop := ∃ ref O nm ds, Cond.fieldLink own idx ref nm ds ∈ zT ∧ (ref = O ∨ Cond.sameField ref O nm ds ∈ zT) ∧ zfc cs k O nm ds rf = true ∧ zfp cs k fin = true ∧ parseFieldDescriptor ds = some ty ∧ (fin = true → O = own)
theorem zfp_spec {cs : List Nat} {k ci : Nat} {fin : Bool} {r : vw_C} (h : zfp cs k fin = true) (ht : 10 + ci ∈ cs) (hr : zcl[ci]? = some r) : (r.2.1 k).2.2.2 = fin := by
  have h1 := List.all_eq_true.mp h _ ht
  rw [show 10 + ci - 10 = ci by omega, hr] at h1
  simpa using h1
theorem z_same {ref O nm ds : String} {args : Array Value} {s : State} (hq : ∀ w ∈ zT, w.before args s = true) (h : ref = O ∨ Cond.sameField ref O nm ds ∈ zT) (x : ClassId × Class × Nat × Field) (hx : s.fieldFound? O nm ds = some x) : s.fieldFound? ref nm ds = some x := by
  rcases h with rfl | h
  · exact hx
  · exact u_same (hq _ h) x hx
def zStr1 (a v n : Nat) (byt : List Int32) (A : Nat → Prop) (U : State) (H : Heap) : Prop := va_O "java/lang/String" a A U H ∧ va_OF "java/lang/String" "coder" "B" (.int 0) a A U H ∧ va_OF "java/lang/String" "value" "[B" (.ref v) a A U H ∧ va_T .byte v n (fun j => .int (byt.getD j 0)) A U H
def zKn (G : zG) (U : State) : Prop :=
  va_K G.1 zcl [(G.2.1.1, .int), (G.2.1.2.1, .boolean), (G.2.1.2.2, .object RX4)] U ∧ G.2.2.2 ≤ U.heap.size ∧
  (∀ q ∈ zNM, va_Nw (.methodLinkNest q.1 q.2.1 q.2.2.1 q.2.2.2) U) ∧ (∀ q ∈ zCa, va_Nw (.castable q.1 q.2) U) ∧ (∀ q ∈ zNc, va_Nc q.1 q.2 U) ∧ va_AO RX4 U ∧
  (∀ i, i < zsN → zStr1 (G.2.2.1.1 i) (G.2.2.1.2 i) (zsl i) (zsb i) (zA G) U U.heap ∧ vk_R (zsr i).1 (zsr i).2.1 (zsr i).2.2 (G.2.2.1.1 i) U) ∧
  va_Z "java/lang/String" "COMPACT_STRINGS" "Z" (.int 1) (zA G) U U.heap ∧ va_Zq "jdk/internal/util/Preconditions" "SIOOBE_FORMATTER" "Ljava/util/function/BiFunction;" (zA G) U U.heap
theorem zStr1.kept {a v n : Nat} {byt : List Int32} {A : Nat → Prop} {U : State} {H H1 : Heap} (h : zStr1 a v n byt A U H) (hq : ∀ a : Nat, a < H.size → ¬ A a → H1[a]? = H[a]?) : zStr1 a v n byt A U H1 := ⟨h.1.kept hq, h.2.1.kept hq, h.2.2.1.kept hq, h.2.2.2.kept hq⟩
theorem zStr1.moved {a v n : Nat} {byt : List Int32} {A : Nat → Prop} {u U : State} {H : Heap} (hvm : u.vm.Alike U.vm) (h : zStr1 a v n byt A u H) : zStr1 a v n byt A U H := ⟨va_O.moved hvm h.1, va_OF.moved hvm h.2.1, va_OF.moved hvm h.2.2.1, va_T.moved hvm h.2.2.2⟩
/-- what is known stays known: at another heap, in a warmer machine -/
theorem zKn.go {G : zG} {s U : State} {H : Heap} {locs : List Loc} (h : zKn G s) (hS : va_S (zA G) s.heap H locs) (hU : U.heap = H) (hW : s.WarmedH U.vm) : zKn G U := by
  obtain ⟨h1, h2, h3, h4, h5, h6, h7, h8, h9⟩ := h
  have hk : ∀ a : Nat, a < s.heap.size → ¬ zA G a → U.heap[a]? = s.heap[a]? := fun a q1 q2 => by rw [hU]; exact hS.2.1 a q1 q2
  refine ⟨va_K.moved hW.alike h1, by rw [hU]; exact Nat.le_trans h2 hS.1, fun q hq => va_Nw.warmM hW (h3 q hq), fun q hq => va_Nw.warmC hW (h4 q hq), fun q hq => (h5 q hq).moved hW.alike, h6.moved hW.alike, fun i hi => ⟨((h7 i hi).1.kept hk).moved hW.alike, (h7 i hi).2.warm hW⟩, ?_, ?_⟩
  · exact va_Z.moved hW.alike (h8.kept hk)
  · exact va_Zq.moved hW.alike (h9.kept hk)
theorem zKn.calling {G : zG} {a : Array Value} {U : State} {g : JFrame} {mk : MethodId} (h : zKn G U) : zKn G (U.calling g mk a) := by
  obtain ⟨h1, h2, h3, h4, h5, h6, h7, h8, h9⟩ := h
  have hv : U.vm.Alike (U.calling g mk a).vm := Vm.Alike.refl U.vm
  refine ⟨va_K.moved (u := U) hv h1, h2, fun q hq => va_Nw.same rfl (u := U) rfl (h3 q hq), fun q hq => va_Nw.same rfl (u := U) rfl (h4 q hq), fun q hq => va_Nc.moved (u := U) hv (h5 q hq), va_AO.moved (u := U) hv h6, fun i hi => ⟨zStr1.moved (u := U) hv (h7 i hi).1, vk_R.same (u := U) rfl (h7 i hi).2⟩, va_Z.moved (u := U) hv h8, va_Zq.moved (u := U) hv h9⟩
def zRm (d mc ms : Nat) : Room := { frames := d, cells := mc, slots := ms, locals := 60 * d }
def zC (G : zG) (av : List Value) (st : zS) : Array Value → State → Prop := fun v U => v = av.toArray ∧ zWd G st U.heap ∧ zKn G U
def zQ (G : zG) (v : Option Value) (st' : zS) : Array Value → State → Outcome → State → Prop := fun _ st oc t => oc = .returned v ∧ zWd G st' t.heap ∧ va_F (zA G) st t
abbrev zMet (l : Launch) (G : zG) (y : MethodName) (bytes : ByteArray) (maxL : Nat) (ret : Option FieldType) (d mc ms : Nat) (av : List Value) (st : zS) (v : Option Value) (st' : zS) : Prop := Met l y (.code y bytes maxL ret :: zT) (zRm d mc ms) (zC G av st) (zQ G v st') mc ms (zA G)
/-- what stands at a method's entry -/
def zX (G : zG) (p : Program) (s : State) (m : MethodId) (args : Array Value) (meth : Method) (c : Code) (own name : String) (bytes : ByteArray) (maxL : Nat) (ret : Option FieldType) (av : List Value) (st : zS) : Prop :=
  p.tables.exec = Jvm.exec ∧ c.code = bytes ∧ meth.sig.returnType = ret ∧ c.maxLocals = maxL ∧ s.vm.findClass own = some m.cls ∧ (∀ w ∈ zT, w.before args s = true) ∧ meth.locks = false ∧ zKn G s ∧ args = av.toArray ∧ meth.name = name ∧ zWd G st s.heap ∧ va_S (zA G) s.heap s.heap []
theorem zMet_of {l : Launch} {G : zG} {y : MethodName} {bytes : ByteArray} {maxL : Nat} {ret : Option FieldType} {d mc ms : Nat} {av : List Value} {st : zS} {v : Option Value} {st' : zS} (hy : plainName y.cls = true)
    (body : ∀ (p : Program) (e : Env) (s : State) (m : MethodId) (args : Array Value) (below : List Frame) (meth : Method) (c : Code), zX G p s m args meth c y.cls y.name bytes maxL ret av st → W p l e (zRm d mc ms) s m args below meth c s.heap [] 0 0 (MQ below (zQ G v st') args s mc ms (zA G)) (entryFrame m av.toArray maxL)) : zMet l G y bytes maxL ret d mc ms av st v st' := by
  refine Met.ofW (cc := bytes) (maxL := maxL) (ret := ret) hy rfl ?_
  intro p e s m args below meth c s₁ B hml hv
  obtain ⟨rfl, hW, hK⟩ := hv
  have hts := atoms_spec (ws := .code y bytes maxL ret :: zT) B.pre
  exact body p e s m _ below meth c ⟨B.exec, B.bytes, B.returns, hml, findClass_of_methodNamed B.named, fun w hw => hts w (List.mem_cons_of_mem _ hw), B.notSynchronized, hK, rfl, (name_of_methodNamed B.named B.method).1, hW, va_S.rf⟩
section ZE
variable {p : Program} {l : Launch} {e : Env} {R : Room} {s : State} {m : MethodId} {args : Array Value} {below : List Frame} {meth : Method} {c : Code} {H : Heap} {locs : List Loc} {cells slots : Nat}
variable {cc : ByteArray} {pc : Nat} {ls : Array Slot} {rest : List Value} {G : zG} {st : zS} {x : Int32}
theorem z_ri (hx : p.tables.exec = Jvm.exec) (hb : c.code = cc) (hr : meth.sig.returnType = some .int) (hlk : meth.locks = false) (hW : zWd G st H) (hS : va_S (zA G) s.heap H locs) {mc ms : Nat} (h1 : cells ≤ mc) (h2 : slots ≤ ms) (hdg : decode cc pc = .ok (.ireturn, 1)) : W p l e R s m args below meth c H locs cells slots (MQ below (zQ G (some (.int x)) st) args s mc ms (zA G)) (F0 m pc ls [.int x]) :=
  W.widen h1 h2 (W.iret hx hb hr (fun t ht _ => ⟨rfl, by rw [ht]; exact hW, hS.F ht⟩) hS.2.2 hdg)
theorem z_rz (hx : p.tables.exec = Jvm.exec) (hb : c.code = cc) {ty : FieldType} (hr : meth.sig.returnType = some ty) (hlk : meth.locks = false) (hn : narrow ty (.int x) = .int x) (hW : zWd G st H) (hS : va_S (zA G) s.heap H locs) {mc ms : Nat} (h1 : cells ≤ mc) (h2 : slots ≤ ms) (hdg : decode cc pc = .ok (.ireturn, 1)) : W p l e R s m args below meth c H locs cells slots (MQ below (zQ G (some (.int x)) st) args s mc ms (zA G)) (F0 m pc ls [.int x]) :=
  W.widen h1 h2 (W.zret hx hb hr hn (fun t ht _ => ⟨rfl, by rw [ht]; exact hW, hS.F ht⟩) hS.2.2 hdg)
theorem z_rl (hx : p.tables.exec = Jvm.exec) (hb : c.code = cc) (hr : meth.sig.returnType = some .long) (hlk : meth.locks = false) {x : Int64} (hW : zWd G st H) (hS : va_S (zA G) s.heap H locs) {mc ms : Nat} (h1 : cells ≤ mc) (h2 : slots ≤ ms) (hdg : decode cc pc = .ok (.lreturn, 1)) : W p l e R s m args below meth c H locs cells slots (MQ below (zQ G (some (.long x)) st) args s mc ms (zA G)) (F0 m pc ls [.long x]) :=
  W.widen h1 h2 (W.lret hx hb hr (fun t ht _ => ⟨rfl, by rw [ht]; exact hW, hS.F ht⟩) hS.2.2 hdg)
theorem z_rv (hx : p.tables.exec = Jvm.exec) (hb : c.code = cc) (hr : meth.sig.returnType = none) (hlk : meth.locks = false) (hW : zWd G st H) (hS : va_S (zA G) s.heap H locs) {mc ms : Nat} (h1 : cells ≤ mc) (h2 : slots ≤ ms) (hdg : decode cc pc = .ok (.return_, 1)) : W p l e R s m args below meth c H locs cells slots (MQ below (zQ G none st) args s mc ms (zA G)) (F0 m pc ls []) :=
  W.widen h1 h2 (W.vret hx hb hr (fun t ht _ => ⟨rfl, by rw [ht]; exact hW, hS.F ht⟩) hS.2.2 hdg)
theorem z_ra (hx : p.tables.exec = Jvm.exec) (hb : c.code = cc) {nm : String} (hr : meth.sig.returnType = some (.object nm)) (hlk : meth.locks = false) {r : Option Nat} (hW : zWd G st H) (hS : va_S (zA G) s.heap H locs) {mc ms : Nat} (h1 : cells ≤ mc) (h2 : slots ≤ ms) (hdg : decode cc pc = .ok (.areturn, 1)) : W p l e R s m args below meth c H locs cells slots (MQ below (zQ G (some (zrf G.2.2.2 r)) st) args s mc ms (zA G)) (F0 m pc ls [zrf G.2.2.2 r]) :=
  W.widen h1 h2 (W.aret hx hb hr (Or.inl ⟨_, rfl⟩) (by cases r with | none => exact Or.inl rfl | some b => exact Or.inr ⟨_, rfl⟩) (fun t ht _ => ⟨rfl, by rw [ht]; exact hW, hS.F ht⟩) hS.2.2 hdg)
end ZE
section ZR
variable {p : Program} {l : Launch} {e : Env} {R : Room} {s : State} {m : MethodId} {args : Array Value} {below : List Frame} {meth : Method} {c : Code} {H : Heap} {locs : List Loc} {cells slots : Nat} {Q : State → Prop}
variable {cc : ByteArray} {pc : Nat} {ls : Array Slot} {rest : List Value} {G : zG} {st : zS} {a : Nat}
theorem z_gI (hx : p.tables.exec = Jvm.exec) (hb : c.code = cc) (hq : ∀ w ∈ zT, w.before args s = true) {own : String} {idx k : Nat} {cs : List Nat} (hown : s.vm.findClass own = some m.cls) (hK : zKn G s) (hW : zWd G st H) (hf : zFS own idx cs k false) (ht : zTg st a ∈ cs) (hdg : decode cc pc = .ok (.getfield idx, 3))
    (kk : W p l e R s m args below meth c H locs cells slots Q (F0 m (pc + 3) ls (.int (zM st a k) :: rest))) : W p l e R s m args below meth c H locs cells slots Q (F0 m pc ls (.ref (G.2.2.2 + a) :: rest)) := by
  obtain ⟨ref, O, nm, ds, f1, f2, f3⟩ := hf
  obtain ⟨ci, r, e1, hr, hk, rfl, rfl, rfl, hrf⟩ := zfc_spec f3 ht
  obtain ⟨cell, q1, q2, q3, q4⟩ := (hW.2 a).2.2.2 ci r e1 hr
  obtain ⟨hS, hfc, kC, hkC, hkind⟩ := hK.1.1 ci r hr
  obtain ⟨cf, kf, fi, f, hi, hsl⟩ := hS k hk
  refine W.getf hx hb hown (hq _ f1) (z_same hq f2 _ hi) (u_facts hfc hkC (u_lays hq (zcl_in ci r hr) hk) hi).1 q1 (by rw [q3]; exact fun h => by cases h) (v := .int (zM st a k)) ?_ rfl rfl hdg kk
  rw [hsl, q4 k hk]
  unfold zV
  rw [hrf]
  simp
theorem z_gR (hx : p.tables.exec = Jvm.exec) (hb : c.code = cc) (hq : ∀ w ∈ zT, w.before args s = true) {own : String} {idx k : Nat} {cs : List Nat} (hown : s.vm.findClass own = some m.cls) (hK : zKn G s) (hW : zWd G st H) (hf : zFS own idx cs k true) (ht : zTg st a ∈ cs) {b : Nat} (hv : zR st a k = some b) (hdg : decode cc pc = .ok (.getfield idx, 3))
    (kk : W p l e R s m args below meth c H locs cells slots Q (F0 m (pc + 3) ls (.ref (G.2.2.2 + b) :: rest))) : W p l e R s m args below meth c H locs cells slots Q (F0 m pc ls (.ref (G.2.2.2 + a) :: rest)) := by
  obtain ⟨ref, O, nm, ds, f1, f2, f3⟩ := hf
  obtain ⟨ci, r, e1, hr, hk, rfl, rfl, rfl, hrf⟩ := zfc_spec f3 ht
  obtain ⟨cell, q1, q2, q3, q4⟩ := (hW.2 a).2.2.2 ci r e1 hr
  obtain ⟨hS, hfc, kC, hkC, hkind⟩ := hK.1.1 ci r hr
  obtain ⟨cf, kf, fi, f, hi, hsl⟩ := hS k hk
  refine W.getf hx hb hown (hq _ f1) (z_same hq f2 _ hi) (u_facts hfc hkC (u_lays hq (zcl_in ci r hr) hk) hi).1 q1 (by rw [q3]; exact fun h => by cases h) (v := .ref (G.2.2.2 + b)) ?_ rfl rfl hdg kk
  rw [hsl, q4 k hk]
  unfold zV
  rw [hrf, hv]
  simp [zrf]
theorem z_put0 (hx : p.tables.exec = Jvm.exec) (hb : c.code = cc) (hq : ∀ w ∈ zT, w.before args s = true) {own : String} {idx k : Nat} {cs : List Nat} {rf fin : Bool} {ty : FieldType} {v : Value} {st' : zS} (hown : s.vm.findClass own = some m.cls) (hK : zKn G s) (hW : zWd G st H) (hS0 : va_S (zA G) s.heap H locs) (hf : zFP own idx cs k rf fin ty) (ht : zTg st a ∈ cs)
    (hini : fin = true → meth.name = "<init>") (hn : narrow ty v = v) (hfit : fits ty v = true) (h1 : st'.1 = st.1) (h2 : st'.2.1 = st.2.1) (hm : ∀ k', k' ≠ a → ∀ j, zM st' k' j = zM st k' j) (hr' : ∀ k', k' ≠ a → ∀ j, zR st' k' j = zR st k' j) (hv : ∀ ci j, zrF ci k = rf → zV G.2.2.2 st' ci a j = updV (zV G.2.2.2 st ci a) k v j) (hdg : decode cc pc = .ok (.putfield idx, 3))
    (kk : ∀ (H1 : Heap) (locs1 : List Loc), zWd G st' H1 → va_S (zA G) s.heap H1 locs1 → W p l e R s m args below meth c H1 locs1 cells slots Q (F0 m (pc + 3) ls rest)) : W p l e R s m args below meth c H locs cells slots Q (F0 m pc ls (v :: .ref (G.2.2.2 + a) :: rest)) := by
  obtain ⟨ref, O, nm, ds, f1, f2, f3, f4, f5, f6⟩ := hf
  obtain ⟨ci, r, e1, hr, hk, rfl, rfl, rfl, hrf⟩ := zfc_spec f3 ht
  have hfin := zfp_spec f4 (e1 ▸ ht) hr
  obtain ⟨cell, q1, q2, q3, q4⟩ := (hW.2 a).2.2.2 ci r e1 hr
  obtain ⟨⟨ty0, hty⟩, hnm⟩ := zcl_ty ci r hr
  have hin := zcl_in ci r hr
  have hap := va_apart (own := own) hq hin ty0 hty hnm hK.1 hr
  obtain ⟨hS, hfc, kC, hkC, hkind⟩ := hK.1.1 ci r hr
  obtain ⟨cf, kf, fi, f, hi, hsl⟩ := hS k hk
  have hlay := hq _ (hin _ (u_in_lay hk))
  have hst := (u_facts hfc hkC (u_lays hq hin hk) hi).1
  have fin2 : ∀ (H' : Heap), H'[G.2.2.2 + a]? = some (cell.setSlot f.slot v) → H'.size = H.size → (∀ q, q ≠ G.2.2.2 + a → H'[q]? = H[q]?) → W p l e R s m args below meth c H' (locs ++ [⟨G.2.2.2 + a, f.slot⟩]) cells slots Q (F0 m (pc + 3) ls rest) := by
    intro H' e3 e4 e5
    rw [hsl] at e3 ⊢
    refine kk H' _ (hW.set (a := a) h1 h2 hm hr' e4 e5 ?_) (hS0.put e4 e5 (Nat.le_add_right _ _))
    have ht' : zTg st' a = 10 + ci := by unfold zTg; rw [h2]; exact e1
    refine ⟨fun h => by omega, fun h => by omega, fun h => by omega, fun ci' r' h hr2 => ?_⟩
    obtain rfl : ci' = ci := by omega
    obtain rfl : r' = r := Option.some.inj (hr2.symm.trans hr)
    exact t_OB.to (V := updV (zV G.2.2.2 st ci' a) k v) ⟨_, e3, q2, q3, t_set q4 hap hk v⟩ (fun j _ => (hv ci' j hrf).symm)
  unfold u_lay at hlay
  cases fin with
  | false =>
    rw [if_neg (by rw [hfin]; decide)] at hlay
    exact W.putK hx hb (f := f) ⟨hown, hq _ f1, ⟨_, _, _, z_same hq f2 _ hi⟩, hst⟩ (by rw [q2]; exact u_store hfc hkC hkind hlay hi f5 hn hfit) q1 q3 (by rw [hsl]; exact k2_hasslot (q4 k hk)) rfl rfl hdg fin2
  | true =>
    rw [if_pos hfin] at hlay
    have hcf : m.cls = cf := by
      obtain ⟨_, _, c', _, _, _, -, -, hf', -, -, -, hown2, -⟩ := Cond.laysFinal_spec hlay
      have e1 : c' = cf := by have := hi.symm.trans hf'; simp at this; exact this.1.symm
      rw [f6 rfl] at hown2
      rw [← e1]; exact Option.some.inj (hown.symm.trans hown2)
    exact W.putFinK hx hb hown (hq _ f1) (z_same hq f2 _ hi) hst hcf (hini rfl) (by rw [q2]; exact u_fits hfc hkC hkind (Or.inr hlay) hi f5 hn hfit) q1 q3 (by rw [hsl]; exact k2_hasslot (q4 k hk)) rfl rfl hdg fin2
theorem z_pI (hx : p.tables.exec = Jvm.exec) (hb : c.code = cc) (hq : ∀ w ∈ zT, w.before args s = true) {own : String} {idx k : Nat} {cs : List Nat} {fin : Bool} {ty : FieldType} {x : Int32} (hown : s.vm.findClass own = some m.cls) (hK : zKn G s) (hW : zWd G st H) (hS0 : va_S (zA G) s.heap H locs) (hf : zFP own idx cs k false fin ty) (ht : zTg st a ∈ cs)
    (hini : fin = true → meth.name = "<init>") (hn : narrow ty (.int x) = .int x) (hfit : fits ty (.int x) = true) (hdg : decode cc pc = .ok (.putfield idx, 3))
    (kk : ∀ (H1 : Heap) (locs1 : List Loc), zWd G (zPM st a k x) H1 → va_S (zA G) s.heap H1 locs1 → W p l e R s m args below meth c H1 locs1 cells slots Q (F0 m (pc + 3) ls rest)) : W p l e R s m args below meth c H locs cells slots Q (F0 m pc ls (.int x :: .ref (G.2.2.2 + a) :: rest)) := by
  refine z_put0 (st' := zPM st a k x) hx hb hq hown hK hW hS0 hf ht hini hn hfit rfl rfl (fun k' h j => ?_) (fun _ _ _ => rfl) (fun ci j h => ?_) hdg kk
  · rw [zM_PM, if_neg (fun q => h q.1)]
  · unfold zV updV
    rw [zR_PM, zM_PM]
    by_cases hj : j = k
    · subst hj; simp [h]
    · simp [hj]
theorem z_pR (hx : p.tables.exec = Jvm.exec) (hb : c.code = cc) (hq : ∀ w ∈ zT, w.before args s = true) {own : String} {idx k : Nat} {cs : List Nat} {fin : Bool} {ty : FieldType} {b : Nat} (hown : s.vm.findClass own = some m.cls) (hK : zKn G s) (hW : zWd G st H) (hS0 : va_S (zA G) s.heap H locs) (hf : zFP own idx cs k true fin ty) (ht : zTg st a ∈ cs)
    (hini : fin = true → meth.name = "<init>") (hn : ∀ q : Nat, narrow ty (.ref q) = .ref q) (hfit : ∀ q : Nat, fits ty (.ref q) = true) (hdg : decode cc pc = .ok (.putfield idx, 3))
    (kk : ∀ (H1 : Heap) (locs1 : List Loc), zWd G (zPR st a k (some b)) H1 → va_S (zA G) s.heap H1 locs1 → W p l e R s m args below meth c H1 locs1 cells slots Q (F0 m (pc + 3) ls rest)) : W p l e R s m args below meth c H locs cells slots Q (F0 m pc ls (.ref (G.2.2.2 + b) :: .ref (G.2.2.2 + a) :: rest)) := by
  refine z_put0 (st' := zPR st a k (some b)) hx hb hq hown hK hW hS0 hf ht hini (hn _) (hfit _) rfl rfl (fun _ _ _ => rfl) (fun k' h j => ?_) (fun ci j h => ?_) hdg kk
  · rw [zR_PR, if_neg (fun q => h q.1)]
  · unfold zV updV
    rw [zR_PR, zM_PR]
    by_cases hj : j = k
    · subst hj; simp [h, zrf]
    · simp [hj]
theorem z_alI (hx : p.tables.exec = Jvm.exec) (hb : c.code = cc) (hK : zKn G s) (hW : zWd G st H) (ht : zTg st a = 1) {i : Int32} (hin : vp_in i (zLn st a)) (hdg : decode cc pc = .ok (.iaload, 1))
    (kk : W p l e R s m args below meth c H locs cells slots Q (F0 m (pc + 1) ls (.int (zM st a i.toNatClampNeg) :: rest))) : W p l e R s m args below meth c H locs cells slots Q (F0 m pc ls (.int i :: .ref (G.2.2.2 + a) :: rest)) := by
  have hlt : i.toNatClampNeg < zLn st a := Nat.not_le.mp fun q => hin (Or.inr q)
  exact W.iald (v := .int (zM st a i.toNatClampNeg)) hx hb ((hW.2 a).1 ht) ((hK.1.2 0 _ rfl).1 _ _) (fun q => by cases q) (by rw [arrV_size]; exact hin) (by rw [arrV_read _ _ hlt]) rfl rfl hdg kk
theorem z_alZ (hx : p.tables.exec = Jvm.exec) (hb : c.code = cc) (hK : zKn G s) (hW : zWd G st H) (ht : zTg st a = 2) {i : Int32} (hin : vp_in i (zLn st a)) (hdg : decode cc pc = .ok (.baload, 1))
    (kk : W p l e R s m args below meth c H locs cells slots Q (F0 m (pc + 1) ls (.int (zM st a i.toNatClampNeg) :: rest))) : W p l e R s m args below meth c H locs cells slots Q (F0 m pc ls (.int i :: .ref (G.2.2.2 + a) :: rest)) := by
  have hlt : i.toNatClampNeg < zLn st a := Nat.not_le.mp fun q => hin (Or.inr q)
  exact W.zald (v := .int (zM st a i.toNatClampNeg)) hx hb ((hW.2 a).2.1 ht) ((hK.1.2 1 _ rfl).1 _ _) (fun q => by cases q) (by rw [arrV_size]; exact hin) (by rw [arrV_read _ _ hlt]) rfl rfl hdg kk
theorem z_alL (hx : p.tables.exec = Jvm.exec) (hb : c.code = cc) (hK : zKn G s) (hW : zWd G st H) (ht : zTg st a = 3) {i : Int32} (hin : vp_in i (zLn st a)) (hdg : decode cc pc = .ok (.aaload, 1))
    (kk : W p l e R s m args below meth c H locs cells slots Q (F0 m (pc + 1) ls (zrf G.2.2.2 (zR st a i.toNatClampNeg) :: rest))) : W p l e R s m args below meth c H locs cells slots Q (F0 m pc ls (.int i :: .ref (G.2.2.2 + a) :: rest)) := by
  have hlt : i.toNatClampNeg < zLn st a := Nat.not_le.mp fun q => hin (Or.inr q)
  exact W.aald (v := zrf G.2.2.2 (zR st a i.toNatClampNeg)) (ty := .object RX4) hx hb ((hW.2 a).2.2.1 ht) ((hK.1.2 2 _ rfl).1 _ _) rfl (fun q => by cases q) (by rw [arrV_size]; exact hin) (by rw [arrV_read _ _ hlt]) rfl rfl hdg kk
theorem z_asI (hx : p.tables.exec = Jvm.exec) (hb : c.code = cc) (hK : zKn G s) (hW : zWd G st H) (hS : va_S (zA G) s.heap H locs) (ht : zTg st a = 1) {i x : Int32} (hin : vp_in i (zLn st a)) (hdg : decode cc pc = .ok (.iastore, 1))
    (kk : ∀ (H1 : Heap) (locs1 : List Loc), zWd G (zPM st a i.toNatClampNeg x) H1 → va_S (zA G) s.heap H1 locs1 → W p l e R s m args below meth c H1 locs1 cells slots Q (F0 m (pc + 1) ls rest)) : W p l e R s m args below meth c H locs cells slots Q (F0 m pc ls (.int x :: .int i :: .ref (G.2.2.2 + a) :: rest)) := by
  refine W.iast hx hb ((hW.2 a).1 ht) ((hK.1.2 0 _ rfl).1 _ _) (fun q => by cases q) (by rw [arrV_size]; exact hin) rfl rfl hdg fun H1 e z oq => ?_
  refine kk H1 _ (hW.set (a := a) rfl rfl (fun k' h j => by rw [zM_PM, if_neg (fun q => h q.1)]) (fun _ _ _ => rfl) z oq ?_) (hS.put z oq (Nat.le_add_right _ _))
  have ht' : zTg (zPM st a i.toNatClampNeg x) a = 1 := ht
  refine ⟨fun _ => ?_, fun h => by omega, fun h => by omega, fun ci r h => by omega⟩
  rw [e, arrV_store, zLn_PM]
  congr 2
  funext j
  rw [zM_PM]
  by_cases hj : j = i.toNatClampNeg
  · subst hj; simp [updV]
  · simp [updV, hj]
theorem z_asZ (hx : p.tables.exec = Jvm.exec) (hb : c.code = cc) (hK : zKn G s) (hW : zWd G st H) (hS : va_S (zA G) s.heap H locs) (ht : zTg st a = 2) {i x : Int32} (hin : vp_in i (zLn st a)) (hn : narrow .boolean (.int x) = .int x) (hdg : decode cc pc = .ok (.bastore, 1))
    (kk : ∀ (H1 : Heap) (locs1 : List Loc), zWd G (zPM st a i.toNatClampNeg x) H1 → va_S (zA G) s.heap H1 locs1 → W p l e R s m args below meth c H1 locs1 cells slots Q (F0 m (pc + 1) ls rest)) : W p l e R s m args below meth c H locs cells slots Q (F0 m pc ls (.int x :: .int i :: .ref (G.2.2.2 + a) :: rest)) := by
  refine W.zast hx hb ((hW.2 a).2.1 ht) ((hK.1.2 1 _ rfl).1 _ _) (fun q => by cases q) (by rw [arrV_size]; exact hin) rfl rfl hdg fun H1 e z oq => ?_
  refine kk H1 _ (hW.set (a := a) rfl rfl (fun k' h j => by rw [zM_PM, if_neg (fun q => h q.1)]) (fun _ _ _ => rfl) z oq ?_) (hS.put z oq (Nat.le_add_right _ _))
  have ht' : zTg (zPM st a i.toNatClampNeg x) a = 2 := ht
  refine ⟨fun h => by omega, fun _ => ?_, fun h => by omega, fun ci r h => by omega⟩
  rw [e, hn, arrV_store, zLn_PM]
  congr 2
  funext j
  rw [zM_PM]
  by_cases hj : j = i.toNatClampNeg
  · subst hj; simp [updV]
  · simp [updV, hj]
theorem z_asN (hx : p.tables.exec = Jvm.exec) (hb : c.code = cc) (hK : zKn G s) (hW : zWd G st H) (hS : va_S (zA G) s.heap H locs) (ht : zTg st a = 3) {i : Int32} (hin : vp_in i (zLn st a)) (hdg : decode cc pc = .ok (.aastore, 1))
    (kk : ∀ (H1 : Heap) (locs1 : List Loc), zWd G (zPR st a i.toNatClampNeg none) H1 → va_S (zA G) s.heap H1 locs1 → W p l e R s m args below meth c H1 locs1 cells slots Q (F0 m (pc + 1) ls rest)) : W p l e R s m args below meth c H locs cells slots Q (F0 m pc ls (.null :: .int i :: .ref (G.2.2.2 + a) :: rest)) := by
  refine va_WaastN (C := RX4) hx hb ((hW.2 a).2.2.1 ht) ((hK.1.2 2 _ rfl).1 _ _) (fun q => by cases q) (by rw [arrV_size]; exact hin) rfl rfl hdg fun H1 e z oq => ?_
  refine kk H1 _ (hW.set (a := a) rfl rfl (fun _ _ _ => rfl) (fun k' h j => by rw [zR_PR, if_neg (fun q => h q.1)]) z oq ?_) (hS.put z oq (Nat.le_add_right _ _))
  have ht' : zTg (zPR st a i.toNatClampNeg none) a = 3 := ht
  refine ⟨fun h => by omega, fun h => by omega, fun _ => ?_, fun ci r h => by omega⟩
  rw [e, arrV_store, zLn_PR]
  congr 2
  funext j
  rw [zR_PR]
  by_cases hj : j = i.toNatClampNeg
  · subst hj; simp [updV, zrf]
  · simp [updV, hj]
theorem z_asg {args : Array Value} (hK : zKn G s) {ci : Nat} {r : vw_C} (hr : zcl[ci]? = some r) (h : r.1 = RX4 ∨ (r.1, RX4) ∈ zCa) {comp : ClassId} (hc : s.vm.findClass RX4 = some comp) : s.vm.assignable (G.1.1 ci) comp = true := by
  have hcls := (hK.1.1 ci r hr).2
  rcases h with h | h
  · rw [h] at hcls
    obtain rfl : comp = G.1.1 ci := Option.some.inj (hc.symm.trans hcls.1)
    exact va_asg _ _
  · obtain ⟨c0, t1, f1, f2, f3⟩ := Cond.castable_spec (va_Nw.use (A := args) rfl (hK.2.2.2.1 _ h))
    cases hcls.1.symm.trans f1
    cases hc.symm.trans f2
    exact f3
def zLs : List Nat := [10, 11, 13, 14, 17, 19, 20]
def zlsb : Bool := zLs.all (fun t => match zcl[t - 10]? with
  | some r => decide (10 ≤ t) && (decide (r.1 = RX4) || zCa.contains (r.1, RX4))
  | none => false)
theorem zls_ok : zlsb = true := by decide +kernel
theorem zls_spec {t : Nat} (ht : t ∈ zLs) : ∃ (ci : Nat) (r : vw_C), t = 10 + ci ∧ zcl[ci]? = some r ∧ (r.1 = RX4 ∨ (r.1, RX4) ∈ zCa) := by
  have h1 := List.all_eq_true.mp zls_ok t ht
  cases hz : zcl[t - 10]? with
  | none => rw [hz] at h1; cases h1
  | some r =>
    rw [hz] at h1
    simp only [Bool.and_eq_true, Bool.or_eq_true, decide_eq_true_eq, List.contains_iff_mem] at h1
    exact ⟨t - 10, r, by omega, hz, h1.2⟩
theorem z_asL (hx : p.tables.exec = Jvm.exec) (hb : c.code = cc) (hK : zKn G s) (hW : zWd G st H) (hS : va_S (zA G) s.heap H locs) (ht : zTg st a = 3) {b : Nat} (htb : zTg st b ∈ zLs) {i : Int32} (hin : vp_in i (zLn st a)) (hdg : decode cc pc = .ok (.aastore, 1))
    (kk : ∀ (H1 : Heap) (locs1 : List Loc), zWd G (zPR st a i.toNatClampNeg (some b)) H1 → va_S (zA G) s.heap H1 locs1 → W p l e R s m args below meth c H1 locs1 cells slots Q (F0 m (pc + 1) ls rest)) : W p l e R s m args below meth c H locs cells slots Q (F0 m pc ls (.ref (G.2.2.2 + b) :: .int i :: .ref (G.2.2.2 + a) :: rest)) := by
  have hlt : i.toNatClampNeg < zLn st a := Nat.not_le.mp fun q => hin (Or.inr q)
  have h0 : ¬ i < 0 := fun q => hin (Or.inl q)
  obtain ⟨ci, r, e1, hr, hsub⟩ := zls_spec htb
  obtain ⟨cellV, g1, g2, g3, -⟩ := (hW.2 b).2.2.2 ci r e1 hr
  have hcls := (hK.1.1 ci r hr).2
  obtain ⟨kA, comp, k1, k2, k3, -⟩ := (hK.1.2 2 _ rfl).2
  obtain ⟨kE, hkE, -⟩ := Vm.findClass_spec k3
  obtain ⟨kC, hkC, -⟩ := hcls.2
  refine W.aast hx hb ((hW.2 a).2.2.1 ht) (fun q h => by cases h) (fun h => by cases h) k1 k2 rfl hkE ⟨h0, by rw [arrV_size]; exact hlt⟩ g1 (fun q h => by rw [g3] at h; cases h) (by rw [g2]; exact hkC) (by rw [g2]; exact z_asg (args := args) hK hr hsub k3) rfl rfl hdg fun H1 e z oq => ?_
  refine kk H1 _ (hW.set (a := a) rfl rfl (fun _ _ _ => rfl) (fun k' h j => by rw [zR_PR, if_neg (fun q => h q.1)]) z oq ?_) (hS.put z oq (Nat.le_add_right _ _))
  have ht' : zTg (zPR st a i.toNatClampNeg (some b)) a = 3 := ht
  refine ⟨fun h => by omega, fun h => by omega, fun _ => ?_, fun ci r h => by omega⟩
  rw [e, arrV_store, zLn_PR]
  congr 2
  funext j
  rw [zR_PR]
  by_cases hj : j = i.toNatClampNeg
  · subst hj; simp [updV, zrf]
  · simp [updV, hj]
theorem z_len (hx : p.tables.exec = Jvm.exec) (hb : c.code = cc) (hK : zKn G s) (hW : zWd G st H) (ht : zTg st a = 1 ∨ zTg st a = 2 ∨ zTg st a = 3) (hdg : decode cc pc = .ok (.arraylength, 1))
    (kk : W p l e R s m args below meth c H locs cells slots Q (F0 m (pc + 1) ls (.int (nI (zLn st a)) :: rest))) : W p l e R s m args below meth c H locs cells slots Q (F0 m pc ls (.ref (G.2.2.2 + a) :: rest)) := by
  rcases ht with ht | ht | ht
  · exact W.alen (n := nI (zLn st a)) hx hb ((hW.2 a).1 ht) ((hK.1.2 0 _ rfl).1 _ _) (by rw [arrV_size]; rfl) rfl rfl hdg kk
  · exact W.alen (n := nI (zLn st a)) hx hb ((hW.2 a).2.1 ht) ((hK.1.2 1 _ rfl).1 _ _) (by rw [arrV_size]; rfl) rfl rfl hdg kk
  · exact W.alen (n := nI (zLn st a)) hx hb ((hW.2 a).2.2.1 ht) ((hK.1.2 2 _ rfl).1 _ _) (by rw [arrV_size]; rfl) rfl rfl hdg kk
theorem z_new (hx : p.tables.exec = Jvm.exec) (hb : c.code = cc) (hq : ∀ w ∈ zT, w.before args s = true) {own : String} {idx ci : Nat} {r : vw_C} (hown : s.vm.findClass own = some m.cls) (hK : zKn G s) (hW : zWd G st H) (hS : va_S (zA G) s.heap H locs) (hr : zcl[ci]? = some r) (hcl : Cond.classLink own idx r.1 ∈ zT) (hins : Cond.instantiable r.1 r.2.2 ∈ zT) (hini : Cond.initialized r.1 ∈ zT)
    (hdf : ∀ k, k < r.2.2 → defaultValue ((parseFieldDescriptor (r.2.1 k).2.2.1).getD .int) = if zrF ci k = true then Value.null else .int 0) (hcells : cells + 1 ≤ R.cells) (hslots : slots + r.2.2 ≤ R.slots) (hdg : decode cc pc = .ok (.new idx, 3))
    (kk : ∀ H1 : Heap, zWd G (zNw st (10 + ci) 0) H1 → va_S (zA G) s.heap H1 locs → W p l e R s m args below meth c H1 locs (cells + 1) (slots + r.2.2) Q (F0 m (pc + 3) ls (.ref (G.2.2.2 + st.1) :: rest))) : W p l e R s m args below meth c H locs cells slots Q (F0 m pc ls rest) := by
  have hKn := hK.1.1 ci r hr
  obtain ⟨⟨ty, hty⟩, -⟩ := zcl_ty ci r hr
  refine W.newcK hx hb hown (hq _ hcl) (hq _ hins) (hq _ hini) rfl hdg hcells hslots hKn.2.1 rfl fun H1 kC hkC e1 z1 o1 => ?_
  have hz := hW.1
  rw [hz]
  refine kk H1 (hW.new rfl (fun k h => by simp [zNw, h]) (fun k h j => by rw [zM_Nw, if_neg h]) (fun k h j => by rw [zR_Nw, if_neg h]) z1 o1 ?_) ⟨Nat.le_trans hS.1 (by omega), fun x h1 h2 => (o1 x (Nat.lt_of_lt_of_le h1 hS.1)).trans (hS.2.1 x h1 h2), hS.2.2⟩
  have ht : zTg (zNw st (10 + ci) 0) st.1 = 10 + ci := by rw [zTg_Nw, if_pos rfl]
  refine ⟨fun h => by omega, fun h => by omega, fun h => by omega, fun ci' r' h hr2 => ?_⟩
  obtain rfl : ci' = ci := by omega
  obtain rfl : r' = r := Option.some.inj (hr2.symm.trans hr)
  rw [← hz]
  refine (u_born ty hq (zcl_in ci' r' hr) hKn hkC e1 hty).to fun k hk => ?_
  have h2 := hdf k hk
  rw [hty k hk] at h2
  rw [show defaultValue (ty k) = _ from h2]
  unfold zV
  rw [zR_Nw, if_pos rfl, zM_Nw, if_pos rfl]
  rfl
theorem z_nwI (hx : p.tables.exec = Jvm.exec) (hb : c.code = cc) (hq : ∀ w ∈ zT, w.before args s = true) (hK : zKn G s) (hW : zWd G st H) (hS : va_S (zA G) s.heap H locs) (harr : Cond.arrayClass .int ∈ zT) {n : Int32} {N : Nat} (hn : ¬ n < 0) (hN : n.toNatClampNeg = N) (hN2 : N ≤ 100000) (hcells : cells + 1 ≤ R.cells) (hslots : slots + N ≤ R.slots) (hdg : decode cc pc = .ok (.newarray .int, 2))
    (kk : ∀ H1 : Heap, zWd G (zNw st 1 N) H1 → va_S (zA G) s.heap H1 locs → W p l e R s m args below meth c H1 locs (cells + 1) (slots + N) Q (F0 m (pc + 2) ls (.ref (G.2.2.2 + st.1) :: rest))) : W p l e R s m args below meth c H locs cells slots Q (F0 m pc ls (.int n :: rest)) := by
  refine va_newaK (atype := .int) hx hb (hq _ harr) rfl hdg rfl hn hN (by show N * 4 ≤ _; omega) hcells hslots rfl fun H1 cA e1 z1 o1 hAr hNm => ?_
  have hcA : cA = G.2.1.1 := Option.some.inj (hNm.symm.trans (hK.1.2 0 _ rfl).2)
  subst hcA
  have hz := hW.1
  rw [hz]
  refine kk H1 (hW.new rfl (fun k h => by simp [zNw, h]) (fun k h j => by rw [zM_Nw, if_neg h]) (fun k h j => by rw [zR_Nw, if_neg h]) z1 o1 ?_) ⟨Nat.le_trans hS.1 (by omega), fun x h1 h2 => (o1 x (Nat.lt_of_lt_of_le h1 hS.1)).trans (hS.2.1 x h1 h2), hS.2.2⟩
  have ht : zTg (zNw st 1 N) st.1 = 1 := by rw [zTg_Nw, if_pos rfl]
  refine ⟨fun _ => ?_, fun h => by omega, fun h => by omega, fun ci r h => by omega⟩
  rw [← hz, e1, zLn_Nw, if_pos rfl]
  congr 2
  funext j
  rw [zM_Nw, if_pos rfl]
  rfl
theorem z_nwZ (hx : p.tables.exec = Jvm.exec) (hb : c.code = cc) (hq : ∀ w ∈ zT, w.before args s = true) (hK : zKn G s) (hW : zWd G st H) (hS : va_S (zA G) s.heap H locs) (harr : Cond.arrayClass .boolean ∈ zT) {n : Int32} {N : Nat} (hn : ¬ n < 0) (hN : n.toNatClampNeg = N) (hN2 : N ≤ 100000) (hcells : cells + 1 ≤ R.cells) (hslots : slots + N ≤ R.slots) (hdg : decode cc pc = .ok (.newarray .boolean, 2))
    (kk : ∀ H1 : Heap, zWd G (zNw st 2 N) H1 → va_S (zA G) s.heap H1 locs → W p l e R s m args below meth c H1 locs (cells + 1) (slots + N) Q (F0 m (pc + 2) ls (.ref (G.2.2.2 + st.1) :: rest))) : W p l e R s m args below meth c H locs cells slots Q (F0 m pc ls (.int n :: rest)) := by
  refine va_newaK (atype := .boolean) hx hb (hq _ harr) rfl hdg rfl hn hN (by show N * 1 ≤ _; omega) hcells hslots rfl fun H1 cA e1 z1 o1 hAr hNm => ?_
  have hcA : cA = G.2.1.2.1 := Option.some.inj (hNm.symm.trans (hK.1.2 1 _ rfl).2)
  subst hcA
  have hz := hW.1
  rw [hz]
  refine kk H1 (hW.new rfl (fun k h => by simp [zNw, h]) (fun k h j => by rw [zM_Nw, if_neg h]) (fun k h j => by rw [zR_Nw, if_neg h]) z1 o1 ?_) ⟨Nat.le_trans hS.1 (by omega), fun x h1 h2 => (o1 x (Nat.lt_of_lt_of_le h1 hS.1)).trans (hS.2.1 x h1 h2), hS.2.2⟩
  have ht : zTg (zNw st 2 N) st.1 = 2 := by rw [zTg_Nw, if_pos rfl]
  refine ⟨fun h => by omega, fun _ => ?_, fun h => by omega, fun ci r h => by omega⟩
  rw [← hz, e1, zLn_Nw, if_pos rfl]
  congr 2
  funext j
  rw [zM_Nw, if_pos rfl]
  rfl
theorem z_nwL (hx : p.tables.exec = Jvm.exec) (hb : c.code = cc) (hq : ∀ w ∈ zT, w.before args s = true) {own : String} {idx : Nat} (hown : s.vm.findClass own = some m.cls) (hK : zKn G s) (hW : zWd G st H) (hS : va_S (zA G) s.heap H locs) (hcl : Cond.classLink own idx RX4 ∈ zT) {n : Int32} {N : Nat} (hn : ¬ n < 0) (hN : n.toNatClampNeg = N) (hN2 : N ≤ 100000) (hcells : cells + 1 ≤ R.cells) (hslots : slots + N ≤ R.slots) (hdg : decode cc pc = .ok (.anewarray idx, 3))
    (kk : ∀ H1 : Heap, zWd G (zNw st 3 N) H1 → va_S (zA G) s.heap H1 locs → W p l e R s m args below meth c H1 locs (cells + 1) (slots + N) Q (F0 m (pc + 3) ls (.ref (G.2.2.2 + st.1) :: rest))) : W p l e R s m args below meth c H locs cells slots Q (F0 m pc ls (.int n :: rest)) := by
  subst hN
  refine W.anew hx hb hown (hq _ hcl) (va_AO.use hK.2.2.2.2.2.1) rfl hdg rfl hn (by omega) hcells hslots fun cA kA comp f1 f2 f3 f4 => ?_
  obtain ⟨kA', comp', k1, k2, k3, k4⟩ := (hK.1.2 2 _ rfl).2
  have hcA : cA = G.2.1.2.2 := Option.some.inj (f1.symm.trans k4)
  subst hcA
  generalize hH1 : H.push ({ cls := G.2.1.2.2, slots := Array.replicate n.toNatClampNeg .null, vm := .none } : Cell) = H1
  have z1 : H1.size = H.size + 1 := by rw [← hH1, Array.size_push]
  have e1 : H1[H.size]? = some (arrV G.2.1.2.2 n.toNatClampNeg (fun _ => .null)) := by rw [← hH1, Array.getElem?_push_size, ← arrV_new]
  have o1 : ∀ q : Nat, q < H.size → H1[q]? = H[q]? := fun q hq => by rw [← hH1, Array.getElem?_push, if_neg (Nat.ne_of_lt hq)]
  have hz := hW.1
  rw [hz]
  refine kk H1 (hW.new rfl (fun k h => by simp [zNw, h]) (fun k h j => by rw [zM_Nw, if_neg h]) (fun k h j => by rw [zR_Nw, if_neg h]) z1 o1 ?_) ⟨Nat.le_trans hS.1 (by omega), fun x h1 h2 => (o1 x (Nat.lt_of_lt_of_le h1 hS.1)).trans (hS.2.1 x h1 h2), hS.2.2⟩
  have ht : zTg (zNw st 3 n.toNatClampNeg) st.1 = 3 := by rw [zTg_Nw, if_pos rfl]
  refine ⟨fun h => by omega, fun h => by omega, fun _ => ?_, fun ci r h => by omega⟩
  rw [← hz, e1, zLn_Nw, if_pos rfl]
  congr 2
  funext j
  rw [zR_Nw, if_pos rfl]
  rfl
theorem z_recv (hK : zKn G s) (hW : zWd G st H) {ci : Nat} {r : vw_C} (ht : zTg st a = 10 + ci) (hr : zcl[ci]? = some r) : ∃ cell : Cell, H[G.2.2.2 + a]? = some cell ∧ cell.vm.isStatics = false ∧ s.vm.findClass r.1 = some cell.cls := by
  obtain ⟨cell, q1, q2, q3, -⟩ := (hW.2 a).2.2.2 ci r ht hr
  exact ⟨cell, q1, by rw [q3]; rfl, by rw [q2]; exact (hK.1.1 ci r hr).2.1⟩
/-- instanceof, on a Line of any kind: subs are the tags that it holds of -/
def ziob (nm : String) (subs : List Nat) : Bool := zLs.all (fun t => match zcl[t - 10]? with
  | some r => decide (10 ≤ t) && (if subs.contains t then (decide (r.1 = nm) || zCa.contains (r.1, nm)) else zNc.contains (r.1, nm))
  | none => false)
theorem z_io (hx : p.tables.exec = Jvm.exec) (hb : c.code = cc) (hq : ∀ w ∈ zT, w.before args s = true) {own nm : String} {idx : Nat} {subs : List Nat} (hown : s.vm.findClass own = some m.cls) (hK : zKn G s) (hW : zWd G st H) (hcl : Cond.classLink own idx nm ∈ zT) (hio : ziob nm subs = true) (ht : zTg st a ∈ zLs) (hdg : decode cc pc = .ok (.instanceof idx, 3))
    (kk : W p l e R s m args below meth c H locs cells slots Q (F0 m (pc + 3) ls (.int (if zTg st a ∈ subs then 1 else 0) :: rest))) : W p l e R s m args below meth c H locs cells slots Q (F0 m pc ls (.ref (G.2.2.2 + a) :: rest)) := by
  have h1 := List.all_eq_true.mp hio _ ht
  cases hz : zcl[zTg st a - 10]? with
  | none => rw [hz] at h1; cases h1
  | some r =>
    rw [hz] at h1
    simp only [Bool.and_eq_true, decide_eq_true_eq] at h1
    obtain ⟨h2, h3⟩ := h1
    have hrc := z_recv hK hW (a := a) (ci := zTg st a - 10) (by omega) hz
    by_cases hs : zTg st a ∈ subs
    · rw [if_pos hs] at kk
      rw [if_pos (by simpa using hs)] at h3
      rcases (by simpa using h3 : r.1 = nm ∨ (r.1, nm) ∈ zCa) with h | h
      · rw [h] at hrc
        exact va_instE hx hb hown (hq _ hcl) hrc hdg kk
      · exact va_instY hx hb hown (hq _ hcl) (hK.2.2.2.1 _ h) hrc hdg kk
    · rw [if_neg hs] at kk
      rw [if_neg (by simpa using hs)] at h3
      exact va_instNo hx hb hown (hq _ hcl) (hK.2.2.2.2.1 (r.1, nm) (by simpa using h3)) hrc hdg kk
theorem z_cast (hx : p.tables.exec = Jvm.exec) (hb : c.code = cc) (hq : ∀ w ∈ zT, w.before args s = true) {own : String} {idx ci : Nat} {r : vw_C} (hown : s.vm.findClass own = some m.cls) (hK : zKn G s) (hW : zWd G st H) (hr : zcl[ci]? = some r) (hcl : Cond.classLink own idx r.1 ∈ zT) (ht : zTg st a = 10 + ci) (hdg : decode cc pc = .ok (.checkcast idx, 3))
    (kk : W p l e R s m args below meth c H locs cells slots Q (F0 m (pc + 3) ls (.ref (G.2.2.2 + a) :: rest))) : W p l e R s m args below meth c H locs cells slots Q (F0 m pc ls (.ref (G.2.2.2 + a) :: rest)) :=
  va_castE hx hb hown (hq _ hcl) (z_recv hK hW ht hr) hdg kk
theorem z_castI (hx : p.tables.exec = Jvm.exec) (hb : c.code = cc) (hq : ∀ w ∈ zT, w.before args s = true) {own : String} {idx : Nat} (hown : s.vm.findClass own = some m.cls) (hK : zKn G s) (hW : zWd G st H) (hcl : Cond.classLink own idx "[I" ∈ zT) (ht : zTg st a = 1) (hdg : decode cc pc = .ok (.checkcast idx, 3))
    (kk : W p l e R s m args below meth c H locs cells slots Q (F0 m (pc + 3) ls (.ref (G.2.2.2 + a) :: rest))) : W p l e R s m args below meth c H locs cells slots Q (F0 m pc ls (.ref (G.2.2.2 + a) :: rest)) := by
  have hP : va_P G.1 zcl [(G.2.2.2 + a, .inl (G.2.1.1, zLn st a, .inl (fun j => zM st a j)))] H := by
    intro k q hk
    match k, hk with
    | 0, hk => cases hk; exact (hW.2 a).1 ht
    | k + 1, hk => cases hk
  exact va_castA hx hb hown (hq _ hcl) hP 0 rfl (hK.1.2 0 _ rfl).2 hdg kk
theorem z_clo (hx : p.tables.exec = Jvm.exec) (hb : c.code = cc) (hq : ∀ w ∈ zT, w.before args s = true) (hml : c.maxLocals = ls.size) {own : String} {idx : Nat} (hown : s.vm.findClass own = some m.cls) (hK : zKn G s) (hW : zWd G st H) (hS : va_S (zA G) s.heap H locs)
    (w1 : Cond.methodLink own idx ⟨"[I", "clone", "()Ljava/lang/Object;"⟩ ∈ zT) (w2 : Cond.sameMethod "[I" "java/lang/Object" "clone" "()Ljava/lang/Object;" ∈ zT) (w3 : Cond.native ⟨"java/lang/Object", "clone", "()Ljava/lang/Object;"⟩ ∈ zT) (w4 : Cond.instanceMethod ⟨"java/lang/Object", "clone", "()Ljava/lang/Object;"⟩ ∈ zT) (w5 : Cond.selects "[I" ⟨"[I", "clone", "()Ljava/lang/Object;"⟩ ⟨"java/lang/Object", "clone", "()Ljava/lang/Object;"⟩ ∈ zT)
    (hca : ("[I", "java/lang/Cloneable") ∈ zCa) (ht : zTg st a = 1) {N : Nat} (hN : zLn st a = N) (hfr : 1 ≤ R.frames) (hlo : (rest.map fun v => v.category).sum + 14 ≤ R.locals) (hcells : cells + 1 ≤ R.cells) (hslots : slots + N ≤ R.slots) (hdg : decode cc pc = .ok (.invokevirtual idx, 3))
    (kk : ∀ H1 : Heap, zWd G (zCl st a) H1 → va_S (zA G) s.heap H1 locs → W p l e R s m args below meth c H1 locs (cells + 1) (slots + N) Q (F0 m (pc + 3) ls (.ref (G.2.2.2 + st.1) :: rest))) : W p l e R s m args below meth c H locs cells slots Q (F0 m pc ls (.ref (G.2.2.2 + a) :: rest)) := by
  subst hN
  have hcell : H[G.2.2.2 + a]? = some (arrV G.2.1.1 (zLn st a) (fun j => .int (zM st a j))) := (hW.2 a).1 ht
  have hnm : s.vm.findClass "[I" = some G.2.1.1 := (hK.1.2 0 _ rfl).2
  have hsz : (arrV G.2.1.1 (zLn st a) (fun j => .int (zM st a j))).slots.size = zLn st a := arrV_size _ _ _
  have hcellE : ({ cls := (arrV G.2.1.1 (zLn st a) (fun j => .int (zM st a j))).cls, slots := (arrV G.2.1.1 (zLn st a) (fun j => .int (zM st a j))).slots } : Cell) = arrV G.2.1.1 (zLn st a) (fun j => .int (zM st a j)) := rfl
  obtain ⟨c0, t0', f1, f2, f3⟩ := Cond.castable_spec (va_Nw.use (A := args) rfl (hK.2.2.2.1 _ hca))
  cases hnm.symm.trans f1
  have hz := hW.1
  intro T hT X
  have hcellT : T.heap[G.2.2.2 + a]? = some (arrV G.2.1.1 (zLn st a) (fun j => .int (zM st a j))) := by rw [hT]; exact hcell
  obtain ⟨-, kA, hkA, comp, hkind⟩ := State.isArrayOf_alike X.warmed.alike ((hK.1.2 0 _ rfl).1 0 (fun _ => .null))
  obtain ⟨-, kS, hkS, compS, hkindS⟩ := (hK.1.2 0 _ rfl).1 0 (fun _ => .null)
  obtain ⟨vm', X', st'⟩ := X.cloneArray hx hown (hq _ w1) (hq _ w2) (hq _ w3) (hq _ w4) (hq _ w5) (a := G.2.2.2 + a) (cell := arrV G.2.1.1 (zLn st a) (fun j => .int (zM st a j))) hcellT (fun k h => by cases h) (fun h => by cases h) hnm f2 f3
    (fun i v hv => by
      have hk' : T.vm.classes[G.2.1.1]? = some kA := hkA
      have hfit : fits .int v = true := by
        by_cases hi : i < zLn st a
        · rw [arrV_read _ _ hi] at hv
          cases hv
          rfl
        · rw [Array.getElem?_eq_none (by rw [arrV_size]; omega)] at hv
          cases hv
      simpa [State.fitsSlot, State.slotType?, arrV, hk', hkind] using hfit)
    (g := F0 m pc ls (.ref (G.2.2.2 + a) :: rest)) rfl (by rw [hml]) rfl (by rw [hb]; exact hdg) hfr (by show 2 * 0 + _ + 14 ≤ _; omega) hcells (by rw [hsz]; exact hslots) (hloader := Vm.clonesLoader_of_array hkS hkindS)
  rw [hcellE, hsz] at X'
  generalize hH1 : H.push (arrV G.2.1.1 (zLn st a) (fun j => .int (zM st a j))) = H1
  have z1 : H1.size = H.size + 1 := by rw [← hH1, Array.size_push]
  have e1 : H1[H.size]? = some (arrV G.2.1.1 (zLn st a) (fun j => .int (zM st a j))) := by rw [← hH1, Array.getElem?_push_size]
  have o1 : ∀ q : Nat, q < H.size → H1[q]? = H[q]? := fun q hq => by rw [← hH1, Array.getElem?_push, if_neg (Nat.ne_of_lt hq)]
  obtain ⟨t, b1, b2⟩ := kk H1 (hW.new rfl (fun k h => by simp [zCl, h]) (fun k h j => by rw [zM_Cl, if_neg h]) (fun k h j => by rw [zR_Cl, if_neg h]) z1 o1 (by
      have ht2 : zTg (zCl st a) st.1 = 1 := by rw [zTg_Cl, if_pos rfl]; exact ht
      refine ⟨fun _ => ?_, fun h => by omega, fun h => by omega, fun ci r h => by omega⟩
      rw [← hz, e1, zLn_Cl, if_pos rfl]
      congr 2
      funext j
      rw [zM_Cl, if_pos rfl])) ⟨Nat.le_trans hS.1 (by omega), fun x h1 h2 => (o1 x (Nat.lt_of_lt_of_le h1 hS.1)).trans (hS.2.1 x h1 h2), hS.2.2⟩
    ((T.setVm vm').pushCell (arrV G.2.1.1 (zLn st a) (fun j => .int (zM st a j)))) (by rw [← hH1, ← hT]; rfl) X'
  refine ⟨t, st' t ?_, b2⟩
  rw [hcellE, hT, hz]
  exact b1
theorem z_call0 {v : Option Value} {st' : zS} {mc ms : Nat} {st0 : List Value} {av : Array Value} (hr : va_Run p l e R s m args below meth c H locs cells slots mc ms (F0 m pc ls st0) rest (zQ G v st' av) (zA G)) (hS : va_S (zA G) s.heap H locs)
    (kk : ∀ (H1 : Heap) (locs1 : List Loc), zWd G st' H1 → va_S (zA G) s.heap H1 locs1 → W p l e R s m args below meth c H1 locs1 (cells + mc) (slots + ms) Q (F0 m (pc + 3) ls (v.toList ++ rest))) : W p l e R s m args below meth c H locs cells slots Q (F0 m pc ls st0) := by
  intro T hT X
  obtain ⟨v', st₀, t, T', L, h0, X', hL, e1, e2, ⟨hv, hw, hz, hk⟩, st⟩ := hr T hT X
  obtain rfl : v = v' := by cases hv; rfl
  rw [h0] at hz hk
  obtain ⟨t2, a1, b1⟩ := kk T'.heap (locs ++ L) (by rw [e1]; exact hw)
    ⟨Nat.le_trans hS.1 (by rw [e1]; exact hz), fun q h1 h2 => by rw [e1, hk q (Nat.lt_of_lt_of_le h1 hS.1) h2]; exact hS.2.1 q h1 h2, fun q hq => by
      rcases List.mem_append.mp hq with h | h
      · exact hS.2.2 q h
      · exact hL q h⟩ T' rfl X'
  exact ⟨t2, st t2 a1, b1⟩
theorem z_blind {av : List Value} : FrameBlind (zC G av st) := fun a U g mk h => ⟨h.1, h.2.1, h.2.2.calling⟩
theorem z_preS (hK : zKn G s) (hW : zWd G st H) (hS : va_S (zA G) s.heap H locs) {av : List Value} : PreS s H (zC G av st) av :=
  ⟨z_blind, fun U hU hw => ⟨rfl, by rw [hU]; exact hW, hK.go hS hU hw⟩⟩
theorem z_preV (hK : zKn G s) (hW : zWd G st H) (hS : va_S (zA G) s.heap H locs) {As : List Value} {ci : Nat} {r : vw_C} (ht : zTg st a = 10 + ci) (hr : zcl[ci]? = some r) : PreV s H r.1 (G.2.2.2 + a) (zC G (.ref (G.2.2.2 + a) :: As) st) As :=
  ⟨z_blind, z_recv hK hW ht hr, fun U hU hw => ⟨rfl, by rw [hU]; exact hW, hK.go hS hU hw⟩⟩
theorem zgG {l : List Cond} {y : MethodName} {bytes : ByteArray} {maxL : Nat} {ret : Option FieldType} (h : ∀ w ∈ l, w ∈ zT) (hc : Cond.code y bytes maxL ret ∈ zT) : GoodIn zT (l ++ (.code y bytes maxL ret :: zT)) := by
  intro w hw
  have hm : w ∈ zT := by
    rcases List.mem_append.mp hw with h1 | h1
    · exact h w h1
    · rcases List.mem_cons.mp h1 with rfl | h1
      · exact hc
      · exact h1
  exact ⟨hm, zT_good w hm⟩
/-- what is asked of a callee, once and for all -/
def zCal (y : MethodName) (n : Nat) : Prop := (y.cls ≠ "java/lang/invoke/MethodHandle" ∧ y.cls ≠ "java/lang/invoke/VarHandle") ∧ (parseMethodDescriptor y.desc).map (fun d => d.parameters.length) = some n
variable {y : MethodName} {bytes : ByteArray} {maxL nL d mc ms n index : Nat} {ret : Option FieldType} {own : String} {As : List Value} {v : Option Value} {st' : zS}
theorem z_cV (hx : p.tables.exec = Jvm.exec) (hb : c.code = cc) (hq : ∀ w ∈ zT, w.before args s = true) (hml : c.maxLocals = nL) (hown : s.vm.findClass own = some m.cls) (hK : zKn G s) (hW : zWd G st H) (hS : va_S (zA G) s.heap H locs) (ci : Nat) (As : List Value) (rest : List Value) {r : vw_C} (hr : zcl[ci]? = some r) (ht : zTg st a = 10 + ci)
    (hM : zMet l G y bytes maxL ret d mc ms (.ref (G.2.2.2 + a) :: As) st v st') (w1 : Cond.methodLink own index y ∈ zT) (w2 : Cond.instanceMethod y ∈ zT) (w3 : Cond.selects r.1 y y ∈ zT) (w4 : Cond.initialized r.1 ∈ zT) (w5 : Cond.code y bytes maxL ret ∈ zT) (hcal : zCal y n) (hyc : y.cls = r.1)
    (hn : As.length = n) (hsz : ls.size = nL) {st0 : List Value} (hst : st0 = As.reverse ++ .ref (G.2.2.2 + a) :: rest) (hcat : (rest.map fun v => v.category).sum ≤ 8) (hR : d + 1 ≤ R.frames ∧ 8 + (maxL + 11) + 60 * d ≤ R.locals) (hf : cells + mc ≤ R.cells ∧ slots + ms ≤ R.slots) (hdg : decode cc pc = .ok (.invokevirtual index, 3))
    (kk : ∀ (H1 : Heap) (locs1 : List Loc), zWd G st' H1 → va_S (zA G) s.heap H1 locs1 → W p l e R s m args below meth c H1 locs1 (cells + mc) (slots + ms) Q (F0 m (pc + 3) ls (v.toList ++ rest))) : W p l e R s m args below meth c H locs cells slots Q (F0 m pc ls st0) := by
  refine z_call0 (rest := rest) (va_runV (As := As) (n := n) (C := r.1) (Ts := zT) (own := own) ⟨hx, hb, hml, hown, hq⟩ hM (cwV n hq (zgG (by
    intro w hw
    simp only [List.mem_cons, List.not_mem_nil, or_false] at hw
    rcases hw with rfl | rfl | rfl | rfl <;> assumption) w5) rfl rfl rfl ⟨hyc, hcal.1.1, hcal.1.2, hcal.2⟩ hR) (z_preV hK hW hS ht hr) rfl hn hsz hst (lv_room hcat) hdg hf) hS kk
theorem z_cS (hx : p.tables.exec = Jvm.exec) (hb : c.code = cc) (hq : ∀ w ∈ zT, w.before args s = true) (hml : c.maxLocals = nL) (hown : s.vm.findClass own = some m.cls) (hK : zKn G s) (hW : zWd G st H) (hS : va_S (zA G) s.heap H locs) (As : List Value) (rest : List Value)
    (hM : zMet l G y bytes maxL ret d mc ms As st v st') (w1 : Cond.methodLink own index y ∈ zT) (w2 : Cond.static y ∈ zT) (w4 : Cond.initialized y.cls ∈ zT) (w5 : Cond.code y bytes maxL ret ∈ zT) (hcal : zCal y n)
    (hn : As.length = n) (hsz : ls.size = nL) {st0 : List Value} (hst : st0 = As.reverse ++ rest) (hcat : (rest.map fun v => v.category).sum ≤ 8) (hR : d + 1 ≤ R.frames ∧ 8 + (maxL + 11) + 60 * d ≤ R.locals) (hf : cells + mc ≤ R.cells ∧ slots + ms ≤ R.slots) (hdg : decode cc pc = .ok (.invokestatic index, 3))
    (kk : ∀ (H1 : Heap) (locs1 : List Loc), zWd G st' H1 → va_S (zA G) s.heap H1 locs1 → W p l e R s m args below meth c H1 locs1 (cells + mc) (slots + ms) Q (F0 m (pc + 3) ls (v.toList ++ rest))) : W p l e R s m args below meth c H locs cells slots Q (F0 m pc ls st0) := by
  have hg : GoodIn zT (.code y bytes maxL ret :: zT) := zgG (l := []) (fun _ h => absurd h List.not_mem_nil) w5
  exact z_call0 (rest := rest) (va_runS (As := As) (n := n) (Ts := zT) (own := own) ⟨hx, hb, hml, hown, hq⟩ hM ⟨callB_of n hq hg rfl rfl rfl (hq _ w4) (hq _ w1) ⟨hcal.1.1, hcal.1.2, hcal.2⟩ hR, hq _ w2⟩ (z_preS hK hW hS) rfl hn hsz hst (lv_room hcat) hdg hf) hS kk
theorem z_cI (hx : p.tables.exec = Jvm.exec) (hb : c.code = cc) (hq : ∀ w ∈ zT, w.before args s = true) (hml : c.maxLocals = nL) (hown : s.vm.findClass own = some m.cls) (hK : zKn G s) (hW : zWd G st H) (hS : va_S (zA G) s.heap H locs) (As : List Value) (rest : List Value)
    (hM : zMet l G y bytes maxL none d mc ms (.ref (G.2.2.2 + a) :: As) st v st') (w1 : Cond.methodLink own index y ∈ zT) (w2 : Cond.instanceMethod y ∈ zT) (w4 : Cond.initialized y.cls ∈ zT) (w5 : Cond.code y bytes maxL none ∈ zT) (hcal : zCal y n) (hy1 : y.name = "<init>")
    (hn : As.length = n) (hsz : ls.size = nL) {st0 : List Value} (hst : st0 = As.reverse ++ .ref (G.2.2.2 + a) :: rest) (hcat : (rest.map fun v => v.category).sum ≤ 8) (hR : d + 1 ≤ R.frames ∧ 8 + (maxL + 11) + 60 * d ≤ R.locals) (hf : cells + mc ≤ R.cells ∧ slots + ms ≤ R.slots) (hdg : decode cc pc = .ok (.invokespecial index, 3))
    (kk : ∀ (H1 : Heap) (locs1 : List Loc), zWd G st' H1 → va_S (zA G) s.heap H1 locs1 → W p l e R s m args below meth c H1 locs1 (cells + mc) (slots + ms) Q (F0 m (pc + 3) ls (v.toList ++ rest))) : W p l e R s m args below meth c H locs cells slots Q (F0 m pc ls st0) := by
  have hg : GoodIn zT (.code y bytes maxL none :: zT) := zgG (l := []) (fun _ h => absurd h List.not_mem_nil) w5
  exact z_call0 (rest := rest) (va_runI (As := As) (n := n) (Ts := zT) (own := own) ⟨hx, hb, hml, hown, hq⟩ hM ⟨callB_of n hq hg rfl rfl rfl (hq _ w4) (hq _ w1) ⟨hcal.1.1, hcal.1.2, hcal.2⟩ hR, hy1, hq _ w2⟩ (z_preS hK hW hS) rfl hn hsz hst (lv_room hcat) hdg hf) hS kk
theorem z_cIN (hx : p.tables.exec = Jvm.exec) (hb : c.code = cc) (hq : ∀ w ∈ zT, w.before args s = true) (hml : c.maxLocals = nL) (hown : s.vm.findClass own = some m.cls) (hK : zKn G s) (hW : zWd G st H) (hS : va_S (zA G) s.heap H locs) (As : List Value) (rest : List Value) {host : String}
    (hM : zMet l G y bytes maxL none d mc ms (.ref (G.2.2.2 + a) :: As) st v st') (w1 : (own, index, y, host) ∈ zNM) (w2 : Cond.instanceMethod y ∈ zT) (w4 : Cond.initialized y.cls ∈ zT) (w5 : Cond.code y bytes maxL none ∈ zT) (hcal : zCal y n) (hy1 : y.name = "<init>")
    (hn : As.length = n) (hsz : ls.size = nL) {st0 : List Value} (hst : st0 = As.reverse ++ .ref (G.2.2.2 + a) :: rest) (hcat : (rest.map fun v => v.category).sum ≤ 8) (hR : d + 1 ≤ R.frames ∧ 8 + (maxL + 11) + 60 * d ≤ R.locals) (hf : cells + mc ≤ R.cells ∧ slots + ms ≤ R.slots) (hdg : decode cc pc = .ok (.invokespecial index, 3))
    (kk : ∀ (H1 : Heap) (locs1 : List Loc), zWd G st' H1 → va_S (zA G) s.heap H1 locs1 → W p l e R s m args below meth c H1 locs1 (cells + mc) (slots + ms) Q (F0 m (pc + 3) ls (v.toList ++ rest))) : W p l e R s m args below meth c H locs cells slots Q (F0 m pc ls st0) := by
  have hg : GoodIn zT (.code y bytes maxL none :: zT) := zgG (l := []) (fun _ h => absurd h List.not_mem_nil) w5
  exact z_call0 (rest := rest) (va_runIN (As := As) (n := n) (Ts := zT) (own := own) ⟨hx, hb, hml, hown, hq⟩ hM ⟨va_cnB n hq hg rfl rfl rfl (hK.2.2.1 _ w1) (hq _ w4) ⟨hcal.1.1, hcal.1.2, hcal.2⟩ hR, hy1, hq _ w2⟩ (z_preS hK hW hS) rfl hn hsz hst (lv_room hcat) hdg hf) hS kk
theorem z_cSU (hx : p.tables.exec = Jvm.exec) (hb : c.code = cc) (hq : ∀ w ∈ zT, w.before args s = true) (hml : c.maxLocals = nL) (hown : s.vm.findClass own = some m.cls) (hK : zKn G s) (hW : zWd G st H) (hS : va_S (zA G) s.heap H locs) (As : List Value) (rest : List Value) (hline : zTg st a ∈ zLs)
    (hM : zMet l G y bytes maxL ret d mc ms (.ref (G.2.2.2 + a) :: As) st v st') (w1 : Cond.methodLink own index y ∈ zT) (w2 : Cond.sameMethod y.cls y.cls y.name y.desc ∈ zT) (w3 : Cond.superclass own y.cls ∈ zT) (w4 : Cond.instanceMethod y ∈ zT) (w6 : Cond.initialized y.cls ∈ zT) (w5 : Cond.code y bytes maxL ret ∈ zT) (hcal : zCal y n) (hy1 : y.name ≠ "<init>")
    (hn : As.length = n) (hsz : ls.size = nL) {st0 : List Value} (hst : st0 = As.reverse ++ .ref (G.2.2.2 + a) :: rest) (hcat : (rest.map fun v => v.category).sum ≤ 8) (hR : d + 1 ≤ R.frames ∧ 8 + (maxL + 11) + 60 * d ≤ R.locals) (hf : cells + mc ≤ R.cells ∧ slots + ms ≤ R.slots) (hdg : decode cc pc = .ok (.invokespecial index, 3))
    (kk : ∀ (H1 : Heap) (locs1 : List Loc), zWd G st' H1 → va_S (zA G) s.heap H1 locs1 → W p l e R s m args below meth c H1 locs1 (cells + mc) (slots + ms) Q (F0 m (pc + 3) ls (v.toList ++ rest))) : W p l e R s m args below meth c H locs cells slots Q (F0 m pc ls st0) := by
  obtain ⟨ci, r, ht, hr, -⟩ := zls_spec hline
  refine z_call0 (rest := rest) (va_runSU (As := As) (n := n) (C := r.1) (Ts := zT) (own := own) (hK.1.1 ci r hr).2 ⟨hx, hb, hml, hown, hq⟩ hM (va_cwSU n hq (zgG (by
    intro w hw
    simp only [List.mem_cons, List.not_mem_nil, or_false] at hw
    rcases hw with rfl | rfl | rfl | rfl | rfl <;> assumption) w5) rfl rfl rfl ⟨hy1, hcal.2⟩ hR) (z_preV hK hW hS ht hr) rfl hn hsz hst (lv_room hcat) hdg hf) hS kk
theorem z_sub1 {vm : Vm} {c t : ClassId} {k : Class} (h1 : vm.classes[c]? = some k) (h2 : k.super = some t) : vm.isSubclass c t = true := by
  have hs : c < vm.classes.size := (Array.getElem?_eq_some_iff.mp h1).1
  obtain ⟨n, hn⟩ : ∃ n, vm.classes.size = n + 1 := ⟨vm.classes.size - 1, (Nat.succ_pred_eq_of_pos (Nat.lt_of_le_of_lt (Nat.zero_le _) hs)).symm⟩
  unfold Vm.isSubclass
  rw [hn]
  simp [Vm.isSubclassAux, h1, h2]
theorem z_cSX (hx : p.tables.exec = Jvm.exec) (hb : c.code = cc) (hq : ∀ w ∈ zT, w.before args s = true) (hml : c.maxLocals = nL) (hown : s.vm.findClass own = some m.cls) (hK : zKn G s) (hW : zWd G st H) (hS : va_S (zA G) s.heap H locs) (As : List Value) (rest : List Value) (hline : zTg st a ∈ zLs) {x : MethodName} {owner : String}
    (hM : zMet l G ⟨owner, x.name, x.desc⟩ bytes maxL ret d mc ms (.ref (G.2.2.2 + a) :: As) st v st') (w1 : Cond.methodLink own index x ∈ zT) (w2 : Cond.sameMethod x.cls owner x.name x.desc ∈ zT) (w3 : Cond.superclass own x.cls ∈ zT) (w3' : Cond.superclass x.cls owner ∈ zT) (w4 : Cond.instanceMethod ⟨owner, x.name, x.desc⟩ ∈ zT) (w6 : Cond.initialized owner ∈ zT) (w5 : Cond.code ⟨owner, x.name, x.desc⟩ bytes maxL ret ∈ zT) (hcal : zCal ⟨owner, x.name, x.desc⟩ n) (hy1 : x.name ≠ "<init>")
    (hn : As.length = n) (hsz : ls.size = nL) {st0 : List Value} (hst : st0 = As.reverse ++ .ref (G.2.2.2 + a) :: rest) (hcat : (rest.map fun v => v.category).sum ≤ 8) (hR : d + 1 ≤ R.frames ∧ 8 + (maxL + 11) + 60 * d ≤ R.locals) (hf : cells + mc ≤ R.cells ∧ slots + ms ≤ R.slots) (hdg : decode cc pc = .ok (.invokespecial index, 3))
    (kk : ∀ (H1 : Heap) (locs1 : List Loc), zWd G st' H1 → va_S (zA G) s.heap H1 locs1 → W p l e R s m args below meth c H1 locs1 (cells + mc) (slots + ms) Q (F0 m (pc + 3) ls (v.toList ++ rest))) : W p l e R s m args below meth c H locs cells slots Q (F0 m pc ls st0) := by
  obtain ⟨ci, r, ht, hr, -⟩ := zls_spec hline
  obtain ⟨cellB, hcB, hoB, hclB⟩ := z_recv hK hW ht hr
  obtain ⟨-, kB, hkB, -⟩ := (hK.1.1 ci r hr).2
  have hclB2 : cellB.cls = G.1.1 ci := Option.some.inj (hclB.symm.trans (hK.1.1 ci r hr).2.1)
  have hg : GoodIn zT (.code ⟨owner, x.name, x.desc⟩ bytes maxL ret :: zT) := zgG (l := []) (fun _ h => absurd h List.not_mem_nil) w5
  have hbk : Back l R p e below s args ⟨owner, x.name, x.desc⟩ 3 8 (PreOf R mc ms (zC G (.ref (G.2.2.2 + a) :: As) st)) (PostOf (zQ G v st') mc ms (zA G)) := back_of (bytes := bytes) (maxL := maxL) (ret := ret) hM z_blind rfl rfl hR.1 hR.2 (pay_in hq hg) List.mem_cons_self (fun a' U hW' => word_at hW' (Or.inl (by first | rfl | simp [Cond.onTables, Cond.keeps, Cond.steady])) (hq _ w6))
  refine z_call0 (rest := rest) (v := v) (st' := st') (mc := mc) (ms := ms) (av := (.ref (G.2.2.2 + a) :: As : List Value).toArray) ?_ hS kk
  intro T hT X
  obtain ⟨mk, methM, hnamed, hmethM, hstM, habM⟩ := Cond.instanceMethod_spec (hq _ w4)
  obtain ⟨methM', cM, hmethM', -, -, -, -, -, -, hsigM⟩ := Cond.code_spec hnamed (hq _ w5)
  cases hmethM.symm.trans hmethM'
  obtain ⟨ps, dk, kp, hps, hdk, hkp, hsuper, -, -, hnid⟩ := Cond.superclass_spec hown (hq _ w3)
  obtain ⟨ps2, dk2, kp2, hps2, hdk2, -, hsuper2, -, -, -⟩ := Cond.superclass_spec hps (hq _ w3')
  have hpm : ps2 = mk.cls := Option.some.inj (hps2.symm.trans (findClass_of_methodNamed hnamed))
  have hsub : s.vm.isSubclass ps mk.cls = true := by rw [← hpm]; exact z_sub1 hdk2 hsuper2
  obtain ⟨vm₁, X₁, hstep₁⟩ := X.invokespecialUp hx hown (hq _ w1) (hq _ w2) hnamed hmethM hstM habM hy1 hdk hnid hps hsuper hsub (a := G.2.2.2 + a) (cell := cellB) (by rw [hT]; exact hcB)
    (fun z h => by rw [h] at hoB; cases hoB) (by rw [hclB2]; exact hkB) (g := F0 m pc ls st0) rfl (argsL := As) (rest := rest) (hn.trans (by
      have h2 := hcal.2
      rw [show parseMethodDescriptor (MethodName.desc ⟨owner, x.name, x.desc⟩) = _ from hsigM] at h2
      exact (Option.some.inj h2).symm)) hst (by rw [hb]; exact hdg)
  obtain ⟨v', ⟨U', l2, c2, s2⟩, X', ⟨g', mk', t, L, e1, e2, hqq, h1, hL, h2, h3⟩, st1⟩ := hbk m meth c ⟨T.setVm vm₁, locs, cells, slots⟩ { (F0 m pc ls st0) with stack := rest } (.invokespecial index) mk (Value.ref (G.2.2.2 + a) :: As).toArray X₁ rfl (hsz.trans hml.symm) (by rw [hb]; exact hdg) (lv_room (m := m) (pc := pc) (ls := ls) (rest := rest) hcat) (X₁.named hnamed)
    ⟨hf.1, hf.2, (z_preS hK hW hS (av := .ref (G.2.2.2 + a) :: As)).2 (T.setVm vm₁) hT X₁.warmed⟩
  dsimp only [Pt.U, Pt.locs, Pt.cells, Pt.slots] at X' e1 e2 h1 h2 h3 st1
  subst h1; subst h2; subst h3
  exact ⟨v', (T.setVm vm₁).calling g' mk' (Value.ref (G.2.2.2 + a) :: As).toArray, t, U', L, hT, X', hL, e1, e2, hqq, fun target h => hstep₁ _ (by rw [doInvoke_state]; exact st1.trans h)⟩
theorem z_cU (hx : p.tables.exec = Jvm.exec) (hb : c.code = cc) (hq : ∀ w ∈ zT, w.before args s = true) (hml : c.maxLocals = nL) (hown : s.vm.findClass own = some m.cls) (hK : zKn G s) (hW : zWd G st H) (hS : va_S (zA G) s.heap H locs) (ci : Nat) (As : List Value) (rest : List Value) {r : vw_C} (hr : zcl[ci]? = some r) (ht : zTg st a = 10 + ci) {x : MethodName} {owner : String} {b0 : ByteArray} {m0 : Nat} {r0 : Option FieldType}
    (hM : zMet l G y bytes maxL ret d mc ms (.ref (G.2.2.2 + a) :: As) st v st') (w1 : Cond.methodLink own index x ∈ zT) (w2 : Cond.sameMethod x.cls owner x.name x.desc ∈ zT) (w3 : Cond.selects r.1 x y ∈ zT) (w4 : Cond.instanceMethod y ∈ zT) (w6 : Cond.initialized y.cls ∈ zT) (w5 : Cond.code y bytes maxL ret ∈ zT) (w7 : Cond.instanceMethod ⟨owner, x.name, x.desc⟩ ∈ zT) (w8 : Cond.code ⟨owner, x.name, x.desc⟩ b0 m0 r0 ∈ zT) (hcal : zCal ⟨owner, x.name, x.desc⟩ n)
    (hn : As.length = n) (hsz : ls.size = nL) {st0 : List Value} (hst : st0 = As.reverse ++ .ref (G.2.2.2 + a) :: rest) (hcat : (rest.map fun v => v.category).sum ≤ 8) (hR : d + 1 ≤ R.frames ∧ 8 + (maxL + 11) + 60 * d ≤ R.locals) (hf : cells + mc ≤ R.cells ∧ slots + ms ≤ R.slots) (hdg : decode cc pc = .ok (.invokevirtual index, 3))
    (kk : ∀ (H1 : Heap) (locs1 : List Loc), zWd G st' H1 → va_S (zA G) s.heap H1 locs1 → W p l e R s m args below meth c H1 locs1 (cells + mc) (slots + ms) Q (F0 m (pc + 3) ls (v.toList ++ rest))) : W p l e R s m args below meth c H locs cells slots Q (F0 m pc ls st0) := by
  refine z_call0 (rest := rest) (va_runU (As := As) (n := n) (C := r.1) (Ts := zT) (own := own) (x := x) (owner := owner) ⟨hx, hb, hml, hown, hq⟩ hM (va_cwO (own := own) (C := r.1) (owner := owner) (x := x) n hq (zgG (by
    intro w hw
    simp only [List.mem_cons, List.not_mem_nil, or_false] at hw
    rcases hw with rfl | rfl | rfl | rfl | rfl | rfl <;> assumption) w5) rfl rfl rfl w8 ⟨hcal.1.1, hcal.1.2, hcal.2⟩ hR) (z_preV hK hW hS ht hr) rfl hn hsz hst (lv_room hcat) hdg hf) hS kk
end ZR
