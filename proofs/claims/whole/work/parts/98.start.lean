theorem zst_0 {args : Array Value} {s : State} (hts : ∀ w ∈ lw_tbl, w.before args s = true) (hf : ∀ w ∈ flatC (Jvm.Cond.and given_1 narrow_1), w.before args s = true) : ∃ a v : Nat, zStr1 a v (zsl 0) (zsb 0) (fun q => s.heap.size ≤ q) s s.heap ∧ vk_R (zsr 0).1 (zsr 0).2.1 (zsr 0).2.2 a s := by
  refine Exists.elim (vk_Sof (N := 1) (tm := fun _ => .string "TwoPens$School" 43) (len := [zsl 0]) (byt := [zsb 0]) (A := (fun q => s.heap.size ≤ q)) (args := args) (s := s) ?h1 ?h2 ?h3 ?h4 ?h5 ?h6 ?h7 (fun a h1 h2 => absurd h1 (Nat.not_lt.mpr h2))) ?hm
  case h1 => intro i hi; obtain rfl : i = 0 := by omega
             decide
  case h2 => intro i hi; exact hf _ (List.mem_of_getElem? (i := 108) (by decide +kernel))
  case h3 => intro i hi; exact hf _ (List.mem_of_getElem? (i := 109) (by decide +kernel))
  case h4 => intro i hi; exact hf _ (List.mem_of_getElem? (i := 110) (by decide +kernel))
  case h5 =>
    intro i hi; obtain rfl : i = 0 := by omega
    exact hf _ (List.mem_of_getElem? (i := 111) (by decide +kernel))
  case h6 =>
    intro i hi j hj; obtain rfl : i = 0 := by omega
    have hj : j < 5 := hj
    match j, hj with
    | 0, _ => exact hf _ (List.mem_of_getElem? (i := 112) (by decide +kernel))
    | 1, _ => exact hf _ (List.mem_of_getElem? (i := 113) (by decide +kernel))
    | 2, _ => exact hf _ (List.mem_of_getElem? (i := 114) (by decide +kernel))
    | 3, _ => exact hf _ (List.mem_of_getElem? (i := 115) (by decide +kernel))
    | 4, _ => exact hf _ (List.mem_of_getElem? (i := 116) (by decide +kernel))
    | j + 5, h => exact absurd h (by omega)
  case h7 => intro i j hi hj hne; exact absurd (show i = j by omega) hne
  case hm =>
    rintro adK ⟨adV, hS, hE⟩
    exact ⟨adK 0, adV 0, hS.1 0 (by decide), vk_R.of (hts _ (tbl_1 _ (List.mem_of_getElem? (i := 189) (by decide +kernel)))) (hE 0 (by decide))⟩
theorem zst_1 {args : Array Value} {s : State} (hts : ∀ w ∈ lw_tbl, w.before args s = true) (hf : ∀ w ∈ flatC (Jvm.Cond.and given_1 narrow_1), w.before args s = true) : ∃ a v : Nat, zStr1 a v (zsl 1) (zsb 1) (fun q => s.heap.size ≤ q) s s.heap ∧ vk_R (zsr 1).1 (zsr 1).2.1 (zsr 1).2.2 a s := by
  refine Exists.elim (vk_Sof (N := 1) (tm := fun _ => .string "TwoPens$School" 49) (len := [zsl 1]) (byt := [zsb 1]) (A := (fun q => s.heap.size ≤ q)) (args := args) (s := s) ?h1 ?h2 ?h3 ?h4 ?h5 ?h6 ?h7 (fun a h1 h2 => absurd h1 (Nat.not_lt.mpr h2))) ?hm
  case h1 => intro i hi; obtain rfl : i = 0 := by omega
             decide
  case h2 => intro i hi; exact hf _ (List.mem_of_getElem? (i := 117) (by decide +kernel))
  case h3 => intro i hi; exact hf _ (List.mem_of_getElem? (i := 118) (by decide +kernel))
  case h4 => intro i hi; exact hf _ (List.mem_of_getElem? (i := 119) (by decide +kernel))
  case h5 =>
    intro i hi; obtain rfl : i = 0 := by omega
    exact hf _ (List.mem_of_getElem? (i := 120) (by decide +kernel))
  case h6 =>
    intro i hi j hj; obtain rfl : i = 0 := by omega
    have hj : j < 5 := hj
    match j, hj with
    | 0, _ => exact hf _ (List.mem_of_getElem? (i := 121) (by decide +kernel))
    | 1, _ => exact hf _ (List.mem_of_getElem? (i := 122) (by decide +kernel))
    | 2, _ => exact hf _ (List.mem_of_getElem? (i := 123) (by decide +kernel))
    | 3, _ => exact hf _ (List.mem_of_getElem? (i := 124) (by decide +kernel))
    | 4, _ => exact hf _ (List.mem_of_getElem? (i := 125) (by decide +kernel))
    | j + 5, h => exact absurd h (by omega)
  case h7 => intro i j hi hj hne; exact absurd (show i = j by omega) hne
  case hm =>
    rintro adK ⟨adV, hS, hE⟩
    exact ⟨adK 0, adV 0, hS.1 0 (by decide), vk_R.of (hts _ (tbl_2 _ (List.mem_of_getElem? (i := 24) (by decide +kernel)))) (hE 0 (by decide))⟩
theorem zst_2 {args : Array Value} {s : State} (hts : ∀ w ∈ lw_tbl, w.before args s = true) (hf : ∀ w ∈ flatC (Jvm.Cond.and given_1 narrow_1), w.before args s = true) : ∃ a v : Nat, zStr1 a v (zsl 2) (zsb 2) (fun q => s.heap.size ≤ q) s s.heap ∧ vk_R (zsr 2).1 (zsr 2).2.1 (zsr 2).2.2 a s := by
  refine Exists.elim (vk_Sof (N := 1) (tm := fun _ => .string "TwoPens$School" 51) (len := [zsl 2]) (byt := [zsb 2]) (A := (fun q => s.heap.size ≤ q)) (args := args) (s := s) ?h1 ?h2 ?h3 ?h4 ?h5 ?h6 ?h7 (fun a h1 h2 => absurd h1 (Nat.not_lt.mpr h2))) ?hm
  case h1 => intro i hi; obtain rfl : i = 0 := by omega
             decide
  case h2 => intro i hi; exact hf _ (List.mem_of_getElem? (i := 127) (by decide +kernel))
  case h3 => intro i hi; exact hf _ (List.mem_of_getElem? (i := 128) (by decide +kernel))
  case h4 => intro i hi; exact hf _ (List.mem_of_getElem? (i := 129) (by decide +kernel))
  case h5 =>
    intro i hi; obtain rfl : i = 0 := by omega
    exact hf _ (List.mem_of_getElem? (i := 130) (by decide +kernel))
  case h6 =>
    intro i hi j hj; obtain rfl : i = 0 := by omega
    have hj : j < 6 := hj
    match j, hj with
    | 0, _ => exact hf _ (List.mem_of_getElem? (i := 131) (by decide +kernel))
    | 1, _ => exact hf _ (List.mem_of_getElem? (i := 132) (by decide +kernel))
    | 2, _ => exact hf _ (List.mem_of_getElem? (i := 133) (by decide +kernel))
    | 3, _ => exact hf _ (List.mem_of_getElem? (i := 134) (by decide +kernel))
    | 4, _ => exact hf _ (List.mem_of_getElem? (i := 135) (by decide +kernel))
    | 5, _ => exact hf _ (List.mem_of_getElem? (i := 136) (by decide +kernel))
    | j + 6, h => exact absurd h (by omega)
  case h7 => intro i j hi hj hne; exact absurd (show i = j by omega) hne
  case hm =>
    rintro adK ⟨adV, hS, hE⟩
    exact ⟨adK 0, adV 0, hS.1 0 (by decide), vk_R.of (hts _ (tbl_2 _ (List.mem_of_getElem? (i := 25) (by decide +kernel)))) (hE 0 (by decide))⟩
theorem zst_3 {args : Array Value} {s : State} (hts : ∀ w ∈ lw_tbl, w.before args s = true) (hf : ∀ w ∈ flatC (Jvm.Cond.and given_1 narrow_1), w.before args s = true) : ∃ a v : Nat, zStr1 a v (zsl 3) (zsb 3) (fun q => s.heap.size ≤ q) s s.heap ∧ vk_R (zsr 3).1 (zsr 3).2.1 (zsr 3).2.2 a s := by
  refine Exists.elim (vk_Sof (N := 1) (tm := fun _ => .string "TwoPens$School" 77) (len := [zsl 3]) (byt := [zsb 3]) (A := (fun q => s.heap.size ≤ q)) (args := args) (s := s) ?h1 ?h2 ?h3 ?h4 ?h5 ?h6 ?h7 (fun a h1 h2 => absurd h1 (Nat.not_lt.mpr h2))) ?hm
  case h1 => intro i hi; obtain rfl : i = 0 := by omega
             decide
  case h2 => intro i hi; exact hf _ (List.mem_of_getElem? (i := 139) (by decide +kernel))
  case h3 => intro i hi; exact hf _ (List.mem_of_getElem? (i := 140) (by decide +kernel))
  case h4 => intro i hi; exact hf _ (List.mem_of_getElem? (i := 141) (by decide +kernel))
  case h5 =>
    intro i hi; obtain rfl : i = 0 := by omega
    exact hf _ (List.mem_of_getElem? (i := 142) (by decide +kernel))
  case h6 =>
    intro i hi j hj; obtain rfl : i = 0 := by omega
    have hj : j < 5 := hj
    match j, hj with
    | 0, _ => exact hf _ (List.mem_of_getElem? (i := 143) (by decide +kernel))
    | 1, _ => exact hf _ (List.mem_of_getElem? (i := 144) (by decide +kernel))
    | 2, _ => exact hf _ (List.mem_of_getElem? (i := 145) (by decide +kernel))
    | 3, _ => exact hf _ (List.mem_of_getElem? (i := 146) (by decide +kernel))
    | 4, _ => exact hf _ (List.mem_of_getElem? (i := 147) (by decide +kernel))
    | j + 5, h => exact absurd h (by omega)
  case h7 => intro i j hi hj hne; exact absurd (show i = j by omega) hne
  case hm =>
    rintro adK ⟨adV, hS, hE⟩
    exact ⟨adK 0, adV 0, hS.1 0 (by decide), vk_R.of (hts _ (tbl_2 _ (List.mem_of_getElem? (i := 30) (by decide +kernel)))) (hE 0 (by decide))⟩
theorem zst_4 {args : Array Value} {s : State} (hts : ∀ w ∈ lw_tbl, w.before args s = true) (hf : ∀ w ∈ flatC (Jvm.Cond.and given_1 narrow_1), w.before args s = true) : ∃ a v : Nat, zStr1 a v (zsl 4) (zsb 4) (fun q => s.heap.size ≤ q) s s.heap ∧ vk_R (zsr 4).1 (zsr 4).2.1 (zsr 4).2.2 a s := by
  refine Exists.elim (vk_Sof (N := 1) (tm := fun _ => .string "TwoPens$School" 108) (len := [zsl 4]) (byt := [zsb 4]) (A := (fun q => s.heap.size ≤ q)) (args := args) (s := s) ?h1 ?h2 ?h3 ?h4 ?h5 ?h6 ?h7 (fun a h1 h2 => absurd h1 (Nat.not_lt.mpr h2))) ?hm
  case h1 => intro i hi; obtain rfl : i = 0 := by omega
             decide
  case h2 => intro i hi; exact hf _ (List.mem_of_getElem? (i := 151) (by decide +kernel))
  case h3 => intro i hi; exact hf _ (List.mem_of_getElem? (i := 152) (by decide +kernel))
  case h4 => intro i hi; exact hf _ (List.mem_of_getElem? (i := 153) (by decide +kernel))
  case h5 =>
    intro i hi; obtain rfl : i = 0 := by omega
    exact hf _ (List.mem_of_getElem? (i := 154) (by decide +kernel))
  case h6 =>
    intro i hi j hj; obtain rfl : i = 0 := by omega
    have hj : j < 6 := hj
    match j, hj with
    | 0, _ => exact hf _ (List.mem_of_getElem? (i := 155) (by decide +kernel))
    | 1, _ => exact hf _ (List.mem_of_getElem? (i := 156) (by decide +kernel))
    | 2, _ => exact hf _ (List.mem_of_getElem? (i := 157) (by decide +kernel))
    | 3, _ => exact hf _ (List.mem_of_getElem? (i := 158) (by decide +kernel))
    | 4, _ => exact hf _ (List.mem_of_getElem? (i := 159) (by decide +kernel))
    | 5, _ => exact hf _ (List.mem_of_getElem? (i := 160) (by decide +kernel))
    | j + 6, h => exact absurd h (by omega)
  case h7 => intro i j hi hj hne; exact absurd (show i = j by omega) hne
  case hm =>
    rintro adK ⟨adV, hS, hE⟩
    exact ⟨adK 0, adV 0, hS.1 0 (by decide), vk_R.of (hts _ (tbl_2 _ (List.mem_of_getElem? (i := 47) (by decide +kernel)))) (hE 0 (by decide))⟩
theorem zst_5 {args : Array Value} {s : State} (hts : ∀ w ∈ lw_tbl, w.before args s = true) (hf : ∀ w ∈ flatC (Jvm.Cond.and given_1 narrow_1), w.before args s = true) : ∃ a v : Nat, zStr1 a v (zsl 5) (zsb 5) (fun q => s.heap.size ≤ q) s s.heap ∧ vk_R (zsr 5).1 (zsr 5).2.1 (zsr 5).2.2 a s := by
  refine Exists.elim (vk_Sof (N := 1) (tm := fun _ => .string "TwoPens$School" 114) (len := [zsl 5]) (byt := [zsb 5]) (A := (fun q => s.heap.size ≤ q)) (args := args) (s := s) ?h1 ?h2 ?h3 ?h4 ?h5 ?h6 ?h7 (fun a h1 h2 => absurd h1 (Nat.not_lt.mpr h2))) ?hm
  case h1 => intro i hi; obtain rfl : i = 0 := by omega
             decide
  case h2 => intro i hi; exact hf _ (List.mem_of_getElem? (i := 165) (by decide +kernel))
  case h3 => intro i hi; exact hf _ (List.mem_of_getElem? (i := 166) (by decide +kernel))
  case h4 => intro i hi; exact hf _ (List.mem_of_getElem? (i := 167) (by decide +kernel))
  case h5 =>
    intro i hi; obtain rfl : i = 0 := by omega
    exact hf _ (List.mem_of_getElem? (i := 168) (by decide +kernel))
  case h6 =>
    intro i hi j hj; obtain rfl : i = 0 := by omega
    have hj : j < 3 := hj
    match j, hj with
    | 0, _ => exact hf _ (List.mem_of_getElem? (i := 169) (by decide +kernel))
    | 1, _ => exact hf _ (List.mem_of_getElem? (i := 170) (by decide +kernel))
    | 2, _ => exact hf _ (List.mem_of_getElem? (i := 171) (by decide +kernel))
    | j + 3, h => exact absurd h (by omega)
  case h7 => intro i j hi hj hne; exact absurd (show i = j by omega) hne
  case hm =>
    rintro adK ⟨adV, hS, hE⟩
    exact ⟨adK 0, adV 0, hS.1 0 (by decide), vk_R.of (hts _ (tbl_2 _ (List.mem_of_getElem? (i := 106) (by decide +kernel)))) (hE 0 (by decide))⟩
theorem zst_6 {args : Array Value} {s : State} (hts : ∀ w ∈ lw_tbl, w.before args s = true) (hf : ∀ w ∈ flatC (Jvm.Cond.and given_1 narrow_1), w.before args s = true) : ∃ a v : Nat, zStr1 a v (zsl 6) (zsb 6) (fun q => s.heap.size ≤ q) s s.heap ∧ vk_R (zsr 6).1 (zsr 6).2.1 (zsr 6).2.2 a s := by
  refine Exists.elim (vk_Sof (N := 1) (tm := fun _ => .string "TwoPensModel" 102) (len := [zsl 6]) (byt := [zsb 6]) (A := (fun q => s.heap.size ≤ q)) (args := args) (s := s) ?h1 ?h2 ?h3 ?h4 ?h5 ?h6 ?h7 (fun a h1 h2 => absurd h1 (Nat.not_lt.mpr h2))) ?hm
  case h1 => intro i hi; obtain rfl : i = 0 := by omega
             decide
  case h2 => intro i hi; exact hf _ (List.mem_of_getElem? (i := 177) (by decide +kernel))
  case h3 => intro i hi; exact hf _ (List.mem_of_getElem? (i := 178) (by decide +kernel))
  case h4 => intro i hi; exact hf _ (List.mem_of_getElem? (i := 179) (by decide +kernel))
  case h5 =>
    intro i hi; obtain rfl : i = 0 := by omega
    exact hf _ (List.mem_of_getElem? (i := 180) (by decide +kernel))
  case h6 =>
    intro i hi j hj; obtain rfl : i = 0 := by omega
    have hj : j < 5 := hj
    match j, hj with
    | 0, _ => exact hf _ (List.mem_of_getElem? (i := 181) (by decide +kernel))
    | 1, _ => exact hf _ (List.mem_of_getElem? (i := 182) (by decide +kernel))
    | 2, _ => exact hf _ (List.mem_of_getElem? (i := 183) (by decide +kernel))
    | 3, _ => exact hf _ (List.mem_of_getElem? (i := 184) (by decide +kernel))
    | 4, _ => exact hf _ (List.mem_of_getElem? (i := 185) (by decide +kernel))
    | j + 5, h => exact absurd h (by omega)
  case h7 => intro i j hi hj hne; exact absurd (show i = j by omega) hne
  case hm =>
    rintro adK ⟨adV, hS, hE⟩
    exact ⟨adK 0, adV 0, hS.1 0 (by decide), vk_R.of (hts _ (tbl_5 _ (List.mem_of_getElem? (i := 44) (by decide +kernel)))) (hE 0 (by decide))⟩
theorem zst_7 {args : Array Value} {s : State} (hts : ∀ w ∈ lw_tbl, w.before args s = true) (hf : ∀ w ∈ flatC (Jvm.Cond.and given_1 narrow_1), w.before args s = true) : ∃ a v : Nat, zStr1 a v (zsl 7) (zsb 7) (fun q => s.heap.size ≤ q) s s.heap ∧ vk_R (zsr 7).1 (zsr 7).2.1 (zsr 7).2.2 a s := by
  refine Exists.elim (vk_Sof (N := 1) (tm := fun _ => .string "TwoPensModel" 108) (len := [zsl 7]) (byt := [zsb 7]) (A := (fun q => s.heap.size ≤ q)) (args := args) (s := s) ?h1 ?h2 ?h3 ?h4 ?h5 ?h6 ?h7 (fun a h1 h2 => absurd h1 (Nat.not_lt.mpr h2))) ?hm
  case h1 => intro i hi; obtain rfl : i = 0 := by omega
             decide
  case h2 => intro i hi; exact hf _ (List.mem_of_getElem? (i := 192) (by decide +kernel))
  case h3 => intro i hi; exact hf _ (List.mem_of_getElem? (i := 193) (by decide +kernel))
  case h4 => intro i hi; exact hf _ (List.mem_of_getElem? (i := 194) (by decide +kernel))
  case h5 =>
    intro i hi; obtain rfl : i = 0 := by omega
    exact hf _ (List.mem_of_getElem? (i := 195) (by decide +kernel))
  case h6 =>
    intro i hi j hj; obtain rfl : i = 0 := by omega
    have hj : j < 5 := hj
    match j, hj with
    | 0, _ => exact hf _ (List.mem_of_getElem? (i := 196) (by decide +kernel))
    | 1, _ => exact hf _ (List.mem_of_getElem? (i := 197) (by decide +kernel))
    | 2, _ => exact hf _ (List.mem_of_getElem? (i := 198) (by decide +kernel))
    | 3, _ => exact hf _ (List.mem_of_getElem? (i := 199) (by decide +kernel))
    | 4, _ => exact hf _ (List.mem_of_getElem? (i := 200) (by decide +kernel))
    | j + 5, h => exact absurd h (by omega)
  case h7 => intro i j hi hj hne; exact absurd (show i = j by omega) hne
  case hm =>
    rintro adK ⟨adV, hS, hE⟩
    exact ⟨adK 0, adV 0, hS.1 0 (by decide), vk_R.of (hts _ (tbl_5 _ (List.mem_of_getElem? (i := 63) (by decide +kernel)))) (hE 0 (by decide))⟩
theorem zst_8 {args : Array Value} {s : State} (hts : ∀ w ∈ lw_tbl, w.before args s = true) (hf : ∀ w ∈ flatC (Jvm.Cond.and given_1 narrow_1), w.before args s = true) : ∃ a v : Nat, zStr1 a v (zsl 8) (zsb 8) (fun q => s.heap.size ≤ q) s s.heap ∧ vk_R (zsr 8).1 (zsr 8).2.1 (zsr 8).2.2 a s := by
  refine Exists.elim (vk_Sof (N := 1) (tm := fun _ => .string "TwoPensModel" 110) (len := [zsl 8]) (byt := [zsb 8]) (A := (fun q => s.heap.size ≤ q)) (args := args) (s := s) ?h1 ?h2 ?h3 ?h4 ?h5 ?h6 ?h7 (fun a h1 h2 => absurd h1 (Nat.not_lt.mpr h2))) ?hm
  case h1 => intro i hi; obtain rfl : i = 0 := by omega
             decide
  case h2 => intro i hi; exact hf _ (List.mem_of_getElem? (i := 208) (by decide +kernel))
  case h3 => intro i hi; exact hf _ (List.mem_of_getElem? (i := 209) (by decide +kernel))
  case h4 => intro i hi; exact hf _ (List.mem_of_getElem? (i := 210) (by decide +kernel))
  case h5 =>
    intro i hi; obtain rfl : i = 0 := by omega
    exact hf _ (List.mem_of_getElem? (i := 211) (by decide +kernel))
  case h6 =>
    intro i hi j hj; obtain rfl : i = 0 := by omega
    have hj : j < 6 := hj
    match j, hj with
    | 0, _ => exact hf _ (List.mem_of_getElem? (i := 212) (by decide +kernel))
    | 1, _ => exact hf _ (List.mem_of_getElem? (i := 213) (by decide +kernel))
    | 2, _ => exact hf _ (List.mem_of_getElem? (i := 214) (by decide +kernel))
    | 3, _ => exact hf _ (List.mem_of_getElem? (i := 215) (by decide +kernel))
    | 4, _ => exact hf _ (List.mem_of_getElem? (i := 216) (by decide +kernel))
    | 5, _ => exact hf _ (List.mem_of_getElem? (i := 217) (by decide +kernel))
    | j + 6, h => exact absurd h (by omega)
  case h7 => intro i j hi hj hne; exact absurd (show i = j by omega) hne
  case hm =>
    rintro adK ⟨adV, hS, hE⟩
    exact ⟨adK 0, adV 0, hS.1 0 (by decide), vk_R.of (hts _ (tbl_5 _ (List.mem_of_getElem? (i := 64) (by decide +kernel)))) (hE 0 (by decide))⟩
theorem zst_9 {args : Array Value} {s : State} (hts : ∀ w ∈ lw_tbl, w.before args s = true) (hf : ∀ w ∈ flatC (Jvm.Cond.and given_1 narrow_1), w.before args s = true) : ∃ a v : Nat, zStr1 a v (zsl 9) (zsb 9) (fun q => s.heap.size ≤ q) s s.heap ∧ vk_R (zsr 9).1 (zsr 9).2.1 (zsr 9).2.2 a s := by
  refine Exists.elim (vk_Sof (N := 1) (tm := fun _ => .string "TwoPensModel" 112) (len := [zsl 9]) (byt := [zsb 9]) (A := (fun q => s.heap.size ≤ q)) (args := args) (s := s) ?h1 ?h2 ?h3 ?h4 ?h5 ?h6 ?h7 (fun a h1 h2 => absurd h1 (Nat.not_lt.mpr h2))) ?hm
  case h1 => intro i hi; obtain rfl : i = 0 := by omega
             decide
  case h2 => intro i hi; exact hf _ (List.mem_of_getElem? (i := 226) (by decide +kernel))
  case h3 => intro i hi; exact hf _ (List.mem_of_getElem? (i := 227) (by decide +kernel))
  case h4 => intro i hi; exact hf _ (List.mem_of_getElem? (i := 228) (by decide +kernel))
  case h5 =>
    intro i hi; obtain rfl : i = 0 := by omega
    exact hf _ (List.mem_of_getElem? (i := 229) (by decide +kernel))
  case h6 =>
    intro i hi j hj; obtain rfl : i = 0 := by omega
    have hj : j < 5 := hj
    match j, hj with
    | 0, _ => exact hf _ (List.mem_of_getElem? (i := 230) (by decide +kernel))
    | 1, _ => exact hf _ (List.mem_of_getElem? (i := 231) (by decide +kernel))
    | 2, _ => exact hf _ (List.mem_of_getElem? (i := 232) (by decide +kernel))
    | 3, _ => exact hf _ (List.mem_of_getElem? (i := 233) (by decide +kernel))
    | 4, _ => exact hf _ (List.mem_of_getElem? (i := 234) (by decide +kernel))
    | j + 5, h => exact absurd h (by omega)
  case h7 => intro i j hi hj hne; exact absurd (show i = j by omega) hne
  case hm =>
    rintro adK ⟨adV, hS, hE⟩
    exact ⟨adK 0, adV 0, hS.1 0 (by decide), vk_R.of (hts _ (tbl_5 _ (List.mem_of_getElem? (i := 65) (by decide +kernel)))) (hE 0 (by decide))⟩
theorem zst_10 {args : Array Value} {s : State} (hts : ∀ w ∈ lw_tbl, w.before args s = true) (hf : ∀ w ∈ flatC (Jvm.Cond.and given_1 narrow_1), w.before args s = true) : ∃ a v : Nat, zStr1 a v (zsl 10) (zsb 10) (fun q => s.heap.size ≤ q) s s.heap ∧ vk_R (zsr 10).1 (zsr 10).2.1 (zsr 10).2.2 a s := by
  refine Exists.elim (vk_Sof (N := 1) (tm := fun _ => .string "TwoPensModel" 84) (len := [zsl 10]) (byt := [zsb 10]) (A := (fun q => s.heap.size ≤ q)) (args := args) (s := s) ?h1 ?h2 ?h3 ?h4 ?h5 ?h6 ?h7 (fun a h1 h2 => absurd h1 (Nat.not_lt.mpr h2))) ?hm
  case h1 => intro i hi; obtain rfl : i = 0 := by omega
             decide
  case h2 => intro i hi; exact hf _ (List.mem_of_getElem? (i := 244) (by decide +kernel))
  case h3 => intro i hi; exact hf _ (List.mem_of_getElem? (i := 245) (by decide +kernel))
  case h4 => intro i hi; exact hf _ (List.mem_of_getElem? (i := 246) (by decide +kernel))
  case h5 =>
    intro i hi; obtain rfl : i = 0 := by omega
    exact hf _ (List.mem_of_getElem? (i := 247) (by decide +kernel))
  case h6 =>
    intro i hi j hj; obtain rfl : i = 0 := by omega
    have hj : j < 6 := hj
    match j, hj with
    | 0, _ => exact hf _ (List.mem_of_getElem? (i := 248) (by decide +kernel))
    | 1, _ => exact hf _ (List.mem_of_getElem? (i := 249) (by decide +kernel))
    | 2, _ => exact hf _ (List.mem_of_getElem? (i := 250) (by decide +kernel))
    | 3, _ => exact hf _ (List.mem_of_getElem? (i := 251) (by decide +kernel))
    | 4, _ => exact hf _ (List.mem_of_getElem? (i := 252) (by decide +kernel))
    | 5, _ => exact hf _ (List.mem_of_getElem? (i := 253) (by decide +kernel))
    | j + 6, h => exact absurd h (by omega)
  case h7 => intro i j hi hj hne; exact absurd (show i = j by omega) hne
  case hm =>
    rintro adK ⟨adV, hS, hE⟩
    exact ⟨adK 0, adV 0, hS.1 0 (by decide), vk_R.of (hts _ (tbl_5 _ (List.mem_of_getElem? (i := 82) (by decide +kernel)))) (hE 0 (by decide))⟩
theorem zst_11 {args : Array Value} {s : State} (hts : ∀ w ∈ lw_tbl, w.before args s = true) (hf : ∀ w ∈ flatC (Jvm.Cond.and given_1 narrow_1), w.before args s = true) : ∃ a v : Nat, zStr1 a v (zsl 11) (zsb 11) (fun q => s.heap.size ≤ q) s s.heap ∧ vk_R (zsr 11).1 (zsr 11).2.1 (zsr 11).2.2 a s := by
  refine Exists.elim (vk_Sof (N := 1) (tm := fun _ => .string "TwoPensModel" 90) (len := [zsl 11]) (byt := [zsb 11]) (A := (fun q => s.heap.size ≤ q)) (args := args) (s := s) ?h1 ?h2 ?h3 ?h4 ?h5 ?h6 ?h7 (fun a h1 h2 => absurd h1 (Nat.not_lt.mpr h2))) ?hm
  case h1 => intro i hi; obtain rfl : i = 0 := by omega
             decide
  case h2 => intro i hi; exact hf _ (List.mem_of_getElem? (i := 264) (by decide +kernel))
  case h3 => intro i hi; exact hf _ (List.mem_of_getElem? (i := 265) (by decide +kernel))
  case h4 => intro i hi; exact hf _ (List.mem_of_getElem? (i := 266) (by decide +kernel))
  case h5 =>
    intro i hi; obtain rfl : i = 0 := by omega
    exact hf _ (List.mem_of_getElem? (i := 267) (by decide +kernel))
  case h6 =>
    intro i hi j hj; obtain rfl : i = 0 := by omega
    have hj : j < 3 := hj
    match j, hj with
    | 0, _ => exact hf _ (List.mem_of_getElem? (i := 268) (by decide +kernel))
    | 1, _ => exact hf _ (List.mem_of_getElem? (i := 269) (by decide +kernel))
    | 2, _ => exact hf _ (List.mem_of_getElem? (i := 270) (by decide +kernel))
    | j + 3, h => exact absurd h (by omega)
  case h7 => intro i j hi hj hne; exact absurd (show i = j by omega) hne
  case hm =>
    rintro adK ⟨adV, hS, hE⟩
    exact ⟨adK 0, adV 0, hS.1 0 (by decide), vk_R.of (hts _ (tbl_5 _ (List.mem_of_getElem? (i := 87) (by decide +kernel)))) (hE 0 (by decide))⟩
theorem zst_all {args : Array Value} {s : State} (hts : ∀ w ∈ lw_tbl, w.before args s = true) (hf : ∀ w ∈ flatC (Jvm.Cond.and given_1 narrow_1), w.before args s = true) : ∃ adK adV : Nat → Nat, ∀ i, i < zsN → zStr1 (adK i) (adV i) (zsl i) (zsb i) (fun q => s.heap.size ≤ q) s s.heap ∧ vk_R (zsr i).1 (zsr i).2.1 (zsr i).2.2 (adK i) s := by
  have h0 : ∀ i : Nat, ∃ q : Nat × Nat, i < zsN → zStr1 q.1 q.2 (zsl i) (zsb i) (fun q => s.heap.size ≤ q) s s.heap ∧ vk_R (zsr i).1 (zsr i).2.1 (zsr i).2.2 q.1 s := by
    intro i
    match i with
    | 0 => obtain ⟨a, v, h⟩ := zst_0 hts hf; exact ⟨(a, v), fun _ => h⟩
    | 1 => obtain ⟨a, v, h⟩ := zst_1 hts hf; exact ⟨(a, v), fun _ => h⟩
    | 2 => obtain ⟨a, v, h⟩ := zst_2 hts hf; exact ⟨(a, v), fun _ => h⟩
    | 3 => obtain ⟨a, v, h⟩ := zst_3 hts hf; exact ⟨(a, v), fun _ => h⟩
    | 4 => obtain ⟨a, v, h⟩ := zst_4 hts hf; exact ⟨(a, v), fun _ => h⟩
    | 5 => obtain ⟨a, v, h⟩ := zst_5 hts hf; exact ⟨(a, v), fun _ => h⟩
    | 6 => obtain ⟨a, v, h⟩ := zst_6 hts hf; exact ⟨(a, v), fun _ => h⟩
    | 7 => obtain ⟨a, v, h⟩ := zst_7 hts hf; exact ⟨(a, v), fun _ => h⟩
    | 8 => obtain ⟨a, v, h⟩ := zst_8 hts hf; exact ⟨(a, v), fun _ => h⟩
    | 9 => obtain ⟨a, v, h⟩ := zst_9 hts hf; exact ⟨(a, v), fun _ => h⟩
    | 10 => obtain ⟨a, v, h⟩ := zst_10 hts hf; exact ⟨(a, v), fun _ => h⟩
    | 11 => obtain ⟨a, v, h⟩ := zst_11 hts hf; exact ⟨(a, v), fun _ => h⟩
    | i + 12 => exact ⟨(0, 0), fun h => absurd h (by show ¬ i + 12 < 12; omega)⟩
  obtain ⟨ad, had⟩ := Classical.axiomOfChoice h0
  exact ⟨fun i => (ad i).1, fun i => (ad i).2, fun i hi => had i hi⟩
theorem z_known {args : Array Value} {s : State} (hts : ∀ w ∈ lw_tbl, w.before args s = true) (hf : ∀ w ∈ flatC (Jvm.Cond.and given_1 narrow_1), w.before args s = true) : ∃ G : zG, G.2.2.2 = s.heap.size ∧ zKn G s := by
  obtain ⟨c0, i0, k0⟩ := u_known (C := RX0) (T := TX0) (N := 4) (n := 4) (ws := zT) (fun w hw => hts w (zT_tbl w hw)) (fun w h => zi (inlX0 w h)) (hts _ (zT_tbl _ (zi zm351)))
  obtain ⟨c1, i1, k1⟩ := u_known (C := RX1) (T := TX1) (N := 4) (n := 4) (ws := zT) (fun w hw => hts w (zT_tbl w hw)) (fun w h => zi (inlX1 w h)) (hts _ (zT_tbl _ (zi zm360)))
  obtain ⟨c2, i2, k2⟩ := u_known (C := RX2) (T := TX2) (N := 13) (n := 13) (ws := zT) (fun w hw => hts w (zT_tbl w hw)) (fun w h => zi (inlX2 w h)) (hts _ (zT_tbl _ (zi zm13)))
  obtain ⟨c3, i3, k3⟩ := u_known (C := RX3) (T := TX3) (N := 4) (n := 4) (ws := zT) (fun w hw => hts w (zT_tbl w hw)) (fun w h => zi (inlX3 w h)) (hts _ (zT_tbl _ (zi zm354)))
  obtain ⟨c4, i4, k4⟩ := u_known (C := RX4) (T := TX4) (N := 4) (n := 4) (ws := zT) (fun w hw => hts w (zT_tbl w hw)) (fun w h => zi (inlX4 w h)) (hts _ (zT_tbl _ (zi zm366)))
  obtain ⟨c5, i5, k5⟩ := u_known (C := RX5) (T := TX5) (N := 2) (n := 2) (ws := zT) (fun w hw => hts w (zT_tbl w hw)) (fun w h => zi (inlX5 w h)) (hts _ (zT_tbl _ (zi zm31)))
  obtain ⟨c6, i6, k6⟩ := u_known (C := RX6) (T := TX6) (N := 5) (n := 5) (ws := zT) (fun w hw => hts w (zT_tbl w hw)) (fun w h => zi (inlX6 w h)) (hts _ (zT_tbl _ (zi zm27)))
  obtain ⟨c7, i7, k7⟩ := u_known (C := RX7) (T := TX7) (N := 5) (n := 5) (ws := zT) (fun w hw => hts w (zT_tbl w hw)) (fun w h => zi (inlX7 w h)) (hts _ (zT_tbl _ (zi zm363)))
  obtain ⟨c8, i8, k8⟩ := u_known (C := RX8) (T := TX8) (N := 2) (n := 2) (ws := zT) (fun w hw => hts w (zT_tbl w hw)) (fun w h => zi (inlX8 w h)) (hts _ (zT_tbl _ (zi zm18)))
  obtain ⟨c9, i9, k9⟩ := u_known (C := RX9) (T := TX9) (N := 4) (n := 4) (ws := zT) (fun w hw => hts w (zT_tbl w hw)) (fun w h => zi (inlX9 w h)) (hts _ (zT_tbl _ (zi zm357)))
  obtain ⟨c10, i10, k10⟩ := u_known (C := RX10) (T := TX10) (N := 4) (n := 4) (ws := zT) (fun w hw => hts w (zT_tbl w hw)) (fun w h => zi (inlX10 w h)) (hts _ (zT_tbl _ (zi zm348)))
  obtain ⟨c11, i11, k11⟩ := u_known (C := RX11) (T := TX11) (N := 4) (n := 4) (ws := zT) (fun w hw => hts w (zT_tbl w hw)) (fun w h => zi (inlX11 w h)) (hts _ (zT_tbl _ (zi zm1)))
  obtain ⟨c12, i12, k12⟩ := u_known (C := RX12) (T := TX12) (N := 24) (n := 24) (ws := zT) (fun w hw => hts w (zT_tbl w hw)) (fun w h => zi (inlX12 w h)) (hts _ (zT_tbl _ (zi zm4)))
  obtain ⟨cI, kI, pI, aI1, aI2, aI3⟩ := Cond.arrayClass_spec (hts _ (zT_tbl _ (zi zm45)))
  obtain ⟨cZ, kZ, pZ, aZ1, aZ2, aZ3⟩ := Cond.arrayClass_spec (hts _ (zT_tbl _ (zi zm67)))
  have hAO : (Cond.arrayOver (.object RX4)).before args s = true := hts _ (tbl_1 _ (List.mem_of_getElem? (i := 35) (by decide +kernel)))
  obtain ⟨pL, cL, kL, aL1, aL2, aL3, aL4, aL5⟩ := Cond.arrayOver_spec hAO
  obtain ⟨adK, adV, hStr⟩ := zst_all hts hf
  have hA : ∀ a : Nat, a < s.heap.size → ¬ (fun q => s.heap.size ≤ q) a := fun a h1 h2 => absurd h1 (Nat.not_lt.mpr h2)
  obtain ⟨dC, dI, hKc⟩ : ∃ (dC : Nat → ClassId) (dI : Nat → Nat → Nat), ∀ (k : Nat) (q : vw_C), zcl[k]? = some q → u_Kn s q.1 q.2.1 q.2.2 (dC k) (dI k) := by
    refine ⟨fun k => [c0, c1, c2, c3, c4, c5, c6, c7, c8, c9, c10, c11, c12].getD k c0, fun k => [i0, i1, i2, i3, i4, i5, i6, i7, i8, i9, i10, i11, i12].getD k i0, ?_⟩
    intro k q hq
    match k, hq with
    | 0, hq => cases hq; exact k0
    | 1, hq => cases hq; exact k1
    | 2, hq => cases hq; exact k2
    | 3, hq => cases hq; exact k3
    | 4, hq => cases hq; exact k4
    | 5, hq => cases hq; exact k5
    | 6, hq => cases hq; exact k6
    | 7, hq => cases hq; exact k7
    | 8, hq => cases hq; exact k8
    | 9, hq => cases hq; exact k9
    | 10, hq => cases hq; exact k10
    | 11, hq => cases hq; exact k11
    | 12, hq => cases hq; exact k12
    | k + 13, hq => simp [zcl] at hq
  refine ⟨((dC, dI), (cI, cZ, cL), (adK, adV), s.heap.size), rfl, ⟨hKc, ?_⟩, Nat.le_refl _, ?_, ?_, ?_, va_AO.of hAO, hStr, ?_, ?_⟩
  · intro k q hk
    match k, hk with
    | 0, hk => cases hk; exact ⟨fun n z => ⟨fun k h => (by cases h), kI, aI2, pI, aI3⟩, aI1⟩
    | 1, hk => cases hk; exact ⟨fun n z => ⟨fun k h => (by cases h), kZ, aZ2, pZ, aZ3⟩, aZ1⟩
    | 2, hk => cases hk; exact ⟨fun n z => ⟨fun k h => (by cases h), kL, aL3, pL, aL4⟩, kL, pL, aL3, aL4, aL1, aL5⟩
    | k + 3, hk => cases hk
  · exact List.forall_mem_cons.mpr ⟨va_Nw.of rfl (hts _ (tbl_1 _ (List.mem_of_getElem? (i := 30) (by decide +kernel)))), List.forall_mem_cons.mpr ⟨va_Nw.of rfl (hts _ (tbl_1 _ (List.mem_of_getElem? (i := 38) (by decide +kernel)))), List.forall_mem_cons.mpr ⟨va_Nw.of rfl (hts _ (tbl_1 _ (List.mem_of_getElem? (i := 134) (by decide +kernel)))), List.forall_mem_cons.mpr ⟨va_Nw.of rfl (hts _ (tbl_1 _ (List.mem_of_getElem? (i := 176) (by decide +kernel)))), fun _ h => absurd h List.not_mem_nil⟩⟩⟩⟩
  · exact List.forall_mem_cons.mpr ⟨va_Nw.of rfl (hts _ (tbl_6 _ (List.mem_of_getElem? (i := 114) (by decide +kernel)))), List.forall_mem_cons.mpr ⟨va_Nw.of rfl (hts _ (tbl_6 _ (List.mem_of_getElem? (i := 111) (by decide +kernel)))), List.forall_mem_cons.mpr ⟨va_Nw.of rfl (hts _ (tbl_6 _ (List.mem_of_getElem? (i := 117) (by decide +kernel)))), List.forall_mem_cons.mpr ⟨va_Nw.of rfl (hts _ (tbl_6 _ (List.mem_of_getElem? (i := 115) (by decide +kernel)))), List.forall_mem_cons.mpr ⟨va_Nw.of rfl (hts _ (tbl_6 _ (List.mem_of_getElem? (i := 112) (by decide +kernel)))), List.forall_mem_cons.mpr ⟨va_Nw.of rfl (hts _ (tbl_6 _ (List.mem_of_getElem? (i := 118) (by decide +kernel)))), List.forall_mem_cons.mpr ⟨va_Nw.of rfl (hts _ (tbl_6 _ (List.mem_of_getElem? (i := 116) (by decide +kernel)))), List.forall_mem_cons.mpr ⟨va_Nw.of rfl (hts _ (tbl_6 _ (List.mem_of_getElem? (i := 110) (by decide +kernel)))), List.forall_mem_cons.mpr ⟨va_Nw.of rfl (hts _ (tbl_6 _ (List.mem_of_getElem? (i := 113) (by decide +kernel)))), List.forall_mem_cons.mpr ⟨va_Nw.of rfl (hts _ (tbl_3 _ (List.mem_of_getElem? (i := 38) (by decide +kernel)))), fun _ h => absurd h List.not_mem_nil⟩⟩⟩⟩⟩⟩⟩⟩⟩⟩
  · exact List.forall_mem_cons.mpr ⟨va_Nc.of (hf _ (List.mem_of_getElem? (i := 73) (by decide +kernel))), List.forall_mem_cons.mpr ⟨va_Nc.of (hf _ (List.mem_of_getElem? (i := 50) (by decide +kernel))), List.forall_mem_cons.mpr ⟨va_Nc.of (hf _ (List.mem_of_getElem? (i := 16) (by decide +kernel))), List.forall_mem_cons.mpr ⟨va_Nc.of (hf _ (List.mem_of_getElem? (i := 61) (by decide +kernel))), List.forall_mem_cons.mpr ⟨va_Nc.of (hf _ (List.mem_of_getElem? (i := 27) (by decide +kernel))), List.forall_mem_cons.mpr ⟨va_Nc.of (hf _ (List.mem_of_getElem? (i := 52) (by decide +kernel))), List.forall_mem_cons.mpr ⟨va_Nc.of (hf _ (List.mem_of_getElem? (i := 19) (by decide +kernel))), List.forall_mem_cons.mpr ⟨va_Nc.of (hf _ (List.mem_of_getElem? (i := 63) (by decide +kernel))), List.forall_mem_cons.mpr ⟨va_Nc.of (hf _ (List.mem_of_getElem? (i := 29) (by decide +kernel))), List.forall_mem_cons.mpr ⟨va_Nc.of (hf _ (List.mem_of_getElem? (i := 39) (by decide +kernel))), List.forall_mem_cons.mpr ⟨va_Nc.of (hf _ (List.mem_of_getElem? (i := 74) (by decide +kernel))), List.forall_mem_cons.mpr ⟨va_Nc.of (hf _ (List.mem_of_getElem? (i := 17) (by decide +kernel))), List.forall_mem_cons.mpr ⟨va_Nc.of (hf _ (List.mem_of_getElem? (i := 62) (by decide +kernel))), List.forall_mem_cons.mpr ⟨va_Nc.of (hf _ (List.mem_of_getElem? (i := 28) (by decide +kernel))), List.forall_mem_cons.mpr ⟨va_Nc.of (hf _ (List.mem_of_getElem? (i := 42) (by decide +kernel))), List.forall_mem_cons.mpr ⟨va_Nc.of (hf _ (List.mem_of_getElem? (i := 77) (by decide +kernel))), List.forall_mem_cons.mpr ⟨va_Nc.of (hf _ (List.mem_of_getElem? (i := 53) (by decide +kernel))), List.forall_mem_cons.mpr ⟨va_Nc.of (hf _ (List.mem_of_getElem? (i := 20) (by decide +kernel))), List.forall_mem_cons.mpr ⟨va_Nc.of (hf _ (List.mem_of_getElem? (i := 65) (by decide +kernel))), List.forall_mem_cons.mpr ⟨va_Nc.of (hf _ (List.mem_of_getElem? (i := 31) (by decide +kernel))), List.forall_mem_cons.mpr ⟨va_Nc.of (hf _ (List.mem_of_getElem? (i := 41) (by decide +kernel))), List.forall_mem_cons.mpr ⟨va_Nc.of (hf _ (List.mem_of_getElem? (i := 76) (by decide +kernel))), List.forall_mem_cons.mpr ⟨va_Nc.of (hf _ (List.mem_of_getElem? (i := 64) (by decide +kernel))), List.forall_mem_cons.mpr ⟨va_Nc.of (hf _ (List.mem_of_getElem? (i := 30) (by decide +kernel))), List.forall_mem_cons.mpr ⟨va_Nc.of (hf _ (List.mem_of_getElem? (i := 40) (by decide +kernel))), List.forall_mem_cons.mpr ⟨va_Nc.of (hf _ (List.mem_of_getElem? (i := 75) (by decide +kernel))), List.forall_mem_cons.mpr ⟨va_Nc.of (hf _ (List.mem_of_getElem? (i := 51) (by decide +kernel))), List.forall_mem_cons.mpr ⟨va_Nc.of (hf _ (List.mem_of_getElem? (i := 18) (by decide +kernel))), List.forall_mem_cons.mpr ⟨va_Nc.of (hf _ (List.mem_of_getElem? (i := 38) (by decide +kernel))), List.forall_mem_cons.mpr ⟨va_Nc.of (hf _ (List.mem_of_getElem? (i := 72) (by decide +kernel))), List.forall_mem_cons.mpr ⟨va_Nc.of (hf _ (List.mem_of_getElem? (i := 49) (by decide +kernel))), List.forall_mem_cons.mpr ⟨va_Nc.of (hf _ (List.mem_of_getElem? (i := 15) (by decide +kernel))), List.forall_mem_cons.mpr ⟨va_Nc.of (hf _ (List.mem_of_getElem? (i := 60) (by decide +kernel))), fun _ h => absurd h List.not_mem_nil⟩⟩⟩⟩⟩⟩⟩⟩⟩⟩⟩⟩⟩⟩⟩⟩⟩⟩⟩⟩⟩⟩⟩⟩⟩⟩⟩⟩⟩⟩⟩⟩⟩
  · exact va_Zof (args := args) (hts _ (tbl_1 _ (List.mem_of_getElem? (i := 206) (by decide +kernel)))) (hts _ (tbl_1 _ (List.mem_of_getElem? (i := 8) (by decide +kernel)))) (va_eqt (hf _ (List.mem_of_getElem? (i := 4) (by decide +kernel)))) hA
  · exact va_Zqof (args := args) (hts _ (tbl_1 _ (List.mem_of_getElem? (i := 222) (by decide +kernel)))) (hts _ (tbl_1 _ (List.mem_of_getElem? (i := 10) (by decide +kernel)))) (hf _ (List.mem_of_getElem? (i := 5) (by decide +kernel))) hA
