def zS0 : zS := (0, fun _ => (0, 0), fun _ _ => 0, fun _ _ => none)
theorem gd_some {α : Type} {x : Option α} {d : α} (h : x.isSome = true) : x = some (x.getD d) := by
  cases x with
  | none => cases h
  | some a => rfl
def st1I : zS := (f_X11_init (zNw zS0 21 0) zS0.1).getD zS0
def stI : zS := (f_X12_init (zNw st1I 22 0) st1I.1).getD zS0
theorem e1I : f_X11_init (zNw zS0 21 0) zS0.1 = some st1I := gd_some (by decide +kernel)
theorem e2I : f_X12_init (zNw st1I 22 0) st1I.1 = some stI := gd_some (by decide +kernel)
theorem n1I : st1I.1 = 39 := by decide +kernel
theorem kI : ∀ c, c < 12 → zM stI 40 c = nI (if c = 7 then 4294967295 else 0) := by decide +kernel
theorem kkI : ∀ c, c < 12 → K stI 40 c = 0 := by decide +kernel
theorem inv0 : Inv stI := by
  have hk : ∀ (o c b cap : Nat) (P : Int32 → Prop), c < 12 → c ≠ 7 → zM stI o 1 = nI 0 → NumR stI o 40 c b cap P := fun o c b cap P h1 h2 h3 => by
    refine ⟨⟨?_, by rw [kkI c h1]; omega⟩, by rw [h3, kI c h1, if_neg h2], fun i hi => by rw [kkI c h1] at hi; omega⟩
    rw [kkI c h1, kI c h1, if_neg h2]
  refine ⟨⟨by decide +kernel, by decide +kernel, by decide +kernel, fun k hk j hj a q => absurd q (by
    have e : ∀ k, k < 21 → (k = 2 ∨ k = 20) → ∀ j, j < 6 → zR stI k j = none := by decide +kernel
    rw [e k (by omega) hk j hj]; exact fun q => by cases q)⟩, ⟨⟨⟨by decide +kernel, by decide +kernel⟩, by decide +kernel⟩, ⟨⟨by decide +kernel, by decide +kernel⟩, by decide +kernel⟩, by decide +kernel, by decide +kernel, hk _ _ _ _ _ (by decide) (by decide) (by decide +kernel), hk _ _ _ _ _ (by decide) (by decide) (by decide +kernel), hk _ _ _ _ _ (by decide) (by decide) (by decide +kernel), hk _ _ _ _ _ (by decide) (by decide) (by decide +kernel), hk _ _ _ _ _ (by decide) (by decide) (by decide +kernel), hk _ _ _ _ _ (by decide) (by decide) (by decide +kernel), hk _ _ _ _ _ (by decide) (by decide) (by decide +kernel), fun i j hi => by rw [kkI 2 (by decide)] at hi; omega, fun w hw => by rw [kkI 0 (by decide)] at hw; omega, 3, by decide +kernel, ?_⟩, by decide +kernel, Or.inl (by decide +kernel), by decide +kernel, 0, by omega, by decide +kernel, fun i hi => by omega⟩
  exact ⟨20, 3, 0, 4, 0, fun _ => 0, by decide +kernel, by decide +kernel, by decide +kernel, by decide +kernel, Or.inl rfl, Or.inl rfl, by decide +kernel, by decide +kernel, by decide +kernel, by decide +kernel, by omega, by omega, by omega, by omega, by omega, by omega, rfl, fun i hi => by omega, Or.inl ⟨by decide +kernel, rfl, rfl, rfl, rfl⟩⟩
