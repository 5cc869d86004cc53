/-- the start -/
theorem si_init (tkk rkk : Nat → Int64) (tlk tlv : Nat → Int32) : SI 0 1 0 (fun _ => 0) 0 0 0 (-1) 0 (fun _ => 0) (fun _ => 0) 0 0 (-1) tkk tlk tlv 0 (-1) rkk 199 (-1) := by
  refine ⟨Or.inr rfl, ⟨⟨0, by decide, rfl, fun i hi => absurd hi (Nat.not_lt_zero i)⟩, ⟨0, by decide, rfl⟩, ⟨0, by decide, rfl⟩⟩, ⟨fun i _ t _ => ?_, fun p hp => ?_, ⟨0, by decide, rfl, by decide, by decide⟩, ⟨fun _ => 0, fun _ => 0, ⟨rfl, fun h => absurd rfl h, fun p _ h => absurd rfl h, fun p _ _ e _ => rfl, fun o _ _ h => absurd rfl h⟩, fun h => absurd h (by decide)⟩, fun h => absurd h (by decide), by decide, by decide⟩, vp_in_nI (n := 199) (N := 200) (by decide) (by decide), Or.inl rfl, fun _ => ⟨199, by decide, rfl, Or.inl ⟨rfl, rfl⟩⟩⟩
  · show bl 0 _ = bt 0 t
    rw [l_0, b_0]
  · have e : pWrit (fun _ => 0) p = 0 := by
      apply b_ext
      intro t ht
      rw [m_writ hp ht, b_0, b_0]
    unfold wN
    rw [e]
    exact Nat.le_refl 0
theorem ty_of {args : Array Value} {s : State} {ty : FieldType} (hno : ∀ C, ty ≠ .object C) (h : (Cond.arrayClass ty).before args s = true) : ∃ cA, ArrOfT s cA ty ∧ va_RA s cA ty := by
  obtain ⟨cA, kA, comp, h1, h2, h3⟩ := Cond.arrayClass_spec h
  refine ⟨cA, fun n z => ⟨fun k h => (by cases h), kA, h2, comp, h3⟩, ?_⟩
  cases ty with
  | object C => exact absurd rfl (hno C)
  | _ => exact h1
