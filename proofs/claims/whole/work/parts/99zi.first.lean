/-! The two memories behind the constructors show the same first state. -/
def kz_F : Nat → Int32 := upd (upd (fun _ => 0) 0 2) 5 1
theorem kz_F0 {j : Nat} (h0 : j ≠ 0) (h5 : j ≠ 5) : kz_F j = 0 := by
  show (if j = 5 then (1 : Int32) else if j = 0 then 2 else 0) = 0
  rw [if_neg h5, if_neg h0]
theorem kz_ok0 : kb_ok kz_F 2 0 0 := by
  refine ⟨⟨by decide +kernel, by omega, by omega, ⟨by omega, by decide +kernel, fun r h => absurd h (Nat.not_lt_zero r)⟩, fun r h => absurd h (Nat.not_lt_zero r)⟩, by decide +kernel, by omega, kr_good_0 kz_F (-1), by decide +kernel, fun t _ => ?_, ⟨0, by omega, by decide +kernel⟩, ⟨0, by omega, by decide +kernel⟩, ⟨1, by omega, by decide +kernel⟩⟩
  have h : kz_F (172 + 3 * t) = 0 := kz_F0 (by omega) (by omega)
  exact ⟨Or.inl h, fun h1 => absurd (h.symm.trans h1) (by decide)⟩
theorem kz_sh0 : kx_sh kwX0 1 12 kz_F 2 0 0 := by
  refine ⟨⟨by decide +kernel, by decide +kernel, fun r h => absurd h (Nat.not_lt_zero r), by decide +kernel⟩, ⟨by decide +kernel, by decide +kernel, by decide +kernel⟩, ⟨by decide +kernel, fun t _ h1 => ?_⟩, ⟨by decide +kernel, by decide +kernel⟩, by decide +kernel, by decide +kernel, ⟨by decide +kernel, by decide +kernel⟩⟩
  have h : kz_F (172 + 3 * t) = 0 := kz_F0 (by omega) (by omega)
  exact absurd (h.symm.trans h1) (by decide)
theorem kz_first : kw_Rel kwX0 kwM0 := ⟨2, 0, 0, kz_ok0, kz_sh0, ⟨by decide +kernel, Or.inl (by decide +kernel)⟩, ⟨0, by omega, by decide +kernel, by decide +kernel, fun i h => absurd h (Nat.not_lt_zero i)⟩, Or.inl (by decide +kernel)⟩
