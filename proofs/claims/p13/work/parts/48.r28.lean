/-! ===== the core at the start; about, dues ===== -/
section AB
variable {τ τ1 : th_t} {Z : th_Zt} {gi gi1 gm gm2 : th_i} {gr gr1 rm rm2 : th_r} {A : Nat → Nat} {M1 M2 : List Nat}
theorem st_core (h24 : ∀ j : Nat, j < 16 → gi (A 24) j = -1) (h25 : ∀ j : Nat, j < 12 → gi (A 25) j = -1) (h10 : gi (A 10) 2 = 0) (m8 : gm (A 12) 8 = 0) (m0 : gm (A 12) 0 = 0) (m17 : gm (A 12) 17 = 0) (m55 : gm (A 55) = fun _ => 0) : c_core τ gi gr gm A := by
  unfold c_core
  rw [m8, m0, m17, h10, m55, k_0]
  have r : ∀ hi : Int, 0 ≤ hi → rg (-1) hi (-1 : Int32) := fun hi q => ⟨by rw [k_m1]; omega, by rw [k_m1]; omega⟩
  refine ⟨⟨fun i hi => ?_, fun p hp => ?_⟩, fun i hi => by omega, fun p hp => by omega, ⟨⟨by rw [k_0]; omega, by rw [k_0]; omega⟩, fun k hk => by rw [k_0] at hk; omega, fun k k' hk => by rw [k_0] at hk; omega⟩, rfl, fun k hk => by omega, fun i q hi => by omega, fun _ _ _ => rfl⟩
  · rw [h24 i hi]
    exact ⟨r _ (by decide), fun q => by rw [k_m1] at q; omega⟩
  · rw [h25 p hp]
    exact ⟨r _ (by decide), fun q => by rw [k_m1] at q; omega⟩
end AB
