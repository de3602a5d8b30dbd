/-! ===== the law: what its cases share ===== -/
theorem sc_in {y x k : Int32} {L : Nat} (n : Int) (hk : k.toInt = n) (h0 : 0 ≤ n) (h4 : n ≤ 4) (e : x = y + k) (hy : 0 ≤ y.toInt ∧ y.toInt + 5 ≤ (L : Int)) (hL : L ≤ 2560) : vp_in x L := by
  have h : x.toInt = y.toInt + n := by
    rw [e, Int32.toInt_add, hk]
    exact rg_bm (by omega) (by omega)
  exact vp_in_iff.mpr ⟨by omega, by omega⟩
theorem th_Al {τ : th_t} {H0 H : Heap} {locs : List Loc} {A : Nat → Prop} (hT : ∀ q, τ q ≠ 0 → H0.size ≤ q) (hS : va_S A H0 H locs) : ∀ q, th_A τ H.size q → H0.size ≤ q := fun q h => h.elim (hT q) (fun h => Nat.le_trans hS.1 h)
theorem th_AlC {τ : th_t} {H0 H : Heap} {locs : List Loc} {A : Nat → Prop} {a : Nat} (hT : ∀ q, τ q ≠ 0 → H0.size ≤ q) (hS : va_S A H0 H locs) (ha : H0.size ≤ a) : ∀ q, th_AC τ H.size a q → H0.size ≤ q := fun q h => h.elim (fun e => by rw [e]; exact ha) (th_Al hT hS q)
theorem th_Tx {M : List Nat} {τ : th_t} {gi : th_i} {gr : th_r} {sz h0 b : Nat} {τ1 : th_t} {gi1 : th_i} {gr1 : th_r} (hT : ∀ q, τ q ≠ 0 → b ≤ q) (h : th_Ext M τ gi gr sz h0 τ1 gi1 gr1) (hb : b ≤ sz) (h0b : b ≤ h0) : ∀ q, τ1 q ≠ 0 → b ≤ q := fun q hq => by
  rcases h.2.1 q hq with h1 | h1 | h1
  · exact hT q h1
  · rw [h1]; exact h0b
  · exact Nat.le_trans hb h1
/-- the start and the end of a case -/
abbrev lc_K (p : Program) (l : Launch) (e : Env) (s : State) (m : MethodId) (below : List Frame) (meth : Method) (c : Code) (D : va_G) (cA : Nat → ClassId) (b q1 q2 : Nat) (y : Int32) (V : th_t → th_i → th_r → Prop) (cells slots : Nat) (Q : State → Prop) (pc : Nat) : Prop := ∀ (τ : th_t) (gi : th_i) (gr : th_r) (H : Heap) (locs : List Loc) (ls : Array Slot), th_H D cA τ gi gr H → va_S (fun q : Nat => s.heap.size ≤ q) s.heap H locs → (∀ q, τ q ≠ 0 → s.heap.size ≤ q) → τ q1 = 11 → τ q2 = 12 → V τ gi gr → lv_has ls 4 [(0, .ref b), (1, .ref q1), (2, .ref q2), (3, .int y)] → W p l e room_1 s m #[Value.ref b] below meth c H locs cells slots Q (F0 m pc ls [])
