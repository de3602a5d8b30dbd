/-! ===== roles: A i is the cell that plays the part i (i is its code, but 13, 38, 39: the storm's berths and its rows) ===== -/
def th_J (τ : th_t) (gi : th_i) (gr : th_r) : Prop := ∀ a, τ a ≠ 0 → th_I (τ a) τ (gi a) (gr a)
theorem th_H.J {D : va_G} {cA : Nat → ClassId} {τ : th_t} {gi : th_i} {gr : th_r} {H : Heap} (h : th_H D cA τ gi gr H) : th_J τ gi gr := fun a ha => (h a ha).2
theorem th_J.at {τ : th_t} {gi : th_i} {gr : th_r} {a c : Nat} (h : th_J τ gi gr) (ht : τ a = c) (hc : c ≠ 0) : th_I c τ (gi a) (gr a) := by
  subst ht
  exact h a hc
def ro_c (i : Nat) : Nat := if i = 13 then 2 else if i = 38 then 24 else if i = 39 then 25 else i
def rc_L : List Nat := [11, 1, 10, 7, 6, 5, 2, 13, 20, 21, 22, 23, 24, 25, 28, 29, 30, 31, 32, 33, 34, 35, 36, 37, 38, 39]
def rc_E : List (Nat × Nat × Nat) := [(11, 0, 1), (11, 1, 10), (11, 2, 7), (11, 3, 6), (11, 4, 5), (11, 5, 36), (11, 6, 37), (1, 0, 20), (1, 1, 21), (1, 2, 22), (1, 3, 23), (1, 4, 2), (10, 0, 1), (10, 1, 35), (7, 0, 1), (7, 1, 30), (7, 3, 31), (7, 4, 32), (7, 5, 33), (7, 6, 34), (6, 0, 1), (6, 1, 28), (6, 2, 29), (5, 0, 1), (5, 1, 13), (2, 0, 24), (2, 1, 25), (13, 0, 38), (13, 1, 39)]
def rm_E : List (Nat × Nat) := [(1, 40), (2, 41), (3, 42), (4, 43), (5, 44), (6, 45), (7, 46), (9, 47), (10, 48), (11, 49), (12, 50), (13, 51), (15, 52), (16, 53), (18, 54), (19, 55), (21, 56), (22, 57), (25, 58), (26, 59), (28, 60), (29, 61), (30, 62), (31, 63), (32, 64), (34, 65), (35, 66), (36, 67), (37, 68)]
def ro_C (τ : th_t) (gr : th_r) (A : Nat → Nat) : Prop := (∀ i ∈ rc_L, τ (A i) = ro_c i) ∧ (∀ e ∈ rc_E, gr (A e.1) e.2.1 = some (A e.2.2)) ∧ A 13 ≠ A 2 ∧ A 38 ≠ A 24 ∧ A 39 ≠ A 25
def ro_M (τ : th_t) (rm : th_r) (A : Nat → Nat) : Prop := τ (A 12) = 12 ∧ ∀ e ∈ rm_E, τ (A e.2) = e.2 ∧ rm (A 12) e.1 = some (A e.2)
section RO
variable {τ τ' : th_t} {gi gi' gm gm' : th_i} {gr gr' rm rm' : th_r} {A : Nat → Nat} {M : List Nat}
theorem ro_C.t (h : ro_C τ gr A) (i c : Nat) (hi : i ∈ rc_L) (hc : ro_c i = c) : τ (A i) = c := by rw [h.1 i hi, hc]
theorem ro_C.e (h : ro_C τ gr A) (i k j : Nat) (he : (i, k, j) ∈ rc_E) : gr (A i) k = some (A j) := h.2.1 (i, k, j) he
theorem ro_C.g (h : ro_C τ gr A) (i k j : Nat) (he : (i, k, j) ∈ rc_E) : (gr (A i) k).getD 0 = A j := by rw [h.e i k j he]; rfl
theorem ro_M.t (h : ro_M τ rm A) (k c : Nat) (hi : (k, c) ∈ rm_E) : τ (A c) = c := (h.2 (k, c) hi).1
theorem ro_M.e (h : ro_M τ rm A) (k c : Nat) (hi : (k, c) ∈ rm_E) : rm (A 12) k = some (A c) := (h.2 (k, c) hi).2
theorem ro_M.g (h : ro_M τ rm A) (k c : Nat) (hi : (k, c) ∈ rm_E) : (rm (A 12) k).getD 0 = A c := by rw [h.e k c hi]; rfl
theorem ro_C.mod (h : ro_C τ gr A) (hM : th_Mod M τ gi gr gi' gr') (hk : ∀ e ∈ rc_E, e.1 ∈ rc_L ∧ ro_c e.1 ≠ 0 ∧ th_key (ro_c e.1) e.2.1 ∉ M) : ro_C τ gr' A := by
  refine ⟨h.1, fun e he => ?_, h.2.2⟩
  obtain ⟨k1, k2, k3⟩ := hk e he
  have t := h.1 e.1 k1
  rw [(hM (A e.1) e.2.1 (by rw [t]; exact k2) (by rw [t]; exact k3)).2]
  exact h.2.1 e he
theorem ro_M.mod (h : ro_M τ rm A) (hM : th_Mod M τ gm rm gm' rm') (hk : ∀ e ∈ rm_E, th_key 12 e.1 ∉ M) : ro_M τ rm' A := by
  refine ⟨h.1, fun e he => ⟨(h.2 e he).1, ?_⟩⟩
  rw [(hM (A 12) e.1 (by rw [h.1]; decide) (by rw [h.1]; exact hk e he)).2]
  exact (h.2 e he).2
theorem ro_C.ext (h : ro_C τ gr A) (hx : ∀ b, τ b ≠ 0 → τ' b = τ b) (hz : ∀ i ∈ rc_L, ro_c i ≠ 0) : ro_C τ' gr A := by
  refine ⟨fun i hi => ?_, h.2⟩
  rw [hx _ (by rw [h.1 i hi]; exact hz i hi)]
  exact h.1 i hi
theorem ro_M.ext (h : ro_M τ rm A) (hx : ∀ b, τ b ≠ 0 → τ' b = τ b) (hz : ∀ e ∈ rm_E, e.2 ≠ 0) : ro_M τ' rm A := by
  refine ⟨?_, fun e he => ⟨?_, (h.2 e he).2⟩⟩
  · rw [hx _ (by rw [h.1]; decide)]; exact h.1
  · rw [hx _ (by rw [(h.2 e he).1]; exact hz e he)]; exact (h.2 e he).1
theorem rc_ok : ∀ i ∈ rc_L, ro_c i ≠ 0 := by decide
theorem rm_ok : ∀ e ∈ rm_E, e.2 ≠ 0 := by decide
theorem rc_okE (hk : rc_E.all (fun e => !(M.contains (th_key (ro_c e.1) e.2.1))) = true) : ∀ e ∈ rc_E, e.1 ∈ rc_L ∧ ro_c e.1 ≠ 0 ∧ th_key (ro_c e.1) e.2.1 ∉ M := by
  intro e he
  have h1 : ∀ e ∈ rc_E, e.1 ∈ rc_L := by decide
  refine ⟨h1 e he, rc_ok _ (h1 e he), fun hq => ?_⟩
  have h2 := List.all_eq_true.mp hk e he
  simp at h2
  exact h2 hq
theorem rm_okE (hk : rm_E.all (fun e => !(M.contains (th_key 12 e.1))) = true) : ∀ e ∈ rm_E, th_key 12 e.1 ∉ M := by
  intro e he hq
  have h2 := List.all_eq_true.mp hk e he
  simp at h2
  exact h2 hq
/-- a cell that isn't among the written ones -/
theorem ro_k (hM : th_Mod M τ gi gr gi' gr') {a c : Nat} (k : Nat) (ht : τ a = c) (hc : c ≠ 0) (hk : th_key c k ∉ M) : gi' a k = gi a k ∧ gr' a k = gr a k := hM a k (by rw [ht]; exact hc) (by rw [ht]; exact hk)
theorem ro_ka (hM : th_Mod M τ gi gr gi' gr') {a c : Nat} (ht : τ a = c) (hc : 20 ≤ c) (hk : c * 100 ∉ M) : gi' a = gi a ∧ gr' a = gr a := by
  have h : ∀ j, gi' a j = gi a j ∧ gr' a j = gr a j := fun j => ro_k hM j ht (by omega) (by unfold th_key; rw [if_neg (by omega)]; exact hk)
  exact ⟨funext fun j => (h j).1, funext fun j => (h j).2⟩
end RO
