section THR
variable {p : Program} {l : Launch} {e : Env} {R : Room} {s : State} {m : MethodId} {args : Array Value} {below : List Frame} {meth : Method} {c : Code} {H : Heap} {locs : List Loc} {cells slots : Nat} {Q : State → Prop}
variable {cc : ByteArray} {pc : Nat} {ls : Array Slot} {rest : List Value} {D : va_G} {A : Nat → Prop} {a k0 : Nat} {tys : List (ClassId × FieldType)} {H0 : Heap} {cA : Nat → ClassId} {τ : th_t} {gi : th_i} {gr : th_r}
theorem th_iastR (hexec : p.tables.exec = Jvm.exec) (hb : c.code = cc) (hK : va_K D classes tys s) (hH : th_H D cA τ gi gr H) (hS : va_S A H0 H locs) (ht : τ a = k0) (h0 : k0 ≠ 0) (hAa : A a) (t0 : Nat) {cI : ClassId} {n : Nat} (he : ∀ f : Nat → Int32, th_E cA k0 f (gr a) = .inl (cI, n, .inl f)) (hty : tys[t0]? = some (cI, .int)) {i x : Int32} (hin : vp_in i n) (hI : th_I k0 τ (upd (gi a) i.toNatClampNeg x) (gr a)) (hdg : decode cc pc = .ok (.iastore, 1))
    (kk : ∀ (gi' : th_i) (H1 : Heap) (locs1 : List Loc), gi' a i.toNatClampNeg = x → (∀ b j, b ≠ a ∨ j ≠ i.toNatClampNeg → gi' b j = gi b j) → th_H D cA τ gi' gr H1 → va_S A H0 H1 locs1 → (∀ q : Nat, q ≠ a → H1[q]? = H[q]?) → W p l e R s m args below meth c H1 locs1 cells slots Q (F0 m (pc + 1) ls rest)) : W p l e R s m args below meth c H locs cells slots Q (F0 m pc ls (.int x :: .int i :: .ref a :: rest)) := by
  have hP := hH.P ht h0 (he _)
  refine W.iast hexec hb (hP 0 _ rfl) ((hK.2 t0 _ hty).1 n (fun j => .int (gi a j))) (fun q => by cases q) (by show ¬ (i < 0 ∨ (arrV _ _ _).slots.size ≤ _); rw [arrV_size]; exact hin) rfl rfl hdg fun H1 e z oq => ?_
  refine kk (va_up gi a (upd (gi a) i.toNatClampNeg x)) H1 _ th_upI.1 th_upI.2 (hH.set ht ?_ (by rw [va_up_self]; exact hI) oq (fun b hb => ⟨va_up_ne _ _ hb, rfl⟩)) (hS.put z oq hAa) oq
  rw [va_up_self, he]
  show H1[a]? = some (vp_cell _ _)
  rw [e, vp_cell_i, vp_cell_i, arrV_store]
  congr 2
  funext q
  by_cases hq : q = i.toNatClampNeg
  · subst hq
    simp [updV, upd]
  · simp [updV, upd, hq]
theorem th_zastR (hexec : p.tables.exec = Jvm.exec) (hb : c.code = cc) (hK : va_K D classes tys s) (hH : th_H D cA τ gi gr H) (hS : va_S A H0 H locs) (ht : τ a = k0) (h0 : k0 ≠ 0) (hAa : A a) (t0 : Nat) {cI : ClassId} {n : Nat} (he : ∀ f : Nat → Int32, th_E cA k0 f (gr a) = .inl (cI, n, .inl f)) (hty : tys[t0]? = some (cI, .boolean)) {i x : Int32} (hx : rg 0 1 x) (hin : vp_in i n) (hI : th_I k0 τ (upd (gi a) i.toNatClampNeg x) (gr a)) (hdg : decode cc pc = .ok (.bastore, 1))
    (kk : ∀ (gi' : th_i) (H1 : Heap) (locs1 : List Loc), gi' a i.toNatClampNeg = x → (∀ b j, b ≠ a ∨ j ≠ i.toNatClampNeg → gi' b j = gi b j) → th_H D cA τ gi' gr H1 → va_S A H0 H1 locs1 → (∀ q : Nat, q ≠ a → H1[q]? = H[q]?) → W p l e R s m args below meth c H1 locs1 cells slots Q (F0 m (pc + 1) ls rest)) : W p l e R s m args below meth c H locs cells slots Q (F0 m pc ls (.int x :: .int i :: .ref a :: rest)) := by
  have hP := hH.P ht h0 (he _)
  refine W.zast hexec hb (hP 0 _ rfl) ((hK.2 t0 _ hty).1 n (fun j => .int (gi a j))) (fun q => by cases q) (by show ¬ (i < 0 ∨ (arrV _ _ _).slots.size ≤ _); rw [arrV_size]; exact hin) rfl rfl hdg fun H1 e z oq => ?_
  refine kk (va_up gi a (upd (gi a) i.toNatClampNeg x)) H1 _ th_upI.1 th_upI.2 (hH.set ht ?_ (by rw [va_up_self]; exact hI) oq (fun b hb => ⟨va_up_ne _ _ hb, rfl⟩)) (hS.put z oq hAa) oq
  rw [va_up_self, he]
  show H1[a]? = some (vp_cell _ _)
  have hz := rg_vb hx
  rw [e, vp_cell_i, vp_cell_i, arrV_store]
  congr 2
  funext q
  by_cases hq : q = i.toNatClampNeg
  · subst hq
    simp only [updV, upd, if_true]
    rcases rg_b hx with h | h <;> rw [h] <;> rfl
  · simp [updV, upd, hq]
end THR
theorem th_ne0 {τ : th_t} {a b c : Nat} (z : τ b = 0) (t : τ a = c) (h : c ≠ 0) : b ≠ a := fun e => h (by rw [← t, ← e]; exact z)
