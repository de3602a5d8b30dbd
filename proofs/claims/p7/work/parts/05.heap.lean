/-! ===== the typed heap: τ the kinds of the cells, gi their numbers, gr their references ===== -/
abbrev th_t : Type := Nat → Nat
abbrev th_i : Type := Nat → Nat → Int32
abbrev th_r : Type := Nat → Nat → Option Nat
def th_H (D : va_G) (cA : Nat → ClassId) (τ : th_t) (gi : th_i) (gr : th_r) (H : Heap) : Prop := ∀ a, τ a ≠ 0 → va_at D classes (a, th_E cA (τ a) (gi a) (gr a)) H ∧ th_I (τ a) τ (gi a) (gr a)
def th_A (τ : th_t) (sz : Nat) : Nat → Prop := fun q => τ q ≠ 0 ∨ sz ≤ q
theorem th_A0 {τ : th_t} {sz : Nat} : ∀ q : Nat, sz ≤ q → th_A τ sz q := fun _ h => Or.inr h
def th_Mod (M : List Nat) (τ : th_t) (gi : th_i) (gr : th_r) (gi' : th_i) (gr' : th_r) : Prop := ∀ b j, τ b ≠ 0 → th_key (τ b) j ∉ M → gi' b j = gi b j ∧ gr' b j = gr b j
theorem th_Mod.rf {M : List Nat} {τ : th_t} {gi : th_i} {gr : th_r} : th_Mod M τ gi gr gi gr := fun _ _ _ _ => ⟨rfl, rfl⟩
theorem th_Mod.tr {M M1 M2 : List Nat} {τ : th_t} {gi gi1 gi2 : th_i} {gr gr1 gr2 : th_r} (h1 : th_Mod M1 τ gi gr gi1 gr1) (h2 : th_Mod M2 τ gi1 gr1 gi2 gr2) (s1 : ∀ x ∈ M1, x ∈ M) (s2 : ∀ x ∈ M2, x ∈ M) : th_Mod M τ gi gr gi2 gr2 := fun b j hb hk => by
  have e1 := h1 b j hb (fun q => hk (s1 _ q))
  have e2 := h2 b j hb (fun q => hk (s2 _ q))
  exact ⟨e2.1.trans e1.1, e2.2.trans e1.2⟩
theorem th_Mod.i {M : List Nat} {τ : th_t} {gi gi1 gi2 : th_i} {gr gr1 : th_r} (h1 : th_Mod M τ gi gr gi1 gr1) {a k c : Nat} (ht : τ a = c) (hc : th_key c k ∈ M) (h : ∀ b j, b ≠ a ∨ j ≠ k → gi2 b j = gi1 b j) : th_Mod M τ gi gr gi2 gr1 := fun b j hb hk => by
  have e1 := h1 b j hb hk
  refine ⟨?_, e1.2⟩
  rw [← e1.1]
  apply h
  by_cases hba : b = a
  · right
    intro hj
    apply hk
    rw [hba, hj, ht]
    exact hc
  · exact Or.inl hba
theorem th_Mod.r {M : List Nat} {τ : th_t} {gi gi1 : th_i} {gr gr1 gr2 : th_r} (h1 : th_Mod M τ gi gr gi1 gr1) {a k c : Nat} (ht : τ a = c) (hc : th_key c k ∈ M) (h : ∀ b j, b ≠ a ∨ j ≠ k → gr2 b j = gr1 b j) : th_Mod M τ gi gr gi1 gr2 := fun b j hb hk => by
  have e1 := h1 b j hb hk
  refine ⟨e1.1, ?_⟩
  rw [← e1.2]
  apply h
  by_cases hba : b = a
  · right
    intro hj
    apply hk
    rw [hba, hj, ht]
    exact hc
  · exact Or.inl hba
theorem th_H.at {D : va_G} {cA : Nat → ClassId} {τ : th_t} {gi : th_i} {gr : th_r} {H : Heap} {a c : Nat} (hH : th_H D cA τ gi gr H) (ht : τ a = c) (hc : c ≠ 0) : va_at D classes (a, th_E cA c (gi a) (gr a)) H ∧ th_I c τ (gi a) (gr a) := by
  subst ht
  exact hH a hc
theorem th_H.P {D : va_G} {cA : Nat → ClassId} {τ : th_t} {gi : th_i} {gr : th_r} {H : Heap} {a c : Nat} (hH : th_H D cA τ gi gr H) (ht : τ a = c) (hc : c ≠ 0) {e : va_E} (he : th_E cA c (gi a) (gr a) = e) : va_P D classes [(a, e)] H := by
  intro k q hk
  have hz : k < 1 := (List.getElem?_eq_some_iff.mp hk).1
  rw [show k = 0 by omega] at hk
  cases hk
  rw [← he]
  exact (hH.at ht hc).1
theorem th_H.set {D : va_G} {cA : Nat → ClassId} {τ : th_t} {gi gi' : th_i} {gr gr' : th_r} {H H1 : Heap} {a c : Nat} (hH : th_H D cA τ gi gr H) (ht : τ a = c) (hat : va_at D classes (a, th_E cA c (gi' a) (gr' a)) H1) (hI : th_I c τ (gi' a) (gr' a)) (oq : ∀ q, q ≠ a → H1[q]? = H[q]?) (og : ∀ b, b ≠ a → gi' b = gi b ∧ gr' b = gr b) : th_H D cA τ gi' gr' H1 := by
  intro b hb
  by_cases hba : b = a
  · subst hba
    subst ht
    exact ⟨hat, hI⟩
  · have h := hH b hb
    rw [(og b hba).1, (og b hba).2]
    exact ⟨h.1.kept (oq b hba), h.2⟩
theorem th_upI {gi : th_i} {a k : Nat} {x : Int32} : va_up gi a (upd (gi a) k x) a k = x ∧ ∀ b j, b ≠ a ∨ j ≠ k → va_up gi a (upd (gi a) k x) b j = gi b j := by
  refine ⟨by rw [va_up_self]; exact if_pos rfl, fun b j h => ?_⟩
  by_cases hba : b = a
  · subst hba
    rw [va_up_self]
    exact if_neg (h.resolve_left (fun q => q rfl))
  · rw [va_up_ne]
    exact hba
theorem th_upR {gr : th_r} {a k : Nat} {x : Option Nat} : va_up gr a (va_up (gr a) k x) a k = x ∧ ∀ b j, b ≠ a ∨ j ≠ k → va_up gr a (va_up (gr a) k x) b j = gr b j := by
  refine ⟨by rw [va_up_self, va_up_self], fun b j h => ?_⟩
  by_cases hba : b = a
  · subst hba
    rw [va_up_self, va_up_ne]
    exact h.resolve_left (fun q => q rfl)
  · rw [va_up_ne]
    exact hba
/-- array invariants -/
theorem th_ai {P : Int32 → Prop} {f : Nat → Int32} {n k : Nat} {x : Int32} (h : ∀ j, j < n → P (f j)) (hx : P x) : ∀ j, j < n → P (upd f k x j) := fun j hj => by
  unfold upd
  split
  · exact hx
  · exact h j hj
theorem th_ar {P : Nat → Prop} {f : Nat → Option Nat} {n k : Nat} {x : Option Nat} (h : ∀ j, j < n → ∀ q, f j = some q → P q) (hx : ∀ q, x = some q → P q) : ∀ j, j < n → ∀ q, va_up f k x j = some q → P q := fun j hj => by
  unfold va_up
  split
  · exact hx
  · exact h j hj
section TH
variable {p : Program} {l : Launch} {e : Env} {R : Room} {s : State} {m : MethodId} {args : Array Value} {below : List Frame} {meth : Method} {c : Code} {H : Heap} {locs : List Loc} {cells slots : Nat} {Q : State → Prop}
variable {cc : ByteArray} {pc : Nat} {ls : Array Slot} {rest : List Value} {D : va_G} {A : Nat → Prop} {a k0 : Nat} {tys : List (ClassId × FieldType)} {H0 : Heap} {cA : Nat → ClassId} {τ : th_t} {gi : th_i} {gr : th_r}
theorem th_get (hexec : p.tables.exec = Jvm.exec) (hb : c.code = cc) {own ref C : String} {T : u_T} {N ci index : Nat} {Ts : List Cond} (hts : ∀ w ∈ Ts, w.before args s = true) (hin : ∀ w ∈ u_ws C T N, w ∈ Ts) (hown : s.vm.findClass own = some m.cls) (hK : va_K D classes tys s) (hH : th_H D cA τ gi gr H) (ht : τ a = k0) (h0 : k0 ≠ 0) {fs : List Value} (he : th_E cA k0 (gi a) (gr a) = .inr (ci, fs)) (hc : classes[ci]? = some (C, T, N)) (k : Nat) (hk : k < N) (hlink : (Cond.fieldLink own index ref (T k).2.1 (T k).2.2.1).before args s = true) (hsame : ∀ x, s.fieldFound? (T k).1 (T k).2.1 (T k).2.2.1 = some x → s.fieldFound? ref (T k).2.1 (T k).2.2.1 = some x) {v : Value} (hv : fs[k]? = some v) (hdg : decode cc pc = .ok (.getfield index, 3))
    (kk : W p l e R s m args below meth c H locs cells slots Q (F0 m (pc + 3) ls (v :: rest))) : W p l e R s m args below meth c H locs cells slots Q (F0 m pc ls (.ref a :: rest)) :=
  va_get hexec hb hts hin hown hK (hH.P ht h0 he) 0 rfl hc k hk hlink hsame hv hdg kk
theorem th_put (hexec : p.tables.exec = Jvm.exec) (hb : c.code = cc) {own ref C : String} {T : u_T} {N ci index : Nat} {Ts : List Cond} (hts : ∀ w ∈ Ts, w.before args s = true) (hin : ∀ w ∈ u_ws C T N, w ∈ Ts) (ty0 : Nat → FieldType) (hty : ∀ k, k < N → parseFieldDescriptor (T k).2.2.1 = some (ty0 k)) (hnm : ∀ a, a < N → ∀ b, b < N → a ≠ b → (T a).2.1 ≠ (T b).2.1) (hown : s.vm.findClass own = some m.cls) (hK : va_K D classes tys s) (hH : th_H D cA τ gi gr H) (hS0 : va_S A H0 H locs) (ht : τ a = k0) (h0 : k0 ≠ 0) (hAa : A a) {fs : List Value} (he : th_E cA k0 (gi a) (gr a) = .inr (ci, fs)) (hc : classes[ci]? = some (C, T, N)) (k : Nat) (hk : k < N) (hlink : (Cond.fieldLink own index ref (T k).2.1 (T k).2.2.1).before args s = true) (hsame : ∀ x, s.fieldFound? (T k).1 (T k).2.1 (T k).2.2.1 = some x → s.fieldFound? ref (T k).2.1 (T k).2.2.1 = some x) (hfin : (T k).2.2.2 = false) {ty : FieldType} {v : Value} (hd : parseFieldDescriptor (T k).2.2.1 = some ty) (hn : narrow ty v = v) (hfit : fits ty v = true) (hl : k < fs.length)
    {gi' : th_i} {gr' : th_r} (he' : th_E cA k0 (gi' a) (gr' a) = .inr (ci, fs.set k v)) (hI : th_I k0 τ (gi' a) (gr' a)) (og : ∀ b, b ≠ a → gi' b = gi b ∧ gr' b = gr b)
    (hdg : decode cc pc = .ok (.putfield index, 3)) (kk : ∀ (H1 : Heap) (locs1 : List Loc), th_H D cA τ gi' gr' H1 → va_S A H0 H1 locs1 → W p l e R s m args below meth c H1 locs1 cells slots Q (F0 m (pc + 3) ls rest)) : W p l e R s m args below meth c H locs cells slots Q (F0 m pc ls (v :: .ref a :: rest)) := by
  have hap := va_apart (own := own) hts hin ty0 hty hnm hK hc
  obtain ⟨r, h1, cell, q1, q2, q3, q4⟩ := hH.P ht h0 he 0 _ rfl
  have hr : r = (C, T, N) := Option.some.inj (h1.symm.trans hc)
  subst hr
  obtain ⟨hS, hfc, kC, hkC, hkind⟩ := hK.1 ci _ hc
  obtain ⟨cf, kf, fi, f, hi, hsl⟩ := hS k hk
  have hlay := hts _ (hin _ (u_in_lay hk))
  unfold u_lay at hlay
  rw [if_neg (by rw [hfin]; decide)] at hlay
  have hst := (u_facts hfc hkC (u_lays hts hin hk) hi).1
  have h6 := u_store hfc hkC hkind hlay hi hd hn hfit
  refine W.putK hexec hb (f := f) ⟨hown, hlink, ⟨_, _, _, hsame _ hi⟩, hst⟩ (by rw [q2]; exact h6) q1 q3 (by rw [hsl]; exact k2_hasslot (q4 k hk)) rfl rfl hdg fun H' e1 e2 e3 => ?_
  rw [hsl] at e1 ⊢
  refine kk H' _ (hH.set ht ?_ hI e3 og) (hS0.put e2 e3 hAa)
  rw [he']
  exact ⟨_, hc, t_OB.to (V := updV (vp_V fs) k v) ⟨_, e1, q2, q3, t_set q4 hap hk v⟩ (fun j _ => vp_updV_set hl v j)⟩
theorem th_iald (hexec : p.tables.exec = Jvm.exec) (hb : c.code = cc) (hK : va_K D classes tys s) (hH : th_H D cA τ gi gr H) (ht : τ a = k0) (h0 : k0 ≠ 0) (t0 : Nat) {cI : ClassId} {n : Nat} (he : th_E cA k0 (gi a) (gr a) = .inl (cI, n, .inl (gi a))) (hty : tys[t0]? = some (cI, .int)) {i : Int32} (hin : vp_in i n) (hdg : decode cc pc = .ok (.iaload, 1))
    (kk : W p l e R s m args below meth c H locs cells slots Q (F0 m (pc + 1) ls (.int (gi a i.toNatClampNeg) :: rest))) : W p l e R s m args below meth c H locs cells slots Q (F0 m pc ls (.int i :: .ref a :: rest)) :=
  va_iald hexec hb hK (hH.P ht h0 he) 0 t0 rfl hty hin hdg kk
theorem th_zald (hexec : p.tables.exec = Jvm.exec) (hb : c.code = cc) (hK : va_K D classes tys s) (hH : th_H D cA τ gi gr H) (ht : τ a = k0) (h0 : k0 ≠ 0) (t0 : Nat) {cI : ClassId} {n : Nat} (he : th_E cA k0 (gi a) (gr a) = .inl (cI, n, .inl (gi a))) (hty : tys[t0]? = some (cI, .boolean)) {i : Int32} (hin : vp_in i n) (hdg : decode cc pc = .ok (.baload, 1))
    (kk : W p l e R s m args below meth c H locs cells slots Q (F0 m (pc + 1) ls (.int (gi a i.toNatClampNeg) :: rest))) : W p l e R s m args below meth c H locs cells slots Q (F0 m pc ls (.int i :: .ref a :: rest)) :=
  va_zald hexec hb hK (hH.P ht h0 he) 0 t0 rfl hty hin hdg kk
theorem th_aald (hexec : p.tables.exec = Jvm.exec) (hb : c.code = cc) (hK : va_K D classes tys s) (hH : th_H D cA τ gi gr H) (ht : τ a = k0) (h0 : k0 ≠ 0) (t0 : Nat) {cI : ClassId} {C : String} {n : Nat} (he : th_E cA k0 (gi a) (gr a) = .inl (cI, n, .inr (.inr (.inr (.inr (gr a)))))) (hty : tys[t0]? = some (cI, .object C)) {i : Int32} (hin : vp_in i n) (hdg : decode cc pc = .ok (.aaload, 1))
    (kk : W p l e R s m args below meth c H locs cells slots Q (F0 m (pc + 1) ls (va_rf (gr a i.toNatClampNeg) :: rest))) : W p l e R s m args below meth c H locs cells slots Q (F0 m pc ls (.int i :: .ref a :: rest)) :=
  va_aldq hexec hb hK (hH.P ht h0 he) 0 t0 rfl hty hin hdg kk
theorem th_iast (hexec : p.tables.exec = Jvm.exec) (hb : c.code = cc) (hK : va_K D classes tys s) (hH : th_H D cA τ gi gr H) (hS : va_S A H0 H locs) (ht : τ a = k0) (h0 : k0 ≠ 0) (hAa : A a) (t0 : Nat) {cI : ClassId} {n : Nat} (he : ∀ f : Nat → Int32, th_E cA k0 f (gr a) = .inl (cI, n, .inl f)) (hty : tys[t0]? = some (cI, .int)) {i x : Int32} (hin : vp_in i n) (hI : th_I k0 τ (upd (gi a) i.toNatClampNeg x) (gr a)) (hdg : decode cc pc = .ok (.iastore, 1))
    (kk : ∀ (gi' : th_i) (H1 : Heap) (locs1 : List Loc), gi' a i.toNatClampNeg = x → (∀ b j, b ≠ a ∨ j ≠ i.toNatClampNeg → gi' b j = gi b j) → th_H D cA τ gi' gr H1 → va_S A H0 H1 locs1 → W p l e R s m args below meth c H1 locs1 cells slots Q (F0 m (pc + 1) ls rest)) : W p l e R s m args below meth c H locs cells slots Q (F0 m pc ls (.int x :: .int i :: .ref a :: rest)) := by
  have hP := hH.P ht h0 (he _)
  refine W.iast hexec hb (hP 0 _ rfl) ((hK.2 t0 _ hty).1 n (fun j => .int (gi a j))) (fun q => by cases q) (by show ¬ (i < 0 ∨ (arrV _ _ _).slots.size ≤ _); rw [arrV_size]; exact hin) rfl rfl hdg fun H1 e z oq => ?_
  refine kk (va_up gi a (upd (gi a) i.toNatClampNeg x)) H1 _ th_upI.1 th_upI.2 (hH.set ht ?_ (by rw [va_up_self]; exact hI) oq (fun b hb => ⟨va_up_ne _ _ hb, rfl⟩)) (hS.put z oq hAa)
  rw [va_up_self, he]
  show H1[a]? = some (vp_cell _ _)
  rw [e, vp_cell_i, vp_cell_i, arrV_store]
  congr 2
  funext q
  by_cases hq : q = i.toNatClampNeg
  · subst hq
    simp [updV, upd]
  · simp [updV, upd, hq]
theorem th_zast (hexec : p.tables.exec = Jvm.exec) (hb : c.code = cc) (hK : va_K D classes tys s) (hH : th_H D cA τ gi gr H) (hS : va_S A H0 H locs) (ht : τ a = k0) (h0 : k0 ≠ 0) (hAa : A a) (t0 : Nat) {cI : ClassId} {n : Nat} (he : ∀ f : Nat → Int32, th_E cA k0 f (gr a) = .inl (cI, n, .inl f)) (hty : tys[t0]? = some (cI, .boolean)) {i x : Int32} (hx : rg 0 1 x) (hin : vp_in i n) (hI : th_I k0 τ (upd (gi a) i.toNatClampNeg x) (gr a)) (hdg : decode cc pc = .ok (.bastore, 1))
    (kk : ∀ (gi' : th_i) (H1 : Heap) (locs1 : List Loc), gi' a i.toNatClampNeg = x → (∀ b j, b ≠ a ∨ j ≠ i.toNatClampNeg → gi' b j = gi b j) → th_H D cA τ gi' gr H1 → va_S A H0 H1 locs1 → W p l e R s m args below meth c H1 locs1 cells slots Q (F0 m (pc + 1) ls rest)) : W p l e R s m args below meth c H locs cells slots Q (F0 m pc ls (.int x :: .int i :: .ref a :: rest)) := by
  have hP := hH.P ht h0 (he _)
  refine W.zast hexec hb (hP 0 _ rfl) ((hK.2 t0 _ hty).1 n (fun j => .int (gi a j))) (fun q => by cases q) (by show ¬ (i < 0 ∨ (arrV _ _ _).slots.size ≤ _); rw [arrV_size]; exact hin) rfl rfl hdg fun H1 e z oq => ?_
  refine kk (va_up gi a (upd (gi a) i.toNatClampNeg x)) H1 _ th_upI.1 th_upI.2 (hH.set ht ?_ (by rw [va_up_self]; exact hI) oq (fun b hb => ⟨va_up_ne _ _ hb, rfl⟩)) (hS.put z oq hAa)
  rw [va_up_self, he]
  show H1[a]? = some (vp_cell _ _)
  have hz := rg_vb hx
  rw [e, vp_cell_i, vp_cell_i, arrV_store]
  congr 2
  funext q
  by_cases hq : q = i.toNatClampNeg
  · subst hq
    simp only [updV, upd, if_true]
    rcases rg_b hx with h | h <;> rw [h] <;> rfl
  · simp [updV, upd, hq]
end TH
