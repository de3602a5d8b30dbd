/-! ===== making cells ===== -/
theorem th_em {τ τ' : th_t} {r : Option Nat} {c : Nat} (hm : ∀ a, τ a ≠ 0 → τ' a = τ a) (hc : c ≠ 0) (h : ∃ q, r = some q ∧ τ q = c) : ∃ q, r = some q ∧ τ' q = c := by
  obtain ⟨q, h1, h2⟩ := h
  exact ⟨q, h1, by rw [hm q (by rw [h2]; exact hc), h2]⟩
theorem th_m1 {τ τ' : th_t} {q c : Nat} (hm : ∀ a, τ a ≠ 0 → τ' a = τ a) (hc : c ≠ 0) (h : τ q = c) : τ' q = c := by rw [hm q (by rw [h]; exact hc), h]
theorem th_Imono {c : Nat} {τ τ' : th_t} {f : Nat → Int32} {r : Nat → Option Nat} (hm : ∀ a, τ a ≠ 0 → τ' a = τ a) (h : th_I c τ f r) : th_I c τ' f r := by
  unfold th_I at h
  split at h
  · exact ⟨th_em hm (by decide) (h.1), th_em hm (by decide) (h.2.1), th_em hm (by decide) (h.2.2.1), th_em hm (by decide) (h.2.2.2.1), th_em hm (by decide) (h.2.2.2.2.1), h.2.2.2.2.2.1, h.2.2.2.2.2.2⟩
  · exact ⟨th_em hm (by decide) (h.1), th_em hm (by decide) (h.2)⟩
  · exact th_em hm (by decide) h
  · exact ⟨th_em hm (by decide) (h.1), h.2⟩
  · exact ⟨th_em hm (by decide) (h.1), th_em hm (by decide) (h.2)⟩
  · exact ⟨th_em hm (by decide) (h.1), th_em hm (by decide) (h.2.1), th_em hm (by decide) (h.2.2)⟩
  · exact ⟨th_em hm (by decide) (h.1), th_em hm (by decide) (h.2.1), h.2.2.1, th_em hm (by decide) (h.2.2.2.1), th_em hm (by decide) (h.2.2.2.2.1), th_em hm (by decide) (h.2.2.2.2.2.1), th_em hm (by decide) (h.2.2.2.2.2.2)⟩
  · exact ⟨th_em hm (by decide) (h.1), h.2⟩
  · exact ⟨th_em hm (by decide) (h.1), h.2⟩
  · exact ⟨th_em hm (by decide) (h.1), th_em hm (by decide) (h.2.1), h.2.2⟩
  · exact ⟨th_em hm (by decide) (h.1), th_em hm (by decide) (h.2.1), th_em hm (by decide) (h.2.2.1), th_em hm (by decide) (h.2.2.2.1), th_em hm (by decide) (h.2.2.2.2.1), th_em hm (by decide) (h.2.2.2.2.2.1), th_em hm (by decide) (h.2.2.2.2.2.2.1), h.2.2.2.2.2.2.2.1, h.2.2.2.2.2.2.2.2⟩
  · exact ⟨h.1, th_em hm (by decide) (h.2.1), th_em hm (by decide) (h.2.2.1), th_em hm (by decide) (h.2.2.2.1), th_em hm (by decide) (h.2.2.2.2.1), th_em hm (by decide) (h.2.2.2.2.2.1), th_em hm (by decide) (h.2.2.2.2.2.2.1), th_em hm (by decide) (h.2.2.2.2.2.2.2.1), h.2.2.2.2.2.2.2.2.1, th_em hm (by decide) (h.2.2.2.2.2.2.2.2.2.1), th_em hm (by decide) (h.2.2.2.2.2.2.2.2.2.2.1), th_em hm (by decide) (h.2.2.2.2.2.2.2.2.2.2.2.1), th_em hm (by decide) (h.2.2.2.2.2.2.2.2.2.2.2.2.1), th_em hm (by decide) (h.2.2.2.2.2.2.2.2.2.2.2.2.2.1), th_em hm (by decide) (h.2.2.2.2.2.2.2.2.2.2.2.2.2.2.1), th_em hm (by decide) (h.2.2.2.2.2.2.2.2.2.2.2.2.2.2.2.1), h.2.2.2.2.2.2.2.2.2.2.2.2.2.2.2.2.1, th_em hm (by decide) (h.2.2.2.2.2.2.2.2.2.2.2.2.2.2.2.2.2.1), th_em hm (by decide) (h.2.2.2.2.2.2.2.2.2.2.2.2.2.2.2.2.2.2.1), th_em hm (by decide) (h.2.2.2.2.2.2.2.2.2.2.2.2.2.2.2.2.2.2.2.1), th_em hm (by decide) (h.2.2.2.2.2.2.2.2.2.2.2.2.2.2.2.2.2.2.2.2.1), h.2.2.2.2.2.2.2.2.2.2.2.2.2.2.2.2.2.2.2.2.2.1, th_em hm (by decide) (h.2.2.2.2.2.2.2.2.2.2.2.2.2.2.2.2.2.2.2.2.2.2.1), th_em hm (by decide) (h.2.2.2.2.2.2.2.2.2.2.2.2.2.2.2.2.2.2.2.2.2.2.2.1), h.2.2.2.2.2.2.2.2.2.2.2.2.2.2.2.2.2.2.2.2.2.2.2.2.1, th_em hm (by decide) (h.2.2.2.2.2.2.2.2.2.2.2.2.2.2.2.2.2.2.2.2.2.2.2.2.2.1), th_em hm (by decide) (h.2.2.2.2.2.2.2.2.2.2.2.2.2.2.2.2.2.2.2.2.2.2.2.2.2.2.1), th_em hm (by decide) (h.2.2.2.2.2.2.2.2.2.2.2.2.2.2.2.2.2.2.2.2.2.2.2.2.2.2.2.1), th_em hm (by decide) (h.2.2.2.2.2.2.2.2.2.2.2.2.2.2.2.2.2.2.2.2.2.2.2.2.2.2.2.2.1), th_em hm (by decide) (h.2.2.2.2.2.2.2.2.2.2.2.2.2.2.2.2.2.2.2.2.2.2.2.2.2.2.2.2.2.1), th_em hm (by decide) (h.2.2.2.2.2.2.2.2.2.2.2.2.2.2.2.2.2.2.2.2.2.2.2.2.2.2.2.2.2.2.1), th_em hm (by decide) (h.2.2.2.2.2.2.2.2.2.2.2.2.2.2.2.2.2.2.2.2.2.2.2.2.2.2.2.2.2.2.2.1), th_em hm (by decide) (h.2.2.2.2.2.2.2.2.2.2.2.2.2.2.2.2.2.2.2.2.2.2.2.2.2.2.2.2.2.2.2.2.1), th_em hm (by decide) (h.2.2.2.2.2.2.2.2.2.2.2.2.2.2.2.2.2.2.2.2.2.2.2.2.2.2.2.2.2.2.2.2.2)⟩
  · exact fun j hj q hq => th_m1 hm (by decide) (h j hj q hq)
  · exact fun j hj q hq => (h j hj q hq).imp (th_m1 hm (by decide)) (fun z => z.imp (th_m1 hm (by decide)) (th_m1 hm (by decide)))
  · exact trivial
  · exact h
  · exact trivial
  · exact trivial
  · exact trivial
  · exact trivial
  · exact trivial
  · exact trivial
  · exact fun j hj q hq => (h j hj q hq).imp (th_m1 hm (by decide)) (fun z => z.imp (th_m1 hm (by decide)) (th_m1 hm (by decide)))
  · exact trivial
  · exact trivial
  · exact trivial
  · exact trivial
  · exact trivial
  · exact trivial
  · exact trivial
  · exact trivial
  · exact trivial
  · exact h
  · exact h
  · exact trivial
  · exact trivial
  · exact h
  · exact trivial
  · exact trivial
  · exact trivial
  · exact h
  · exact h
  · exact trivial
  · exact trivial
  · exact h
  · exact trivial
  · exact h
  · exact h
  · exact trivial
  · exact trivial
  · exact h
  · exact trivial
  · exact h
  · exact trivial
  · exact trivial
  · exact h
  · exact h
  · exact h
  · exact h
  · exact h.elim
theorem th_H.off {D : va_G} {cA : Nat → ClassId} {τ : th_t} {gi : th_i} {gr : th_r} {H H1 : Heap} {a : Nat} (hH : th_H D cA τ gi gr H) (h0 : τ a = 0) (oq : ∀ q, q ≠ a → H1[q]? = H[q]?) : th_H D cA τ gi gr H1 := fun b hb => ⟨(hH b hb).1.kept (oq b (fun e => hb (by rw [e]; exact h0))), (hH b hb).2⟩
theorem th_fresh {D : va_G} {cA : Nat → ClassId} {τ : th_t} {gi : th_i} {gr : th_r} {H : Heap} (hH : th_H D cA τ gi gr H) {a : Nat} (h : H.size ≤ a) : τ a = 0 := by
  by_cases h0 : τ a = 0
  · exact h0
  · exact absurd (hH a h0).1.lt (Nat.not_lt.mpr h)
theorem th_le {τ : th_t} {q k0 : Nat} (hq : τ q = 0) : ∀ a, τ a ≠ 0 → va_up τ q k0 a = τ a := fun a ha => va_up_ne _ _ (fun e => ha (by rw [e]; exact hq))
theorem th_H.push {D : va_G} {cA : Nat → ClassId} {τ : th_t} {gi : th_i} {gr : th_r} {H H1 : Heap} {q k0 : Nat} {f : Nat → Int32} {r : Nat → Option Nat} (hH : th_H D cA τ gi gr H) (hq : τ q = 0) (hat : va_at D classes (q, th_E cA k0 f r) H1) (hI : th_I k0 (va_up τ q k0) f r) (ho : ∀ a, τ a ≠ 0 → H1[a]? = H[a]?) : th_H D cA (va_up τ q k0) (va_up gi q f) (va_up gr q r) H1 := by
  intro b hb
  by_cases hbq : b = q
  · subst hbq
    rw [va_up_self, va_up_self, va_up_self]
    exact ⟨hat, hI⟩
  · rw [va_up_ne _ _ hbq] at hb
    rw [va_up_ne _ _ hbq, va_up_ne _ _ hbq, va_up_ne _ _ hbq]
    exact ⟨(hH b hb).1.kept (ho b hb), th_Imono (th_le hq) (hH b hb).2⟩
theorem th_upid {α : Type} (g : Nat → α) (q : Nat) : va_up g q (g q) = g := by
  funext j
  by_cases h : j = q
  · rw [h, va_up_self]
  · rw [va_up_ne _ _ h]
/-- what a method that makes cells leaves: old cells keep their codes, changes of old cells are in M, new codes are at h0 or from sz on -/
def th_Ext (M : List Nat) (τ : th_t) (gi : th_i) (gr : th_r) (sz h0 : Nat) (τ' : th_t) (gi' : th_i) (gr' : th_r) : Prop := (∀ b, τ b ≠ 0 → τ' b = τ b) ∧ (∀ b, τ' b ≠ 0 → τ b ≠ 0 ∨ b = h0 ∨ sz ≤ b) ∧ th_Mod M τ gi gr gi' gr'
theorem th_Ext.rf {M : List Nat} {τ : th_t} {gi : th_i} {gr : th_r} {sz h0 : Nat} : th_Ext M τ gi gr sz h0 τ gi gr := ⟨fun _ _ => rfl, fun _ h => Or.inl h, th_Mod.rf⟩
theorem th_Ext.z {M : List Nat} {τ : th_t} {gi : th_i} {gr : th_r} {sz h0 : Nat} {τ1 : th_t} {gi1 : th_i} {gr1 : th_r} (h : th_Ext M τ gi gr sz h0 τ1 gi1 gr1) {q : Nat} (hq : τ1 q = 0) : τ q = 0 := by
  by_cases h0 : τ q = 0
  · exact h0
  · exact absurd hq (by rw [h.1 q h0]; exact h0)
theorem th_Ext.add {M : List Nat} {τ : th_t} {gi : th_i} {gr : th_r} {sz h0 : Nat} {τ1 : th_t} {gi1 : th_i} {gr1 : th_r} (h : th_Ext M τ gi gr sz h0 τ1 gi1 gr1) {q k0 : Nat} {f : Nat → Int32} {r : Nat → Option Nat} (hq : τ1 q = 0) (hs : q = h0 ∨ sz ≤ q) : th_Ext M τ gi gr sz h0 (va_up τ1 q k0) (va_up gi1 q f) (va_up gr1 q r) := by
  have hz := h.z hq
  refine ⟨fun b hb => ?_, fun b hb => ?_, fun b j hb hk => ?_⟩
  · have hbq : b ≠ q := fun e => hb (by rw [e]; exact hz)
    rw [va_up_ne _ _ hbq]
    exact h.1 b hb
  · by_cases hbq : b = q
    · rw [hbq]
      exact Or.inr hs
    · rw [va_up_ne _ _ hbq] at hb
      exact h.2.1 b hb
  · have hbq : b ≠ q := fun e => hb (by rw [e]; exact hz)
    rw [va_up_ne _ _ hbq, va_up_ne _ _ hbq]
    exact h.2.2 b j hb hk
/-- a change of a new cell -/
theorem th_Ext.new {M : List Nat} {τ : th_t} {gi : th_i} {gr : th_r} {sz h0 : Nat} {τ1 : th_t} {gi1 gi2 : th_i} {gr1 gr2 : th_r} (h : th_Ext M τ gi gr sz h0 τ1 gi1 gr1) {a : Nat} (hz : τ a = 0) (hi : ∀ b, b ≠ a → gi2 b = gi1 b) (hr : ∀ b, b ≠ a → gr2 b = gr1 b) : th_Ext M τ gi gr sz h0 τ1 gi2 gr2 := ⟨h.1, h.2.1, fun b j hb hk => by
  have hba : b ≠ a := fun e => hb (by rw [e]; exact hz)
  rw [hi b hba, hr b hba]
  exact h.2.2 b j hb hk⟩
theorem th_Ext.mod {M M2 : List Nat} {τ : th_t} {gi : th_i} {gr : th_r} {sz h0 : Nat} {τ1 : th_t} {gi1 gi2 : th_i} {gr1 gr2 : th_r} (h : th_Ext M τ gi gr sz h0 τ1 gi1 gr1) (h2 : th_Mod M2 τ1 gi1 gr1 gi2 gr2) (s : ∀ x ∈ M2, x ∈ M) : th_Ext M τ gi gr sz h0 τ1 gi2 gr2 := ⟨h.1, h.2.1, fun b j hb hk => by
  have e1 := h.2.2 b j hb hk
  have t1 := h.1 b hb
  have e2 := h2 b j (by rw [t1]; exact hb) (by rw [t1]; exact fun q => hk (s _ q))
  exact ⟨e2.1.trans e1.1, e2.2.trans e1.2⟩⟩
theorem th_Ext.tr {M M2 : List Nat} {τ : th_t} {gi : th_i} {gr : th_r} {sz h0 sz2 q : Nat} {τ1 τ2 : th_t} {gi1 gi2 : th_i} {gr1 gr2 : th_r} (h : th_Ext M τ gi gr sz h0 τ1 gi1 gr1) (h2 : th_Ext M2 τ1 gi1 gr1 sz2 q τ2 gi2 gr2) (hq : q = h0 ∨ sz ≤ q) (hs : sz ≤ sz2) (s : ∀ x ∈ M2, x ∈ M) : th_Ext M τ gi gr sz h0 τ2 gi2 gr2 := by
  refine ⟨fun b hb => ?_, fun b hb => ?_, (h.mod h2.2.2 s).2.2⟩
  · rw [h2.1 b (by rw [h.1 b hb]; exact hb), h.1 b hb]
  · rcases h2.2.1 b hb with h3 | h3 | h3
    · exact h.2.1 b h3
    · rw [h3]; exact Or.inr hq
    · exact Or.inr (Or.inr (Nat.le_trans hs h3))
def th_AC (τ : th_t) (sz h0 : Nat) : Nat → Prop := fun q => q = h0 ∨ th_A τ sz q
/-- a constructor's start: its object is there, with nothing in it, and has no code yet -/
def th_PreC (D : va_G) (cA : Nat → ClassId) (Z : th_Zt) (τ : th_t) (gi : th_i) (gr : th_r) (sz h0 : Nat) (e0 : va_E) (U : State) : Prop := U.heap.size = sz ∧ th_H D cA τ gi gr U.heap ∧ va_K D vwCl (th_tys cA) U ∧ th_N U ∧ th_Z Z (th_AC τ sz h0) U U.heap ∧ τ h0 = 0 ∧ va_P D vwCl [(h0, e0)] U.heap
theorem th_blindC {D : va_G} {cA : Nat → ClassId} {Z : th_Zt} {τ : th_t} {gi : th_i} {gr : th_r} {sz h0 : Nat} {e0 : va_E} {av : List Value} : FrameBlind (va_Pc av (th_PreC D cA Z τ gi gr sz h0 e0)) := fun a U g mk q => by
  obtain ⟨q0, q1, q2, q3, q4, q5, q6, q7⟩ := q
  exact ⟨q0, q1, q2, va_K.moved (u := U) (U := U.calling g mk a) (Vm.Alike.refl U.vm) q3, th_N.same (u := U) (U := U.calling g mk a) rfl q4, th_Z.moved (u := U) (U := U.calling g mk a) (Vm.Alike.refl U.vm) q5, q6, q7⟩
theorem th_preC {D : va_G} {cA : Nat → ClassId} {Z : th_Zt} {τ : th_t} {gi : th_i} {gr : th_r} {s : State} {H : Heap} {A0 : Nat → Prop} {locs : List Loc} {av : List Value} {q : Nat} {e0 : va_E} (hH : th_H D cA τ gi gr H) (hK : va_K D vwCl (th_tys cA) s) (hN : th_N s) (hZ : th_Z Z A0 s s.heap) (hS : va_S A0 s.heap H locs) (hA : ∀ x, th_AC τ H.size q x → A0 x) (h0 : τ q = 0) (hR : va_P D vwCl [(q, e0)] H) : ∀ U : State, U.heap = H → s.WarmedH U.vm → va_Pc av (th_PreC D cA Z τ gi gr H.size q e0) av.toArray U := fun U hU hW =>
  ⟨rfl, by rw [hU], by rw [hU]; exact hH, va_K.moved hW.alike hK, th_N.warm hW hN, by rw [hU]; exact ((hZ.kept hS.2.1).narrow hA).moved hW.alike, h0, by rw [hU]; exact hR⟩
theorem th_tk {τ : th_t} {e q c k0 : Nat} (h : τ e = c) (hc : c ≠ 0) (hq : τ q = 0) : va_up τ q k0 e = c := by
  rw [va_up_ne _ _ (fun z => hc (by rw [← h, z]; exact hq))]
  exact h
theorem th_tz {τ : th_t} {e q k0 : Nat} (h : τ e = 0) (hq : e ≠ q) : va_up τ q k0 e = 0 := by
  rw [va_up_ne _ _ hq]
  exact h
theorem th_P1 {D : va_G} {ws : Nat × va_E} {H H1 : Heap} (h : va_P D vwCl [ws] H) (hq : H1[ws.1]? = H[ws.1]?) : va_P D vwCl [ws] H1 := h.kept (fun k q hk => by
  have hz : k < 1 := (List.getElem?_eq_some_iff.mp hk).1
  rw [show k = 0 by omega] at hk
  cases hk
  exact hq)
theorem th_P1i {D : va_G} {q : Nat × va_E} {H : Heap} (h : va_at D vwCl q H) : va_P D vwCl [q] H := fun k x hk => by
  have hz : k < 1 := (List.getElem?_eq_some_iff.mp hk).1
  rw [show k = 0 by omega] at hk
  cases hk
  exact h
section TM
variable {p : Program} {l : Launch} {e : Env} {R : Room} {s : State} {m : MethodId} {args : Array Value} {below : List Frame} {meth : Method} {c : Code} {H : Heap} {locs : List Loc} {cells slots : Nat} {Q : State → Prop}
variable {cc : ByteArray} {pc : Nat} {ls : Array Slot} {rest : List Value} {D : va_G} {A : Nat → Prop} {a k0 : Nat} {tys : List (ClassId × FieldType)} {H0 : Heap} {cA : Nat → ClassId} {τ : th_t} {gi : th_i} {gr : th_r}
theorem th_newI (hexec : p.tables.exec = Jvm.exec) (hb : c.code = cc) {atype : ArrayType} (harr : (Cond.arrayClass (newarray.typeOf atype)).before args s = true) (hK : va_K D vwCl tys s) (t0 : Nat) {cI : ClassId} (hty : tys[t0]? = some (cI, newarray.typeOf atype)) (hra : va_RA s cI (newarray.typeOf atype) → s.vm.findClass ("[" ++ (newarray.typeOf atype).toString) = some cI) (hH : th_H D cA τ gi gr H) (hS : va_S A H0 H locs) (hA : ∀ q, H0.size ≤ q → A q) (k0 : Nat)
    {n : Int32} {N' : Nat} (hn : ¬ n < 0) (hN : n.toNatClampNeg = N') (hbytes : N' * componentBytes (newarray.typeOf atype) ≤ 536870912) (hcells : cells + 1 ≤ R.cells) (hslots : slots + N' ≤ R.slots) (hd : defaultValue (newarray.typeOf atype) = .int 0) (he : ∀ r, th_E cA k0 (fun _ => 0) r = .inl (cI, N', .inl (fun _ => 0))) (hI : ∀ τ' r, th_I k0 τ' (fun _ => 0) r) (hdg : decode cc pc = .ok (.newarray atype, 2))
    (kk : ∀ (q : Nat) (H1 : Heap), H.size = q → H1.size = q + 1 → τ q = 0 → (∀ x, x < q → H1[x]? = H[x]?) → th_H D cA (va_up τ q k0) (va_up gi q (fun _ => 0)) gr H1 → va_S A H0 H1 locs → W p l e R s m args below meth c H1 locs (cells + 1) (slots + N') Q (F0 m (pc + 2) ls (.ref q :: rest))) : W p l e R s m args below meth c H locs cells slots Q (F0 m pc ls (.int n :: rest)) := by
  refine va_newaK hexec hb harr rfl hdg rfl hn hN hbytes hcells hslots rfl fun H1 cA' e1 z1 o1 hAr hNm => ?_
  have hc : cA' = cI := Option.some.inj (hNm.symm.trans (hra (hK.2 t0 _ hty).2))
  subst hc
  have hq := th_fresh hH (Nat.le_refl H.size)
  have h1 := hH.push (k0 := k0) (f := fun _ => 0) (r := gr H.size) (H1 := H1) hq (by rw [he]; show H1[H.size]? = some (vp_cell _ _); rw [e1, hd]; rfl) (hI _ _) (fun b hb => o1 b (hH b hb).1.lt)
  rw [th_upid gr H.size] at h1
  exact kk H.size H1 rfl z1 hq o1 h1 ⟨Nat.le_trans hS.1 (by omega), fun x h1 h2 => (o1 x (Nat.lt_of_lt_of_le h1 hS.1)).trans (hS.2.1 x h1 h2), hS.2.2⟩
theorem th_newR (hexec : p.tables.exec = Jvm.exec) (hb : c.code = cc) {own C : String} {index : Nat} (hown : s.vm.findClass own = some m.cls) (hclink : (Cond.classLink own index C).before args s = true) (hover : va_AO C s) (hK : va_K D vwCl tys s) (t0 : Nat) {cI : ClassId} (hty : tys[t0]? = some (cI, .object C)) (hH : th_H D cA τ gi gr H) (hS : va_S A H0 H locs) (hA : ∀ q, H0.size ≤ q → A q) (k0 : Nat)
    {n : Int32} {N' : Nat} (hn : ¬ n < 0) (hN : n.toNatClampNeg = N') (hbytes : N' * 4 ≤ 536870912) (hcells : cells + 1 ≤ R.cells) (hslots : slots + N' ≤ R.slots) (he : ∀ f, th_E cA k0 f (fun _ => none) = .inl (cI, N', .inr (.inr (.inr (.inr (fun _ => none)))))) (hI : ∀ τ' f, th_I k0 τ' f (fun _ => none)) (hdg : decode cc pc = .ok (.anewarray index, 3))
    (kk : ∀ (q : Nat) (H1 : Heap), H.size = q → H1.size = q + 1 → τ q = 0 → (∀ x, x < q → H1[x]? = H[x]?) → th_H D cA (va_up τ q k0) gi (va_up gr q (fun _ => none)) H1 → va_S A H0 H1 locs → W p l e R s m args below meth c H1 locs (cells + 1) (slots + N') Q (F0 m (pc + 3) ls (.ref q :: rest))) : W p l e R s m args below meth c H locs cells slots Q (F0 m pc ls (.int n :: rest)) := by
  subst hN
  refine W.anew hexec hb hown hclink (va_AO.use hover) rfl hdg rfl hn hbytes hcells hslots fun cA' kA comp f1 f2 f3 f4 => ?_
  generalize hH1 : H.push ({ cls := cA', slots := Array.replicate n.toNatClampNeg .null, vm := .none } : Cell) = H1
  have z1 : H1.size = H.size + 1 := by rw [← hH1, Array.size_push]
  have e1 : H1[H.size]? = some (arrV cA' n.toNatClampNeg (fun _ => .null)) := by rw [← hH1, Array.getElem?_push_size, ← arrV_new]
  have o1 : ∀ q : Nat, q < H.size → H1[q]? = H[q]? := fun q hq => by rw [← hH1, Array.getElem?_push, if_neg (Nat.ne_of_lt hq)]
  obtain ⟨kA2, comp2, g1, g2, g3, g4⟩ := (hK.2 t0 _ hty).2
  have hc : cA' = cI := Option.some.inj (f1.symm.trans g4)
  subst hc
  have hq := th_fresh hH (Nat.le_refl H.size)
  have h1 := hH.push (k0 := k0) (f := gi H.size) (r := fun _ => none) (H1 := H1) hq (by rw [he]; show H1[H.size]? = some (vp_cell _ _); rw [e1]; rfl) (hI _ _) (fun b hb => o1 b (hH b hb).1.lt)
  rw [th_upid gi H.size] at h1
  exact kk H.size H1 rfl z1 hq o1 h1 ⟨Nat.le_trans hS.1 (by omega), fun x h1 h2 => (o1 x (Nat.lt_of_lt_of_le h1 hS.1)).trans (hS.2.1 x h1 h2), hS.2.2⟩
theorem th_newO {c0 : Code} (hexec : p.tables.exec = Jvm.exec) (hb : c0.code = cc) {own C : String} {T : u_T} {N ci index : Nat} {Ts : List Cond} (hts : ∀ w ∈ Ts, w.before args s = true) (hin : ∀ w ∈ u_ws C T N, w ∈ Ts) (ty : Nat → FieldType) (hty : ∀ k, k < N → parseFieldDescriptor (T k).2.2.1 = some (ty k)) (hown : s.vm.findClass own = some m.cls) (hcl : (Cond.classLink own index C).before args s = true) (hinst : (Cond.instantiable C N).before args s = true) (hini : (Cond.initialized C).before args s = true)
    (hK : va_K D vwCl tys s) (hH : th_H D cA τ gi gr H) (hS : va_S A H0 H locs) (hA : ∀ q, H0.size ≤ q → A q) (hc : vwCl[ci]? = some (C, T, N)) {fs : List Value} (hfs : ∀ j, j < N → defaultValue (ty j) = vp_V fs j) (hcells : cells + 1 ≤ R.cells) (hslots : slots + N ≤ R.slots) (hdg : decode cc pc = .ok (.new index, 3))
    (kk : ∀ (q : Nat) (H1 : Heap), H.size = q → H1.size = q + 1 → τ q = 0 → (∀ x, x < q → H1[x]? = H[x]?) → va_P D vwCl [(q, .inr (ci, fs))] H1 → th_H D cA τ gi gr H1 → va_S A H0 H1 locs → W p l e R s m args below meth c0 H1 locs (cells + 1) (slots + N) Q (F0 m (pc + 3) ls (.ref q :: rest))) : W p l e R s m args below meth c0 H locs cells slots Q (F0 m pc ls rest) := by
  have hKn := hK.1 ci _ hc
  refine W.newcK hexec hb hown hcl hinst hini rfl hdg hcells hslots hKn.2.1 rfl fun H1 kC hkC e1 z1 o1 => ?_
  refine kk H.size H1 rfl z1 (th_fresh hH (Nat.le_refl H.size)) o1 (th_P1i ⟨_, hc, (u_born ty hts hin hKn hkC e1 hty).to hfs⟩) (fun b hb => ⟨(hH b hb).1.kept (o1 b (hH b hb).1.lt), (hH b hb).2⟩) ⟨Nat.le_trans hS.1 (by omega), fun x h1 h2 => (o1 x (Nat.lt_of_lt_of_le h1 hS.1)).trans (hS.2.1 x h1 h2), hS.2.2⟩
/-- a field of an object that has no code yet -/
theorem th_rputF (hexec : p.tables.exec = Jvm.exec) (hb : c.code = cc) {own ref C : String} {T : u_T} {N ci index : Nat} {Ts : List Cond} (hts : ∀ w ∈ Ts, w.before args s = true) (hin : ∀ w ∈ u_ws C T N, w ∈ Ts) (ty0 : Nat → FieldType) (hty : ∀ k, k < N → parseFieldDescriptor (T k).2.2.1 = some (ty0 k)) (hnm : ∀ a, a < N → ∀ b, b < N → a ≠ b → (T a).2.1 ≠ (T b).2.1) (hown : s.vm.findClass own = some m.cls) (hK : va_K D vwCl tys s) (hH : th_H D cA τ gi gr H) (hS0 : va_S A H0 H locs) (h0 : τ a = 0) (hAa : A a) {fs : List Value} (hR : va_P D vwCl [(a, .inr (ci, fs))] H) (hc : vwCl[ci]? = some (C, T, N)) (k : Nat) (hk : k < N) (hlink : (Cond.fieldLink own index ref (T k).2.1 (T k).2.2.1).before args s = true) (hsame : ∀ x, s.fieldFound? (T k).1 (T k).2.1 (T k).2.2.1 = some x → s.fieldFound? ref (T k).2.1 (T k).2.2.1 = some x) (hfin : (T k).2.2.2 = true) (hin2 : meth.name = "<init>") (hdecl : (T k).1 = own) {ty : FieldType} {v : Value} (hd : parseFieldDescriptor (T k).2.2.1 = some ty) (hn : narrow ty v = v) (hfit : fits ty v = true) (hl : k < fs.length)
    (hdg : decode cc pc = .ok (.putfield index, 3)) (kk : ∀ (H1 : Heap) (locs1 : List Loc), va_P D vwCl [(a, .inr (ci, fs.set k v))] H1 → th_H D cA τ gi gr H1 → va_S A H0 H1 locs1 → H1.size = H.size → (∀ q, q ≠ a → H1[q]? = H[q]?) → W p l e R s m args below meth c H1 locs1 cells slots Q (F0 m (pc + 3) ls rest)) : W p l e R s m args below meth c H locs cells slots Q (F0 m pc ls (v :: .ref a :: rest)) := by
  have hap := va_apart (own := own) hts hin ty0 hty hnm hK hc
  obtain ⟨r, h1, cell, q1, q2, q3, q4⟩ := hR 0 _ rfl
  have hr : r = (C, T, N) := Option.some.inj (h1.symm.trans hc)
  subst hr
  obtain ⟨hS, hfc, kC, hkC, hkind⟩ := hK.1 ci _ hc
  obtain ⟨cf, kf, fi, f, hi, hsl⟩ := hS k hk
  have hlay := hts _ (hin _ (u_in_lay hk))
  unfold u_lay at hlay
  rw [if_pos hfin] at hlay
  have hst := (u_facts hfc hkC (u_lays hts hin hk) hi).1
  have hcf : m.cls = cf := by
    obtain ⟨_, _, c', _, _, _, -, -, hf', -, -, -, hown2, -⟩ := Cond.laysFinal_spec hlay
    have e1 : c' = cf := by have := hi.symm.trans hf'; simp at this; exact this.1.symm
    rw [hdecl] at hown2
    rw [← e1]; exact Option.some.inj (hown.symm.trans hown2)
  have h6 := u_fits hfc hkC hkind (Or.inr hlay) hi hd hn hfit
  refine W.putFinK hexec hb hown hlink (hsame _ hi) hst hcf hin2 (by rw [q2]; exact h6) q1 q3 (by rw [hsl]; exact k2_hasslot (q4 k hk)) rfl rfl hdg fun H' e1 e2 e3 => ?_
  rw [hsl] at e1 ⊢
  exact kk H' _ (th_P1i ⟨_, hc, t_OB.to (V := updV (vp_V fs) k v) ⟨_, e1, q2, q3, t_set q4 hap hk v⟩ (fun j _ => vp_updV_set hl v j)⟩) (hH.off h0 e3) (hS0.put e2 e3 hAa) e2 e3
theorem th_rput (hexec : p.tables.exec = Jvm.exec) (hb : c.code = cc) {own ref C : String} {T : u_T} {N ci index : Nat} {Ts : List Cond} (hts : ∀ w ∈ Ts, w.before args s = true) (hin : ∀ w ∈ u_ws C T N, w ∈ Ts) (ty0 : Nat → FieldType) (hty : ∀ k, k < N → parseFieldDescriptor (T k).2.2.1 = some (ty0 k)) (hnm : ∀ a, a < N → ∀ b, b < N → a ≠ b → (T a).2.1 ≠ (T b).2.1) (hown : s.vm.findClass own = some m.cls) (hK : va_K D vwCl tys s) (hH : th_H D cA τ gi gr H) (hS0 : va_S A H0 H locs) (h0 : τ a = 0) (hAa : A a) {fs : List Value} (hR : va_P D vwCl [(a, .inr (ci, fs))] H) (hc : vwCl[ci]? = some (C, T, N)) (k : Nat) (hk : k < N) (hlink : (Cond.fieldLink own index ref (T k).2.1 (T k).2.2.1).before args s = true) (hsame : ∀ x, s.fieldFound? (T k).1 (T k).2.1 (T k).2.2.1 = some x → s.fieldFound? ref (T k).2.1 (T k).2.2.1 = some x) (hfin : (T k).2.2.2 = false) {ty : FieldType} {v : Value} (hd : parseFieldDescriptor (T k).2.2.1 = some ty) (hn : narrow ty v = v) (hfit : fits ty v = true) (hl : k < fs.length)
    (hdg : decode cc pc = .ok (.putfield index, 3)) (kk : ∀ (H1 : Heap) (locs1 : List Loc), va_P D vwCl [(a, .inr (ci, fs.set k v))] H1 → th_H D cA τ gi gr H1 → va_S A H0 H1 locs1 → H1.size = H.size → (∀ q, q ≠ a → H1[q]? = H[q]?) → W p l e R s m args below meth c H1 locs1 cells slots Q (F0 m (pc + 3) ls rest)) : W p l e R s m args below meth c H locs cells slots Q (F0 m pc ls (v :: .ref a :: rest)) := by
  have hap := va_apart (own := own) hts hin ty0 hty hnm hK hc
  obtain ⟨r, h1, cell, q1, q2, q3, q4⟩ := hR 0 _ rfl
  have hr : r = (C, T, N) := Option.some.inj (h1.symm.trans hc)
  subst hr
  obtain ⟨hS, hfc, kC, hkC, hkind⟩ := hK.1 ci _ hc
  obtain ⟨cf, kf, fi, f, hi, hsl⟩ := hS k hk
  have hlay := hts _ (hin _ (u_in_lay hk))
  unfold u_lay at hlay
  rw [if_neg (by rw [hfin]; decide)] at hlay
  have hst := (u_facts hfc hkC (u_lays hts hin hk) hi).1
  have h6 := u_store hfc hkC hkind hlay hi hd hn hfit
  refine W.putK hexec hb (f := f) ⟨hown, hlink, ⟨_, _, _, hsame _ hi⟩, hst⟩ (by rw [q2]; exact h6) q1 q3 (by rw [hsl]; exact k2_hasslot (q4 k hk)) rfl rfl hdg fun H' e1 e2 e3 => ?_
  rw [hsl] at e1 ⊢
  exact kk H' _ (th_P1i ⟨_, hc, t_OB.to (V := updV (vp_V fs) k v) ⟨_, e1, q2, q3, t_set q4 hap hk v⟩ (fun j _ => vp_updV_set hl v j)⟩) (hH.off h0 e3) (hS0.put e2 e3 hAa) e2 e3
/-- references into an array: of the array's class, or of a class under it -/
theorem th_aast (hexec : p.tables.exec = Jvm.exec) (hb : c.code = cc) (hK : va_K D vwCl tys s) (hH : th_H D cA τ gi gr H) (hS : va_S A H0 H locs) (ht : τ a = k0) (h0 : k0 ≠ 0) (hAa : A a) (t0 : Nat) {E : String} {cI : ClassId} {n v kv ci : Nat} {r : vw_C} {vs : List Value} (he : ∀ g : Nat → Option Nat, th_E cA k0 (gi a) g = .inl (cI, n, .inr (.inr (.inr (.inr g))))) (hty : tys[t0]? = some (cI, .object E)) (htv : τ v = kv) (hv0 : kv ≠ 0) (hev : th_E cA kv (gi v) (gr v) = .inr (ci, vs)) (hc : vwCl[ci]? = some r) (hca : r.1 = E ∨ va_Nw (.castable r.1 E) s) {i : Int32} (hin : vp_in i n) (hI : th_I k0 τ (gi a) (va_up (gr a) i.toNatClampNeg (some v))) (hdg : decode cc pc = .ok (.aastore, 1))
    (kk : ∀ (gr' : th_r) (H1 : Heap) (locs1 : List Loc), gr' a i.toNatClampNeg = some v → (∀ b j, b ≠ a ∨ j ≠ i.toNatClampNeg → gr' b j = gr b j) → th_H D cA τ gi gr' H1 → va_S A H0 H1 locs1 → W p l e R s m args below meth c H1 locs1 cells slots Q (F0 m (pc + 1) ls rest)) : W p l e R s m args below meth c H locs cells slots Q (F0 m pc ls (.ref v :: .int i :: .ref a :: rest)) := by
  have hlt : i.toNatClampNeg < n := Nat.not_le.mp fun q => hin (Or.inr q)
  have hi0 : ¬ i < 0 := fun q => hin (Or.inl q)
  have hP := hH.P ht h0 (he _)
  obtain ⟨r', hr', cellV, g1, g2, g3, -⟩ := hH.P htv hv0 hev 0 _ rfl
  have hcls := (hK.1 ci r hc).2
  obtain ⟨kA, comp, k1, k2, k3, -⟩ := (hK.2 t0 _ hty).2
  obtain ⟨kE, hkE, -⟩ := Vm.findClass_spec k3
  obtain ⟨kC, hkC, -⟩ := hcls.2
  have hasg : s.vm.assignable (D.1 ci) comp = true := by
    rcases hca with h | h
    · rw [h] at hcls
      have hcomp : comp = D.1 ci := Option.some.inj (k3.symm.trans hcls.1)
      rw [hcomp]
      exact va_assign hcls
    · obtain ⟨c0, t1, f1, f2, f3⟩ := Cond.castable_spec (va_Nw.use (A := args) rfl h)
      cases hcls.1.symm.trans f1
      cases k3.symm.trans f2
      exact f3
  refine W.aast hexec hb (hP 0 _ rfl) (fun q h => by cases h) (fun h => by cases h) k1 k2 rfl hkE ⟨hi0, by show _ < (arrV _ _ _).slots.size; rw [arrV_size]; exact hlt⟩ g1 (fun q h => by rw [g3] at h; cases h) (by rw [g2]; exact hkC) (by rw [g2]; exact hasg) rfl rfl hdg fun H1 e z oq => ?_
  refine kk (va_up gr a (va_up (gr a) i.toNatClampNeg (some v))) H1 _ th_upR.1 th_upR.2 (hH.set ht ?_ (by rw [va_up_self]; exact hI) oq (fun b hb => ⟨rfl, va_up_ne _ _ hb⟩)) (hS.put z oq hAa)
  rw [va_up_self, he]
  show H1[a]? = some (vp_cell _ _)
  rw [e, vp_cell_q, vp_cell_q, arrV_store]
  congr 2
  funext q
  by_cases hq : q = i.toNatClampNeg
  · subst hq
    simp [updV, va_up, va_rf]
  · simp [updV, va_up, hq]
end TM
