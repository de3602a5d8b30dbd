theorem th_nA {τ : th_t} {sz q : Nat} (z : τ q = 0) (h : q < sz) : ¬ th_A τ sz q := fun x => x.elim (fun y => y z) (fun y => absurd h (Nat.not_lt.mpr y))
theorem th_nAC {τ : th_t} {sz q a : Nat} (z : τ a = 0) (ne : a ≠ q) (h : a < sz) : ¬ th_AC τ sz q a := fun x => x.elim ne (th_nA z h)
theorem th_zx {M : List Nat} {τ : th_t} {gi : th_i} {gr : th_r} {sz q a : Nat} {τ1 : th_t} {gi1 : th_i} {gr1 : th_r} (h : th_Ext M τ gi gr sz q τ1 gi1 gr1) (z : τ a = 0) (ne : a ≠ q) (hl : a < sz) : τ1 a = 0 := by
  by_cases h0 : τ1 a = 0
  · exact h0
  · rcases h.2.1 a h0 with h1 | h1 | h1
    · exact absurd z h1
    · exact absurd h1 ne
    · exact absurd hl (Nat.not_lt.mpr h1)
theorem th_AE {M : List Nat} {τ : th_t} {gi : th_i} {gr : th_r} {H0 H : Heap} {locs : List Loc} {A : Nat → Prop} {h0 : Nat} {τ1 : th_t} {gi1 : th_i} {gr1 : th_r} (h : th_Ext M τ gi gr H0.size h0 τ1 gi1 gr1) (hS : va_S A H0 H locs) : ∀ q, th_A τ1 H.size q → th_AC τ H0.size h0 q := fun q hq => by
  rcases hq with h1 | h1
  · rcases h.2.1 q h1 with h2 | h2 | h2
    · exact Or.inr (Or.inl h2)
    · exact Or.inl h2
    · exact Or.inr (Or.inr h2)
  · exact Or.inr (Or.inr (Nat.le_trans hS.1 h1))
theorem th_AEa {M : List Nat} {τ : th_t} {gi : th_i} {gr : th_r} {H0 H : Heap} {locs : List Loc} {A : Nat → Prop} {τ1 : th_t} {gi1 : th_i} {gr1 : th_r} (h : th_Ext M τ gi gr H0.size H0.size τ1 gi1 gr1) (hS : va_S A H0 H locs) : ∀ q, th_A τ1 H.size q → th_A τ H0.size q := fun q hq => by
  rcases th_AE h hS q hq with h1 | h1
  · exact Or.inr (Nat.le_of_eq h1.symm)
  · exact h1
theorem th_ACo {M : List Nat} {τ : th_t} {gi : th_i} {gr : th_r} {H0 H : Heap} {locs : List Loc} {A : Nat → Prop} {h0 : Nat} {τ1 : th_t} {gi1 : th_i} {gr1 : th_r} (h : th_Ext M τ gi gr H0.size h0 τ1 gi1 gr1) (hS : va_S A H0 H locs) : ∀ q, th_AC τ1 H.size h0 q → th_AC τ H0.size h0 q := fun q hq => hq.elim Or.inl (th_AE h hS q)
theorem th_ACn {M : List Nat} {τ : th_t} {gi : th_i} {gr : th_r} {H0 H : Heap} {locs : List Loc} {A : Nat → Prop} {h0 a : Nat} {τ1 : th_t} {gi1 : th_i} {gr1 : th_r} (h : th_Ext M τ gi gr H0.size h0 τ1 gi1 gr1) (hS : va_S A H0 H locs) (ha : H0.size ≤ a) : ∀ q, th_AC τ1 H.size a q → th_AC τ H0.size h0 q := fun q hq => hq.elim (fun e => Or.inr (Or.inr (by rw [e]; exact ha))) (th_AE h hS q)
theorem th_ACa {M : List Nat} {τ : th_t} {gi : th_i} {gr : th_r} {H0 H : Heap} {locs : List Loc} {A : Nat → Prop} {a : Nat} {τ1 : th_t} {gi1 : th_i} {gr1 : th_r} (h : th_Ext M τ gi gr H0.size H0.size τ1 gi1 gr1) (hS : va_S A H0 H locs) (ha : H0.size ≤ a) : ∀ q, th_AC τ1 H.size a q → th_A τ H0.size q := fun q hq => hq.elim (fun e => Or.inr (by rw [e]; exact ha)) (th_AEa h hS q)
theorem rg_iw {lo hi : Int} {x l h : Int32} (hl : l.toInt = lo) (hh : h.toInt = hi) (f : rg lo hi x) : l ≤ x ∧ x ≤ h := by
  obtain ⟨p1, p2⟩ := f
  exact ⟨Int32.le_iff_toInt_le.mpr (by omega), Int32.le_iff_toInt_le.mpr (by omega)⟩
/-- a setter: in range it answers the old value and keeps the new one, else it answers the finding and keeps the old one -/
def se_post (lo hi : Int) (old new v r : Int32) : Prop := (rg lo hi v → r = old ∧ new = v) ∧ (¬ rg lo hi v → r = -1000001 ∧ new = old)
theorem se_yes {lo hi : Int} {old new v r : Int32} (f : rg lo hi v) (h1 : r = old) (h2 : new = v) : se_post lo hi old new v r := ⟨fun _ => ⟨h1, h2⟩, fun q => absurd f q⟩
theorem se_no {lo hi : Int} {old new v r : Int32} (f : ¬ rg lo hi v) (h1 : r = -1000001) (h2 : new = old) : se_post lo hi old new v r := ⟨fun q => absurd q f, fun _ => ⟨h1, h2⟩⟩
theorem se_same {lo hi : Int} {o1 n1 r1 o2 n2 r2 v : Int32} (h1 : se_post lo hi o1 n1 v r1) (h2 : se_post lo hi o2 n2 v r2) (e : o1 = o2) : r1 = r2 ∧ n1 = n2 := by
  by_cases f : rg lo hi v
  · exact ⟨((h1.1 f).1.trans e).trans (h2.1 f).1.symm, (h1.1 f).2.trans (h2.1 f).2.symm⟩
  · exact ⟨(h1.2 f).1.trans (h2.2 f).1.symm, ((h1.2 f).2.trans e).trans (h2.2 f).2.symm⟩
theorem th_Mod.a {M : List Nat} {τ : th_t} {gi gi1 gi2 : th_i} {gr gr1 : th_r} (h1 : th_Mod M τ gi gr gi1 gr1) {a c : Nat} (ht : τ a = c) (hc : ∀ k, th_key c k ∈ M) (h : ∀ b, b ≠ a → gi2 b = gi1 b) : th_Mod M τ gi gr gi2 gr1 := fun b j hb hk => by
  have e1 := h1 b j hb hk
  have hba : b ≠ a := fun e => hk (by rw [e, ht]; exact hc j)
  exact ⟨by rw [h b hba]; exact e1.1, e1.2⟩
section TCP
variable {p : Program} {l : Launch} {e : Env} {R : Room} {s : State} {m : MethodId} {args : Array Value} {below : List Frame} {meth : Method} {c : Code} {H : Heap} {locs : List Loc} {cells slots : Nat} {Q : State → Prop}
variable {cc : ByteArray} {pc : Nat} {ls : Array Slot} {rest : List Value} {D : va_G} {A : Nat → Prop} {a a0 k0 k1 : Nat} {tys : List (ClassId × FieldType)} {H0 : Heap} {cA : Nat → ClassId} {τ : th_t} {gi : th_i} {gr : th_r}
/-- System.arraycopy of numbers from one row to another: what the other holds behind it is left open -/
theorem th_copy (hexec : p.tables.exec = Jvm.exec) (hb : c.code = cc) (hml : c.maxLocals = ls.size) {own : String} {index : Nat} (hown : s.vm.findClass own = some m.cls) (hlink : (Cond.methodLink own index arraycopyName).before args s = true) (hnat : (Cond.native arraycopyName).before args s = true) (hstat : (Cond.static arraycopyName).before args s = true) (hini : (Cond.initialized "java/lang/System").before args s = true)
    (hK : va_K D vwCl tys s) (hH : th_H D cA τ gi gr H) (hS : va_S A H0 H locs) (ht0 : τ a0 = k0) (ht1 : τ a = k1) (h00 : k0 ≠ 0) (h01 : k1 ≠ 0) (hAa : A a) (t0 : Nat) {cI : ClassId} {n0 n1 : Nat} (hty : tys[t0]? = some (cI, .int)) (he0 : th_E cA k0 (gi a0) (gr a0) = .inl (cI, n0, .inl (gi a0))) (he1 : ∀ f : Nat → Int32, th_E cA k1 f (gr a) = .inl (cI, n1, .inl f))
    {sp dp n : Int32} (h1 : ¬ sp < 0) (h2 : ¬ dp < 0) (h3 : ¬ n < 0) (h4 : sp.toNatClampNeg + n.toNatClampNeg ≤ n0) (h5 : dp.toNatClampNeg + n.toNatClampNeg ≤ n1) (hI : ∀ f, th_I k1 τ f (gr a))
    (hframes : 1 ≤ R.frames) (hlocals : (rest.map fun v => v.category).sum + (nativeFrameWords "java/lang/System" "arraycopy" 5 + 11) ≤ R.locals) (hdg : decode cc pc = .ok (.invokestatic index, 3))
    (kk : ∀ (gi' : th_i) (H1 : Heap) (locs1 : List Loc), gi' = va_up gi a (va_cpy (gi a0) (gi a) sp.toNatClampNeg dp.toNatClampNeg n.toNatClampNeg) → (∀ b, b ≠ a → gi' b = gi b) → th_H D cA τ gi' gr H1 → va_S A H0 H1 locs1 → W p l e R s m args below meth c H1 locs1 cells slots Q (F0 m (pc + 3) ls rest)) : W p l e R s m args below meth c H locs cells slots Q (F0 m pc ls (.int n :: .int dp :: .ref a :: .int sp :: .ref a0 :: rest)) := by
  have nn : ∀ z : Int32, ¬ z < 0 → z.toInt = (z.toNatClampNeg : Int) := by
    intro z hz
    have hz0 : (0 : Int) ≤ z.toInt := by
      have := Int32.not_lt.mp hz
      simpa using Int32.le_iff_toInt_le.mp this
    show z.toInt = ((z.toInt.toNat : Nat) : Int)
    omega
  intro T hT X
  have hc0 : H[a0]? = some (vp_cell cI (n0, .inl (gi a0))) := hH.P ht0 h00 he0 0 _ rfl
  have hc1 : H[a]? = some (vp_cell cI (n1, .inl (gi a))) := hH.P ht1 h01 (he1 _) 0 _ rfl
  obtain ⟨-, q0, hq0, cm0, hkk0⟩ := (hK.2 t0 _ hty).1 n0 (fun j => .int (gi a0 j))
  obtain ⟨-, q1, hq1, cm1, hkk1⟩ := (hK.2 t0 _ hty).1 n1 (fun j => .int (gi a j))
  obtain ⟨vm', X', step⟩ := X.arraycopy hexec hown hlink hnat hstat hini (src := a0) (dst := a) (cs := vp_cell cI (n0, .inl (gi a0))) (cd := vp_cell cI (n1, .inl (gi a))) (srcPos := sp) (destPos := dp) (n := n) (by rw [hT]; exact hc0) (by rw [hT]; exact hc1)
    (fun _ h => by cases h) (fun _ h => by cases h) (fun h => by cases h) (fun h => by cases h) hq0 hq1 hkk0 hkk1 (by simp [refKind]) h1 h2 h3
    (by rw [nn sp h1, nn n h3]; show ¬ _ > ((arrV cI n0 (fun j => .int (gi a0 j))).slots.size : Int); rw [arrV_size]; omega)
    (by rw [nn dp h2, nn n h3]; show ¬ _ > ((arrV cI n1 (fun j => .int (gi a j))).slots.size : Int); rw [arrV_size]; omega)
    (fun vm₁ _ i hi => by
      have e : (vp_cell cI (n0, .inl (gi a0))).slots.getD (sp.toNatClampNeg + i) .null = .int (gi a0 (sp.toNatClampNeg + i)) := by
        show (arrV cI n0 (fun j => .int (gi a0 j))).slots.getD _ _ = _
        rw [Array.getD_eq_getD_getElem?, arrV_read _ _ (by omega)]
        rfl
      refine ⟨?_, ?_⟩
      · rw [e]
        rfl
      · rw [e]
        exact trivial)
    (g := F0 m pc ls (.int n :: .int dp :: .ref a :: .int sp :: .ref a0 :: rest)) rfl (by rw [hml]) (rest := rest) rfl (by rw [hb]; exact hdg) hframes (by show 2 * 0 + _ + _ ≤ _; omega)
  have e1 : copied (vp_cell cI (n0, .inl (gi a0))) (vp_cell cI (n1, .inl (gi a))) sp dp n = vp_cell cI (n1, .inl (va_cpy (gi a0) (gi a) sp.toNatClampNeg dp.toNatClampNeg n.toNatClampNeg)) := va_copied (fun z => .int z) cI cI (gi a0) (gi a) h4
  rw [e1] at X' step
  have hl : a < H.size := (Array.getElem?_eq_some_iff.mp hc1).1
  obtain ⟨fn, efn⟩ : ∃ f, f = va_cpy (gi a0) (gi a) sp.toNatClampNeg dp.toNatClampNeg n.toNatClampNeg := ⟨_, rfl⟩
  rw [← efn] at X' step
  have hheap : ((T.setVm vm').setCell a (vp_cell cI (n1, .inl fn))).heap = H.setIfInBounds a (vp_cell cI (n1, .inl fn)) := by rw [← hT]; rfl
  have oq : ∀ q : Nat, q ≠ a → (H.setIfInBounds a (vp_cell cI (n1, .inl fn)))[q]? = H[q]? := fun q hq => by simp [Array.getElem?_setIfInBounds, Ne.symm hq]
  obtain ⟨t, a1, b1⟩ := kk (va_up gi a fn) _ _ (by rw [efn]) (fun b hb => va_up_ne _ _ hb) (hH.set (gr' := gr) ht1 (by rw [va_up_self, he1]; show (H.setIfInBounds a _)[a]? = some _; simp [Array.getElem?_setIfInBounds, hl]) (by rw [va_up_self]; exact hI _) oq (fun b hb => ⟨va_up_ne _ _ hb, rfl⟩)) ⟨by simp; exact hS.1, fun q g1 g2 => by
      rw [oq q (fun e => g2 (by rw [e]; exact hAa))]
      exact hS.2.1 q g1 g2, fun q hq => by
      rcases List.mem_append.mp hq with h | h
      · exact hS.2.2 q h
      · obtain ⟨z, -, hz⟩ := List.mem_map.mp h
        rw [← hz]
        exact hAa⟩ _ hheap X'
  exact ⟨t, step t a1, b1⟩
end TCP
/-! ===== functions of methods: what their rows rest on ===== -/
theorem th_upE {g g2 : th_i} {a k : Nat} {v : Int32} (hu : g2 a k = v) (ho : ∀ b j, b ≠ a ∨ j ≠ k → g2 b j = g b j) : g2 = va_up g a (upd (g a) k v) := by
  funext b j
  by_cases hb : b = a
  · subst hb
    by_cases hj : j = k
    · subst hj
      rw [hu]
      simp [va_up, upd]
    · rw [ho b j (Or.inr hj)]
      simp [va_up, upd, hj]
  · rw [ho b j (Or.inl hb)]
    simp [va_up, hb]
theorem th_upF {g g2 : th_r} {a k : Nat} {v : Option Nat} (hu : g2 a k = v) (ho : ∀ b j, b ≠ a ∨ j ≠ k → g2 b j = g b j) : g2 = va_up g a (va_up (g a) k v) := by
  funext b j
  by_cases hb : b = a
  · subst hb
    by_cases hj : j = k
    · subst hj
      rw [hu]
      simp [va_up]
    · rw [ho b j (Or.inr hj)]
      simp [va_up, hj]
  · rw [ho b j (Or.inl hb)]
    simp [va_up, hb]
def th_mn (x y : Int32) : Int32 := if y < x then y else x
def th_mx (x y : Int32) : Int32 := if x < y then y else x
def th_ab (x : Int32) : Int32 := if 0 ≤ x then x else 0 - x
theorem th_runi {p : Program} {l : Launch} {e : Env} {R : Room} {s : State} {m : MethodId} {args : Array Value} {below : List Frame} {meth : Method} {c : Code} {H : Heap} {locs : List Loc} {cells slots mc ms : Nat} {g : JFrame} {rest : List Value} {free : Addr → Prop} {S : Type} {post post' : Int32 → S → Prop} {B : S → State → Prop} {A : Nat → Prop} {a : Array Value} (h : va_Run p l e R s m args below meth c H locs cells slots mc ms g rest (va_Qi post B A a) free) (hp : ∀ r u, post r u → post' r u) : va_Run p l e R s m args below meth c H locs cells slots mc ms g rest (va_Qi post' B A a) free := by
  intro T hT X
  obtain ⟨v, st0, t, T', L, h1, h2, h3, h4, h5, ⟨⟨r, u, k1, k2, k3⟩, k4⟩, h7⟩ := h T hT X
  exact ⟨v, st0, t, T', L, h1, h2, h3, h4, h5, ⟨⟨r, u, k1, hp r u k2, k3⟩, k4⟩, h7⟩
/-- the ways of the WINDS -/
def th_wX : Nat → Int32 := fun j => match j with | 0 => 0 | 1 => 1 | 2 => 1 | 3 => 1 | 4 => 0 | 5 => -1 | 6 => -1 | _ => -1
def th_wY : Nat → Int32 := fun j => match j with | 0 => -1 | 1 => -1 | 2 => 0 | 3 => 1 | 4 => 1 | 5 => 1 | 6 => 0 | _ => -1
