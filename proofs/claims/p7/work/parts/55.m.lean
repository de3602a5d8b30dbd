section
/-! THE CLAIM OUT OF ONE WALK OF THE LAW'S BODY. Your part is whole_start (and what it stands on); all else here is the same for every law, but numbers. -/
def R_law : String := "BayMooringsLaw"
def lw_P (b : Addr) (xs : List Int32) (args : Array Value) (s : State) : Prop := args = #[.ref b] ∧ s.IntsAt b xs ∧ xs.length ≤ 2560 ∧ (Jvm.Cond.and given_1 narrow_1).before args s = true
def lw_Q (_ : Array Value) (s : State) (o : Outcome) (t : State) : Prop := o = .returned (some (.int 1)) ∧ Framed s o t [] 600000 7302249
def lw_Z (below : List Frame) (a : Array Value) (s : State) : State → Prop := fun t => ∃ o, t.status = .running ∧ Ended t below o ∧ lw_Q a s o t
/-- the law's own end, with 1 on the stack, nothing written that was there before, its room as the claim has it -/
theorem lw_ret {p : Program} {l : Launch} {e : Env} {s : State} {m : MethodId} {below : List Frame} {meth : Method} {c : Code} {b : Nat} (hx : p.tables.exec = Jvm.exec) (hb : c.code = code) (hr : meth.sig.returnType = ret) (hlocks : meth.locks = false) {pc : Nat} {H : Heap} {ls : Array Slot} (hdg : decode code pc = .ok (.ireturn, 1)) : W p l e room_1 s m #[Value.ref b] below meth c H [] 600000 7302249 (lw_Z below #[Value.ref b] s) (F0 m pc ls [.int 1]) := by
  intro T hT X
  obtain ⟨fs, hret, hrun, hended, hW, hframe⟩ := X.leave (v := some (.int 1)) (hlocks := hlocks) (fun h => by rw [hr] at h; cases h)
  have hmeth' : T.vm.method? m = some meth := X.method'
  refine ⟨T.setFrames fs, ?_, .returned (some (.int 1)), hrun, hended, rfl, ⟨_, rfl⟩, hW, hframe⟩
  jvm_step X.here [X.here.top, hx, hb, hdg, hmeth', hr, ret, narrow_b1]
  (try refine ⟨rfl, ?_⟩); (try refine ⟨rfl, ?_⟩)
  first | (intro acts; rw [hret _ acts rfl rfl rfl]) | rw [hret _ _ rfl rfl rfl]
  exact Steps.refl _
/-- what holds at the law's entry: the machine, the code, the tables' words (any of lw_tbl by 'hts w (by decide +kernel)'), the script of L ints xs at the cell b, what the Statement gives of the start (any of its parts by flat_of_before) -/
def lw_At (p : Program) (s : State) (m : MethodId) (meth : Method) (c : Code) (b L : Nat) (xs : Nat → Int32) : Prop :=
  p.tables.exec = Jvm.exec ∧ c.code = code ∧ meth.sig.returnType = ret ∧ c.maxLocals = 4 ∧ s.vm.findClass R_law = some m.cls ∧ (∀ w ∈ lw_tbl, w.before #[Value.ref b] s = true) ∧ va_X b L xs s s.heap ∧ b < s.heap.size ∧ meth.locks = false ∧ (Jvm.Cond.and given_1 narrow_1).before #[Value.ref b] s = true
end
section
/-! ===== the law: what its cases share ===== -/
theorem sc_in {y x k : Int32} {L : Nat} (n : Int) (hk : k.toInt = n) (h0 : 0 ≤ n) (h4 : n ≤ 4) (e : x = y + k) (hy : 0 ≤ y.toInt ∧ y.toInt + 5 ≤ (L : Int)) (hL : L ≤ 2560) : vp_in x L := by
  have h : x.toInt = y.toInt + n := by
    rw [e, Int32.toInt_add, hk]
    exact rg_bm (by omega) (by omega)
  exact vp_in_iff.mpr ⟨by omega, by omega⟩
theorem th_Al {τ : th_t} {H0 H : Heap} {locs : List Loc} {A : Nat → Prop} (hT : ∀ q, τ q ≠ 0 → H0.size ≤ q) (hS : va_S A H0 H locs) : ∀ q, th_A τ H.size q → H0.size ≤ q := fun q h => h.elim (hT q) (fun h => Nat.le_trans hS.1 h)
theorem th_AlC {τ : th_t} {H0 H : Heap} {locs : List Loc} {A : Nat → Prop} {a : Nat} (hT : ∀ q, τ q ≠ 0 → H0.size ≤ q) (hS : va_S A H0 H locs) (ha : H0.size ≤ a) : ∀ q, th_AC τ H.size a q → H0.size ≤ q := fun q h => h.elim (fun e => by rw [e]; exact ha) (th_Al hT hS q)
theorem th_Tx {M : List Nat} {τ : th_t} {gi : th_i} {gr : th_r} {sz h0 b : Nat} {τ1 : th_t} {gi1 : th_i} {gr1 : th_r} (hT : ∀ q, τ q ≠ 0 → b ≤ q) (h : th_Ext M τ gi gr sz h0 τ1 gi1 gr1) (hb : b ≤ sz) (h0b : b ≤ h0) : ∀ q, τ1 q ≠ 0 → b ≤ q := fun q hq => by
  rcases h.2.1 q hq with h1 | h1 | h1
  · exact hT q h1
  · rw [h1]; exact h0b
  · exact Nat.le_trans hb h1
/-- the start and the end of a case -/
abbrev lc_K (p : Program) (l : Launch) (e : Env) (s : State) (m : MethodId) (below : List Frame) (meth : Method) (c : Code) (D : va_G) (cA : Nat → ClassId) (b q1 q2 : Nat) (y : Int32) (V : th_t → th_i → th_r → Prop) (cells slots : Nat) (Q : State → Prop) (pc : Nat) : Prop := ∀ (τ : th_t) (gi : th_i) (gr : th_r) (H : Heap) (locs : List Loc) (ls : Array Slot), th_H D cA τ gi gr H → va_S (fun q : Nat => s.heap.size ≤ q) s.heap H locs → (∀ q, τ q ≠ 0 → s.heap.size ≤ q) → τ q1 = 11 → τ q2 = 12 → V τ gi gr → lv_has ls 4 [(0, .ref b), (1, .ref q1), (2, .ref q2), (3, .int y)] → W p l e room_1 s m #[Value.ref b] below meth c H locs cells slots Q (F0 m pc ls [])
theorem sc_n1 {y x : Int32} {L : Nat} (e : x = y + 1) (hy : 0 ≤ y.toInt ∧ y.toInt + 5 ≤ (L : Int)) (hL : L ≤ 2560) : vp_in x L := sc_in 1 (by decide) (by decide) (by decide) e hy hL
theorem sc_n2 {y x : Int32} {L : Nat} (e : x = y + 2) (hy : 0 ≤ y.toInt ∧ y.toInt + 5 ≤ (L : Int)) (hL : L ≤ 2560) : vp_in x L := sc_in 2 (by decide) (by decide) (by decide) e hy hL
theorem sc_n3 {y x : Int32} {L : Nat} (e : x = y + 3) (hy : 0 ≤ y.toInt ∧ y.toInt + 5 ≤ (L : Int)) (hL : L ≤ 2560) : vp_in x L := sc_in 3 (by decide) (by decide) (by decide) e hy hL
theorem sc_n4 {y x : Int32} {L : Nat} (e : x = y + 4) (hy : 0 ≤ y.toInt ∧ y.toInt + 5 ≤ (L : Int)) (hL : L ≤ 2560) : vp_in x L := sc_in 4 (by decide) (by decide) (by decide) e hy hL
end
section
set_option maxHeartbeats 8000000 in
set_option maxRecDepth 100000 in
theorem law_c0 {p : Program} {l : Launch} {e : Env} {s : State} {m : MethodId} {below : List Frame} {meth : Method} {c : Code} {D : va_G} {cA : Nat → ClassId} {Z : th_Zt} {b L : Nat} {xs : Nat → Int32} {A : Nat → Nat} {cells slots : Nat} {y : Int32} {Q : State → Prop} (C0 : lw_At p s m meth c b L xs) (hK : va_K D vwCl (th_tys cA) s) (hN : th_N s) (hZ : th_Z Z (fun q : Nat => s.heap.size ≤ q) s s.heap) (hL : L ≤ 2560) (hy : 0 ≤ y.toInt ∧ y.toInt + 5 ≤ (L : Int)) (hc : cells + 2 ≤ 600000) (hs : slots + 32 ≤ 7302249) (kk : lc_K p l e s m below meth c D cA b (A 11) (A 12) y (fun (t : th_t) (g : th_i) (r : th_r) => Rel Z t g r g r A) (cells + 2) (slots + 32) Q 1146) : lc_K p l e s m below meth c D cA b (A 11) (A 12) y (fun (t : th_t) (g : th_i) (r : th_r) => Rel Z t g r g r A) cells slots Q 184 := by
  intro τ gi gr H locs ls hH hS hT t1 t2 hv hl
  obtain ⟨hx, hb, hr, hml, hown, hts, hX, hbl, hlocks, hgv⟩ := C0
  have hbA : ¬ (fun q : Nat => s.heap.size ≤ q) b := Nat.not_le.mpr hbl
  refine lv_aload_n hx hb dL_law_184 rfl (lv_at hl 1 rfl) ?_
  refine lv_aload_n hx hb dL_law_185 rfl (lv_at hl 0 rfl) ?_
  refine lv_iload_n hx hb dL_law_186 rfl (lv_at hl 3 rfl) ?_
  refine lv_iconst (v := 1) hx hb dL_law_187 ic_1 ?_
  refine lv_iadd hx hb dL_law_188 ?_
  refine lv_topi (fun x1 e1 => ?_)
  refine va_sld hx hb hX hbl hbA hS (sc_n1 e1 hy hL) dL_law_189 ?_
  refine lv_topi (fun v2 ev2 => ?_)
  refine lv_aload_n hx hb dL_law_190 rfl (lv_at hl 0 rfl) ?_
  refine lv_iload_n hx hb dL_law_191 rfl (lv_at hl 3 rfl) ?_
  refine lv_iconst (v := 2) hx hb dL_law_192 ic_2 ?_
  refine lv_iadd hx hb dL_law_193 ?_
  refine lv_topi (fun x3 e3 => ?_)
  refine va_sld hx hb hX hbl hbA hS (sc_n2 e3 hy hL) dL_law_194 ?_
  refine lv_topi (fun v4 ev4 => ?_)
  refine lv_aload_n hx hb dL_law_195 rfl (lv_at hl 0 rfl) ?_
  refine lv_iload_n hx hb dL_law_196 rfl (lv_at hl 3 rfl) ?_
  refine lv_iconst (v := 3) hx hb dL_law_197 ic_3 ?_
  refine lv_iadd hx hb dL_law_198 ?_
  refine lv_topi (fun x5 e5 => ?_)
  refine va_sld hx hb hX hbl hbA hS (sc_n3 e5 hy hL) dL_law_199 ?_
  refine lv_topi (fun v6 ev6 => ?_)
  refine lv_aload_n hx hb dL_law_200 rfl (lv_at hl 0 rfl) ?_
  refine lv_iload_n hx hb dL_law_201 rfl (lv_at hl 3 rfl) ?_
  refine lv_iconst (v := 4) hx hb dL_law_202 ic_4 ?_
  refine lv_iadd hx hb dL_law_203 ?_
  refine lv_topi (fun x7 e7 => ?_)
  refine va_sld hx hb hX hbl hbA hS (sc_n4 e7 hy hL) dL_law_204 ?_
  refine lv_topi (fun v8 ev8 => ?_)
  have hJ := hH.J
  have hA9 := th_Al hT hS
  have hle9 := hS.1
  refine va_calli (va_runV (As := [.int v2, .int v4, .int v6, .int v8]) (rest := []) ⟨hx, hb, hml, hown, hts⟩ (k_X11_buoy l D cA Z τ gi gr _ (A 11) t1 v2 v4 v6 v8) (cwV 4 hts gL_law_X11_buoy rfl rfl rfl hd_X11_buoy__4 ⟨Nat.le_of_ble_eq_true rfl, Nat.le_of_ble_eq_true rfl⟩) ⟨th_blind, tr_11 hK hH t1, th_pre hH hK hN hZ hS hA9⟩ rfl rfl hl.1 rfl (lv_room (Nat.le_of_ble_eq_true rfl)) dL_law_205 (by refine ⟨?_, ?_⟩ <;> simp only [room_1] <;> omega)) hS (fun q _ h => hA9 q h) hA9 (fun r9 u t H locs ht hvm hw9 hB hz9 hk9 hS => ?_)
  try dsimp only at hw9 hB
  rw [ht] at hB
  have hH := hB
  obtain ⟨τ9, gi9, gr9⟩ := u
  try dsimp only at hw9 hH
  have t1 := (hw9.1.1 (A 11) (by rw [t1]; decide)).trans t1
  have t2 := (hw9.1.1 (A 12) (by rw [t2]; decide)).trans t2
  have hT := th_Tx hT hw9.1 hle9 hle9
  have hJ1 := hH.J
  refine lv_pop hx hb dL_law_208 rfl ?_
  refine lv_aload_n hx hb dL_law_209 rfl (lv_at hl 2 rfl) ?_
  refine lv_aload_n hx hb dL_law_210 rfl (lv_at hl 0 rfl) ?_
  refine lv_iload_n hx hb dL_law_211 rfl (lv_at hl 3 rfl) ?_
  refine lv_iconst (v := 1) hx hb dL_law_212 ic_1 ?_
  refine lv_iadd hx hb dL_law_213 ?_
  refine lv_topi (fun x10 e10 => ?_)
  refine va_sld hx hb hX hbl hbA hS (sc_n1 e10 hy hL) dL_law_214 ?_
  refine lv_topi (fun v11 ev11 => ?_)
  refine lv_aload_n hx hb dL_law_215 rfl (lv_at hl 0 rfl) ?_
  refine lv_iload_n hx hb dL_law_216 rfl (lv_at hl 3 rfl) ?_
  refine lv_iconst (v := 2) hx hb dL_law_217 ic_2 ?_
  refine lv_iadd hx hb dL_law_218 ?_
  refine lv_topi (fun x12 e12 => ?_)
  refine va_sld hx hb hX hbl hbA hS (sc_n2 e12 hy hL) dL_law_219 ?_
  refine lv_topi (fun v13 ev13 => ?_)
  refine lv_aload_n hx hb dL_law_220 rfl (lv_at hl 0 rfl) ?_
  refine lv_iload_n hx hb dL_law_221 rfl (lv_at hl 3 rfl) ?_
  refine lv_iconst (v := 3) hx hb dL_law_222 ic_3 ?_
  refine lv_iadd hx hb dL_law_223 ?_
  refine lv_topi (fun x14 e14 => ?_)
  refine va_sld hx hb hX hbl hbA hS (sc_n3 e14 hy hL) dL_law_224 ?_
  refine lv_topi (fun v15 ev15 => ?_)
  refine lv_aload_n hx hb dL_law_225 rfl (lv_at hl 0 rfl) ?_
  refine lv_iload_n hx hb dL_law_226 rfl (lv_at hl 3 rfl) ?_
  refine lv_iconst (v := 4) hx hb dL_law_227 ic_4 ?_
  refine lv_iadd hx hb dL_law_228 ?_
  refine lv_topi (fun x16 e16 => ?_)
  refine va_sld hx hb hX hbl hbA hS (sc_n4 e16 hy hL) dL_law_229 ?_
  refine lv_topi (fun v17 ev17 => ?_)
  have hA18 := th_Al hT hS
  have hle18 := hS.1
  refine va_calli (va_runV (As := [.int v11, .int v13, .int v15, .int v17]) (rest := []) ⟨hx, hb, hml, hown, hts⟩ (k_X12_buoy l D cA Z τ9 gi9 gr9 _ (A 12) t2 v11 v13 v15 v17) (cwV 4 hts gL_law_X12_buoy rfl rfl rfl hd_X12_buoy__4 ⟨Nat.le_of_ble_eq_true rfl, Nat.le_of_ble_eq_true rfl⟩) ⟨th_blind, tr_12 hK hH t2, th_pre hH hK hN hZ hS hA18⟩ rfl rfl hl.1 rfl (lv_room (Nat.le_of_ble_eq_true rfl)) dL_law_230 (by refine ⟨?_, ?_⟩ <;> simp only [room_1] <;> omega)) hS (fun q _ h => hA18 q h) hA18 (fun r18 u t H locs ht hvm hw18 hB hz18 hk18 hS => ?_)
  try dsimp only at hw18 hB
  rw [ht] at hB
  have hH := hB
  obtain ⟨gi18, gr18⟩ := u
  try dsimp only at hw18 hH
  refine lv_pop hx hb dL_law_233 rfl ?_
  refine lv_goto (tgt := 1146) hx hb dL_law_234 (th_eqI rfl) ?_
  have ea_v11 : v11 = v2 := by rw [ev11, ev2, e10, e1]
  rw [ea_v11] at hw18
  have ea_v13 : v13 = v4 := by rw [ev13, ev4, e12, e3]
  rw [ea_v13] at hw18
  have ea_v15 : v15 = v6 := by rw [ev15, ev6, e14, e5]
  rw [ea_v15] at hw18
  have ea_v17 : v17 = v8 := by rw [ev17, ev8, e16, e7]
  rw [ea_v17] at hw18
  have hsm := sim_buoy hJ hJ1 hv hw9 hw18
  have hv := hsm
  refine W.widen (k := cells + 2) (n := slots + 32) (by omega) (by omega) ?_
  exact kk _ _ _ _ _ _ hH hS hT t1 t2 hv hl

set_option maxHeartbeats 8000000 in
set_option maxRecDepth 100000 in
theorem law_c1 {p : Program} {l : Launch} {e : Env} {s : State} {m : MethodId} {below : List Frame} {meth : Method} {c : Code} {D : va_G} {cA : Nat → ClassId} {Z : th_Zt} {b L : Nat} {xs : Nat → Int32} {A : Nat → Nat} {cells slots : Nat} {y : Int32} {Q : State → Prop} (C0 : lw_At p s m meth c b L xs) (hK : va_K D vwCl (th_tys cA) s) (hN : th_N s) (hZ : th_Z Z (fun q : Nat => s.heap.size ≤ q) s s.heap) (hL : L ≤ 2560) (hy : 0 ≤ y.toInt ∧ y.toInt + 5 ≤ (L : Int)) (hc : cells + 2 ≤ 600000) (hs : slots + 32 ≤ 7302249) (kk : lc_K p l e s m below meth c D cA b (A 11) (A 12) y (fun (t : th_t) (g : th_i) (r : th_r) => Rel Z t g r g r A) (cells + 2) (slots + 32) Q 1146) : lc_K p l e s m below meth c D cA b (A 11) (A 12) y (fun (t : th_t) (g : th_i) (r : th_r) => Rel Z t g r g r A) cells slots Q 237 := by
  intro τ gi gr H locs ls hH hS hT t1 t2 hv hl
  obtain ⟨hx, hb, hr, hml, hown, hts, hX, hbl, hlocks, hgv⟩ := C0
  have hbA : ¬ (fun q : Nat => s.heap.size ≤ q) b := Nat.not_le.mpr hbl
  refine lv_aload_n hx hb dL_law_237 rfl (lv_at hl 1 rfl) ?_
  refine lv_aload_n hx hb dL_law_238 rfl (lv_at hl 0 rfl) ?_
  refine lv_iload_n hx hb dL_law_239 rfl (lv_at hl 3 rfl) ?_
  refine lv_iconst (v := 1) hx hb dL_law_240 ic_1 ?_
  refine lv_iadd hx hb dL_law_241 ?_
  refine lv_topi (fun x1 e1 => ?_)
  refine va_sld hx hb hX hbl hbA hS (sc_n1 e1 hy hL) dL_law_242 ?_
  refine lv_topi (fun v2 ev2 => ?_)
  refine lv_aload_n hx hb dL_law_243 rfl (lv_at hl 0 rfl) ?_
  refine lv_iload_n hx hb dL_law_244 rfl (lv_at hl 3 rfl) ?_
  refine lv_iconst (v := 2) hx hb dL_law_245 ic_2 ?_
  refine lv_iadd hx hb dL_law_246 ?_
  refine lv_topi (fun x3 e3 => ?_)
  refine va_sld hx hb hX hbl hbA hS (sc_n2 e3 hy hL) dL_law_247 ?_
  refine lv_topi (fun v4 ev4 => ?_)
  refine lv_aload_n hx hb dL_law_248 rfl (lv_at hl 0 rfl) ?_
  refine lv_iload_n hx hb dL_law_249 rfl (lv_at hl 3 rfl) ?_
  refine lv_iconst (v := 3) hx hb dL_law_250 ic_3 ?_
  refine lv_iadd hx hb dL_law_251 ?_
  refine lv_topi (fun x5 e5 => ?_)
  refine va_sld hx hb hX hbl hbA hS (sc_n3 e5 hy hL) dL_law_252 ?_
  refine lv_topi (fun v6 ev6 => ?_)
  have hJ := hH.J
  have hA7 := th_Al hT hS
  have hle7 := hS.1
  refine va_calli (va_runV (As := [.int v2, .int v4, .int v6]) (rest := []) ⟨hx, hb, hml, hown, hts⟩ (k_X11_boat l D cA Z τ gi gr _ (A 11) t1 v2 v4 v6) (cwV 3 hts gL_law_X11_boat rfl rfl rfl hd_X11_boat__3 ⟨Nat.le_of_ble_eq_true rfl, Nat.le_of_ble_eq_true rfl⟩) ⟨th_blind, tr_11 hK hH t1, th_pre hH hK hN hZ hS hA7⟩ rfl rfl hl.1 rfl (lv_room (Nat.le_of_ble_eq_true rfl)) dL_law_253 (by refine ⟨?_, ?_⟩ <;> simp only [room_1] <;> omega)) hS (fun q _ h => hA7 q h) hA7 (fun r7 u t H locs ht hvm hw7 hB hz7 hk7 hS => ?_)
  try dsimp only at hw7 hB
  rw [ht] at hB
  have hH := hB
  obtain ⟨τ7, gi7, gr7⟩ := u
  try dsimp only at hw7 hH
  have t1 := (hw7.1.1 (A 11) (by rw [t1]; decide)).trans t1
  have t2 := (hw7.1.1 (A 12) (by rw [t2]; decide)).trans t2
  have hT := th_Tx hT hw7.1 hle7 hle7
  have hJ1 := hH.J
  refine lv_pop hx hb dL_law_256 rfl ?_
  refine lv_aload_n hx hb dL_law_257 rfl (lv_at hl 2 rfl) ?_
  refine lv_aload_n hx hb dL_law_258 rfl (lv_at hl 0 rfl) ?_
  refine lv_iload_n hx hb dL_law_259 rfl (lv_at hl 3 rfl) ?_
  refine lv_iconst (v := 1) hx hb dL_law_260 ic_1 ?_
  refine lv_iadd hx hb dL_law_261 ?_
  refine lv_topi (fun x8 e8 => ?_)
  refine va_sld hx hb hX hbl hbA hS (sc_n1 e8 hy hL) dL_law_262 ?_
  refine lv_topi (fun v9 ev9 => ?_)
  refine lv_aload_n hx hb dL_law_263 rfl (lv_at hl 0 rfl) ?_
  refine lv_iload_n hx hb dL_law_264 rfl (lv_at hl 3 rfl) ?_
  refine lv_iconst (v := 2) hx hb dL_law_265 ic_2 ?_
  refine lv_iadd hx hb dL_law_266 ?_
  refine lv_topi (fun x10 e10 => ?_)
  refine va_sld hx hb hX hbl hbA hS (sc_n2 e10 hy hL) dL_law_267 ?_
  refine lv_topi (fun v11 ev11 => ?_)
  refine lv_aload_n hx hb dL_law_268 rfl (lv_at hl 0 rfl) ?_
  refine lv_iload_n hx hb dL_law_269 rfl (lv_at hl 3 rfl) ?_
  refine lv_iconst (v := 3) hx hb dL_law_270 ic_3 ?_
  refine lv_iadd hx hb dL_law_271 ?_
  refine lv_topi (fun x12 e12 => ?_)
  refine va_sld hx hb hX hbl hbA hS (sc_n3 e12 hy hL) dL_law_272 ?_
  refine lv_topi (fun v13 ev13 => ?_)
  have hA14 := th_Al hT hS
  have hle14 := hS.1
  refine va_calli (va_runV (As := [.int v9, .int v11, .int v13]) (rest := []) ⟨hx, hb, hml, hown, hts⟩ (k_X12_boat l D cA Z τ7 gi7 gr7 _ (A 12) t2 v9 v11 v13) (cwV 3 hts gL_law_X12_boat rfl rfl rfl hd_X12_boat__3 ⟨Nat.le_of_ble_eq_true rfl, Nat.le_of_ble_eq_true rfl⟩) ⟨th_blind, tr_12 hK hH t2, th_pre hH hK hN hZ hS hA14⟩ rfl rfl hl.1 rfl (lv_room (Nat.le_of_ble_eq_true rfl)) dL_law_273 (by refine ⟨?_, ?_⟩ <;> simp only [room_1] <;> omega)) hS (fun q _ h => hA14 q h) hA14 (fun r14 u t H locs ht hvm hw14 hB hz14 hk14 hS => ?_)
  try dsimp only at hw14 hB
  rw [ht] at hB
  have hH := hB
  obtain ⟨gi14, gr14⟩ := u
  try dsimp only at hw14 hH
  refine lv_pop hx hb dL_law_276 rfl ?_
  refine lv_goto (tgt := 1146) hx hb dL_law_277 (th_eqI rfl) ?_
  have ea_v9 : v9 = v2 := by rw [ev9, ev2, e8, e1]
  rw [ea_v9] at hw14
  have ea_v11 : v11 = v4 := by rw [ev11, ev4, e10, e3]
  rw [ea_v11] at hw14
  have ea_v13 : v13 = v6 := by rw [ev13, ev6, e12, e5]
  rw [ea_v13] at hw14
  have hsm := sim_boat hJ hJ1 hv hw7 hw14
  have hv := hsm
  refine W.widen (k := cells + 2) (n := slots + 32) (by omega) (by omega) ?_
  exact kk _ _ _ _ _ _ hH hS hT t1 t2 hv hl

set_option maxHeartbeats 8000000 in
set_option maxRecDepth 100000 in
theorem law_c2 {p : Program} {l : Launch} {e : Env} {s : State} {m : MethodId} {below : List Frame} {meth : Method} {c : Code} {D : va_G} {cA : Nat → ClassId} {Z : th_Zt} {b L : Nat} {xs : Nat → Int32} {A : Nat → Nat} {cells slots : Nat} {y : Int32} {Q : State → Prop} (C0 : lw_At p s m meth c b L xs) (hK : va_K D vwCl (th_tys cA) s) (hN : th_N s) (hZ : th_Z Z (fun q : Nat => s.heap.size ≤ q) s s.heap) (hL : L ≤ 2560) (hy : 0 ≤ y.toInt ∧ y.toInt + 5 ≤ (L : Int)) (hc : cells + 2 ≤ 600000) (hs : slots + 32 ≤ 7302249) (kk : lc_K p l e s m below meth c D cA b (A 11) (A 12) y (fun (t : th_t) (g : th_i) (r : th_r) => Rel Z t g r g r A) (cells + 2) (slots + 32) Q 1146) : lc_K p l e s m below meth c D cA b (A 11) (A 12) y (fun (t : th_t) (g : th_i) (r : th_r) => Rel Z t g r g r A) cells slots Q 280 := by
  intro τ gi gr H locs ls hH hS hT t1 t2 hv hl
  obtain ⟨hx, hb, hr, hml, hown, hts, hX, hbl, hlocks, hgv⟩ := C0
  have hbA : ¬ (fun q : Nat => s.heap.size ≤ q) b := Nat.not_le.mpr hbl
  refine lv_aload_n hx hb dL_law_280 rfl (lv_at hl 1 rfl) ?_
  refine lv_aload_n hx hb dL_law_281 rfl (lv_at hl 0 rfl) ?_
  refine lv_iload_n hx hb dL_law_282 rfl (lv_at hl 3 rfl) ?_
  refine lv_iconst (v := 1) hx hb dL_law_283 ic_1 ?_
  refine lv_iadd hx hb dL_law_284 ?_
  refine lv_topi (fun x1 e1 => ?_)
  refine va_sld hx hb hX hbl hbA hS (sc_n1 e1 hy hL) dL_law_285 ?_
  refine lv_topi (fun v2 ev2 => ?_)
  refine lv_aload_n hx hb dL_law_286 rfl (lv_at hl 0 rfl) ?_
  refine lv_iload_n hx hb dL_law_287 rfl (lv_at hl 3 rfl) ?_
  refine lv_iconst (v := 2) hx hb dL_law_288 ic_2 ?_
  refine lv_iadd hx hb dL_law_289 ?_
  refine lv_topi (fun x3 e3 => ?_)
  refine va_sld hx hb hX hbl hbA hS (sc_n2 e3 hy hL) dL_law_290 ?_
  refine lv_topi (fun v4 ev4 => ?_)
  have hJ := hH.J
  have hA5 := th_Al hT hS
  have hle5 := hS.1
  refine va_calli (va_runV (As := [.int v2, .int v4]) (rest := []) ⟨hx, hb, hml, hown, hts⟩ (k_X11_as l D cA Z τ gi gr _ (A 11) t1 v2 v4) (cwV 2 hts gL_law_X11_as rfl rfl rfl hd_X11_as__2 ⟨Nat.le_of_ble_eq_true rfl, Nat.le_of_ble_eq_true rfl⟩) ⟨th_blind, tr_11 hK hH t1, th_pre hH hK hN hZ hS hA5⟩ rfl rfl hl.1 rfl (lv_room (Nat.le_of_ble_eq_true rfl)) dL_law_291 (by refine ⟨?_, ?_⟩ <;> simp only [room_1] <;> omega)) hS (fun q _ h => hA5 q h) hA5 (fun r5 u t H locs ht hvm hw5 hB hz5 hk5 hS => ?_)
  try dsimp only at hw5 hB
  rw [ht] at hB
  have hH := hB
  obtain ⟨gi5, gr5⟩ := u
  try dsimp only at hw5 hH
  have hJ1 := hH.J
  refine lv_pop hx hb dL_law_294 rfl ?_
  refine lv_aload_n hx hb dL_law_295 rfl (lv_at hl 2 rfl) ?_
  refine lv_aload_n hx hb dL_law_296 rfl (lv_at hl 0 rfl) ?_
  refine lv_iload_n hx hb dL_law_297 rfl (lv_at hl 3 rfl) ?_
  refine lv_iconst (v := 1) hx hb dL_law_298 ic_1 ?_
  refine lv_iadd hx hb dL_law_299 ?_
  refine lv_topi (fun x6 e6 => ?_)
  refine va_sld hx hb hX hbl hbA hS (sc_n1 e6 hy hL) dL_law_300 ?_
  refine lv_topi (fun v7 ev7 => ?_)
  refine lv_aload_n hx hb dL_law_301 rfl (lv_at hl 0 rfl) ?_
  refine lv_iload_n hx hb dL_law_302 rfl (lv_at hl 3 rfl) ?_
  refine lv_iconst (v := 2) hx hb dL_law_303 ic_2 ?_
  refine lv_iadd hx hb dL_law_304 ?_
  refine lv_topi (fun x8 e8 => ?_)
  refine va_sld hx hb hX hbl hbA hS (sc_n2 e8 hy hL) dL_law_305 ?_
  refine lv_topi (fun v9 ev9 => ?_)
  have hA10 := th_Al hT hS
  have hle10 := hS.1
  refine va_calli (va_runV (As := [.int v7, .int v9]) (rest := []) ⟨hx, hb, hml, hown, hts⟩ (k_X12_as l D cA Z τ gi5 gr5 _ (A 12) t2 v7 v9) (cwV 2 hts gL_law_X12_as rfl rfl rfl hd_X12_as__2 ⟨Nat.le_of_ble_eq_true rfl, Nat.le_of_ble_eq_true rfl⟩) ⟨th_blind, tr_12 hK hH t2, th_pre hH hK hN hZ hS hA10⟩ rfl rfl hl.1 rfl (lv_room (Nat.le_of_ble_eq_true rfl)) dL_law_306 (by refine ⟨?_, ?_⟩ <;> simp only [room_1] <;> omega)) hS (fun q _ h => hA10 q h) hA10 (fun r10 u t H locs ht hvm hw10 hB hz10 hk10 hS => ?_)
  try dsimp only at hw10 hB
  rw [ht] at hB
  have hH := hB
  obtain ⟨gi10, gr10⟩ := u
  try dsimp only at hw10 hH
  refine lv_pop hx hb dL_law_309 rfl ?_
  refine lv_goto (tgt := 1146) hx hb dL_law_310 (th_eqI rfl) ?_
  have ea_v7 : v7 = v2 := by rw [ev7, ev2, e6, e1]
  rw [ea_v7] at hw10
  have ea_v9 : v9 = v4 := by rw [ev9, ev4, e8, e3]
  rw [ea_v9] at hw10
  have hsm := sim_as hJ hJ1 hv hw5 hw10
  have hv := hsm
  refine W.widen (k := cells + 2) (n := slots + 32) (by omega) (by omega) ?_
  exact kk _ _ _ _ _ _ hH hS hT t1 t2 hv hl

set_option maxHeartbeats 8000000 in
set_option maxRecDepth 100000 in
theorem law_c3 {p : Program} {l : Launch} {e : Env} {s : State} {m : MethodId} {below : List Frame} {meth : Method} {c : Code} {D : va_G} {cA : Nat → ClassId} {Z : th_Zt} {b L : Nat} {xs : Nat → Int32} {A : Nat → Nat} {cells slots : Nat} {y : Int32} {Q : State → Prop} (C0 : lw_At p s m meth c b L xs) (hK : va_K D vwCl (th_tys cA) s) (hN : th_N s) (hZ : th_Z Z (fun q : Nat => s.heap.size ≤ q) s s.heap) (hL : L ≤ 2560) (hy : 0 ≤ y.toInt ∧ y.toInt + 5 ≤ (L : Int)) (hc : cells + 2 ≤ 600000) (hs : slots + 32 ≤ 7302249) (kk : lc_K p l e s m below meth c D cA b (A 11) (A 12) y (fun (t : th_t) (g : th_i) (r : th_r) => Rel Z t g r g r A) (cells + 2) (slots + 32) Q 1146) : lc_K p l e s m below meth c D cA b (A 11) (A 12) y (fun (t : th_t) (g : th_i) (r : th_r) => Rel Z t g r g r A) cells slots Q 313 := by
  intro τ gi gr H locs ls hH hS hT t1 t2 hv hl
  obtain ⟨hx, hb, hr, hml, hown, hts, hX, hbl, hlocks, hgv⟩ := C0
  have hbA : ¬ (fun q : Nat => s.heap.size ≤ q) b := Nat.not_le.mpr hbl
  refine lv_aload_n hx hb dL_law_313 rfl (lv_at hl 1 rfl) ?_
  refine lv_aload_n hx hb dL_law_314 rfl (lv_at hl 0 rfl) ?_
  refine lv_iload_n hx hb dL_law_315 rfl (lv_at hl 3 rfl) ?_
  refine lv_iconst (v := 1) hx hb dL_law_316 ic_1 ?_
  refine lv_iadd hx hb dL_law_317 ?_
  refine lv_topi (fun x1 e1 => ?_)
  refine va_sld hx hb hX hbl hbA hS (sc_n1 e1 hy hL) dL_law_318 ?_
  refine lv_topi (fun v2 ev2 => ?_)
  refine lv_aload_n hx hb dL_law_319 rfl (lv_at hl 0 rfl) ?_
  refine lv_iload_n hx hb dL_law_320 rfl (lv_at hl 3 rfl) ?_
  refine lv_iconst (v := 2) hx hb dL_law_321 ic_2 ?_
  refine lv_iadd hx hb dL_law_322 ?_
  refine lv_topi (fun x3 e3 => ?_)
  refine va_sld hx hb hX hbl hbA hS (sc_n2 e3 hy hL) dL_law_323 ?_
  refine lv_topi (fun v4 ev4 => ?_)
  have hJ := hH.J
  have hA5 := th_Al hT hS
  have hle5 := hS.1
  refine va_calli (va_runV (As := [.int v2, .int v4]) (rest := []) ⟨hx, hb, hml, hown, hts⟩ (k_X11_tide l D cA Z τ gi gr _ (A 11) t1 v2 v4) (cwV 2 hts gL_law_X11_tide rfl rfl rfl hd_X11_tide__2 ⟨Nat.le_of_ble_eq_true rfl, Nat.le_of_ble_eq_true rfl⟩) ⟨th_blind, tr_11 hK hH t1, th_pre hH hK hN hZ hS hA5⟩ rfl rfl hl.1 rfl (lv_room (Nat.le_of_ble_eq_true rfl)) dL_law_324 (by refine ⟨?_, ?_⟩ <;> simp only [room_1] <;> omega)) hS (fun q _ h => hA5 q h) hA5 (fun r5 u t H locs ht hvm hw5 hB hz5 hk5 hS => ?_)
  try dsimp only at hw5 hB
  rw [ht] at hB
  have hH := hB
  obtain ⟨gi5, gr5⟩ := u
  try dsimp only at hw5 hH
  have hJ1 := hH.J
  refine lv_pop hx hb dL_law_327 rfl ?_
  refine lv_aload_n hx hb dL_law_328 rfl (lv_at hl 2 rfl) ?_
  refine lv_aload_n hx hb dL_law_329 rfl (lv_at hl 0 rfl) ?_
  refine lv_iload_n hx hb dL_law_330 rfl (lv_at hl 3 rfl) ?_
  refine lv_iconst (v := 1) hx hb dL_law_331 ic_1 ?_
  refine lv_iadd hx hb dL_law_332 ?_
  refine lv_topi (fun x6 e6 => ?_)
  refine va_sld hx hb hX hbl hbA hS (sc_n1 e6 hy hL) dL_law_333 ?_
  refine lv_topi (fun v7 ev7 => ?_)
  refine lv_aload_n hx hb dL_law_334 rfl (lv_at hl 0 rfl) ?_
  refine lv_iload_n hx hb dL_law_335 rfl (lv_at hl 3 rfl) ?_
  refine lv_iconst (v := 2) hx hb dL_law_336 ic_2 ?_
  refine lv_iadd hx hb dL_law_337 ?_
  refine lv_topi (fun x8 e8 => ?_)
  refine va_sld hx hb hX hbl hbA hS (sc_n2 e8 hy hL) dL_law_338 ?_
  refine lv_topi (fun v9 ev9 => ?_)
  have hA10 := th_Al hT hS
  have hle10 := hS.1
  refine va_calli (va_runV (As := [.int v7, .int v9]) (rest := []) ⟨hx, hb, hml, hown, hts⟩ (k_X12_tide l D cA Z τ gi5 gr5 _ (A 12) t2 v7 v9) (cwV 2 hts gL_law_X12_tide rfl rfl rfl hd_X12_tide__2 ⟨Nat.le_of_ble_eq_true rfl, Nat.le_of_ble_eq_true rfl⟩) ⟨th_blind, tr_12 hK hH t2, th_pre hH hK hN hZ hS hA10⟩ rfl rfl hl.1 rfl (lv_room (Nat.le_of_ble_eq_true rfl)) dL_law_339 (by refine ⟨?_, ?_⟩ <;> simp only [room_1] <;> omega)) hS (fun q _ h => hA10 q h) hA10 (fun r10 u t H locs ht hvm hw10 hB hz10 hk10 hS => ?_)
  try dsimp only at hw10 hB
  rw [ht] at hB
  have hH := hB
  obtain ⟨gi10, gr10⟩ := u
  try dsimp only at hw10 hH
  refine lv_pop hx hb dL_law_342 rfl ?_
  refine lv_goto (tgt := 1146) hx hb dL_law_343 (th_eqI rfl) ?_
  have ea_v7 : v7 = v2 := by rw [ev7, ev2, e6, e1]
  rw [ea_v7] at hw10
  have ea_v9 : v9 = v4 := by rw [ev9, ev4, e8, e3]
  rw [ea_v9] at hw10
  have hsm := sim_tide hJ hJ1 hv hw5 hw10
  have hv := hsm
  refine W.widen (k := cells + 2) (n := slots + 32) (by omega) (by omega) ?_
  exact kk _ _ _ _ _ _ hH hS hT t1 t2 hv hl

set_option maxHeartbeats 8000000 in
set_option maxRecDepth 100000 in
theorem law_c4 {p : Program} {l : Launch} {e : Env} {s : State} {m : MethodId} {below : List Frame} {meth : Method} {c : Code} {D : va_G} {cA : Nat → ClassId} {Z : th_Zt} {b L : Nat} {xs : Nat → Int32} {A : Nat → Nat} {cells slots : Nat} {y : Int32} {Q : State → Prop} (C0 : lw_At p s m meth c b L xs) (hK : va_K D vwCl (th_tys cA) s) (hN : th_N s) (hZ : th_Z Z (fun q : Nat => s.heap.size ≤ q) s s.heap) (hL : L ≤ 2560) (hy : 0 ≤ y.toInt ∧ y.toInt + 5 ≤ (L : Int)) (hc : cells + 2 ≤ 600000) (hs : slots + 32 ≤ 7302249) (kk : lc_K p l e s m below meth c D cA b (A 11) (A 12) y (fun (t : th_t) (g : th_i) (r : th_r) => Rel Z t g r g r A) (cells + 2) (slots + 32) Q 1146) : lc_K p l e s m below meth c D cA b (A 11) (A 12) y (fun (t : th_t) (g : th_i) (r : th_r) => Rel Z t g r g r A) cells slots Q 346 := by
  intro τ gi gr H locs ls hH hS hT t1 t2 hv hl
  obtain ⟨hx, hb, hr, hml, hown, hts, hX, hbl, hlocks, hgv⟩ := C0
  have hbA : ¬ (fun q : Nat => s.heap.size ≤ q) b := Nat.not_le.mpr hbl
  refine lv_aload_n hx hb dL_law_346 rfl (lv_at hl 1 rfl) ?_
  refine lv_aload_n hx hb dL_law_347 rfl (lv_at hl 0 rfl) ?_
  refine lv_iload_n hx hb dL_law_348 rfl (lv_at hl 3 rfl) ?_
  refine lv_iconst (v := 1) hx hb dL_law_349 ic_1 ?_
  refine lv_iadd hx hb dL_law_350 ?_
  refine lv_topi (fun x1 e1 => ?_)
  refine va_sld hx hb hX hbl hbA hS (sc_n1 e1 hy hL) dL_law_351 ?_
  refine lv_topi (fun v2 ev2 => ?_)
  have hJ := hH.J
  have hA3 := th_Al hT hS
  have hle3 := hS.1
  refine va_calli (va_runV (As := [.int v2]) (rest := []) ⟨hx, hb, hml, hown, hts⟩ (k_X11_winds l D cA Z τ gi gr _ (A 11) t1 v2) (cwV 1 hts gL_law_X11_winds rfl rfl rfl hd_X11_winds__1 ⟨Nat.le_of_ble_eq_true rfl, Nat.le_of_ble_eq_true rfl⟩) ⟨th_blind, tr_11 hK hH t1, th_pre hH hK hN hZ hS hA3⟩ rfl rfl hl.1 rfl (lv_room (Nat.le_of_ble_eq_true rfl)) dL_law_352 (by refine ⟨?_, ?_⟩ <;> simp only [room_1] <;> omega)) hS (fun q _ h => hA3 q h) hA3 (fun r3 u t H locs ht hvm hw3 hB hz3 hk3 hS => ?_)
  try dsimp only at hw3 hB
  rw [ht] at hB
  have hH := hB
  obtain ⟨gi3, gr3⟩ := u
  try dsimp only at hw3 hH
  have hJ1 := hH.J
  refine lv_pop hx hb dL_law_355 rfl ?_
  refine lv_aload_n hx hb dL_law_356 rfl (lv_at hl 2 rfl) ?_
  refine lv_aload_n hx hb dL_law_357 rfl (lv_at hl 0 rfl) ?_
  refine lv_iload_n hx hb dL_law_358 rfl (lv_at hl 3 rfl) ?_
  refine lv_iconst (v := 1) hx hb dL_law_359 ic_1 ?_
  refine lv_iadd hx hb dL_law_360 ?_
  refine lv_topi (fun x4 e4 => ?_)
  refine va_sld hx hb hX hbl hbA hS (sc_n1 e4 hy hL) dL_law_361 ?_
  refine lv_topi (fun v5 ev5 => ?_)
  have hA6 := th_Al hT hS
  have hle6 := hS.1
  refine va_calli (va_runV (As := [.int v5]) (rest := []) ⟨hx, hb, hml, hown, hts⟩ (k_X12_winds l D cA Z τ gi3 gr3 _ (A 12) t2 v5) (cwV 1 hts gL_law_X12_winds rfl rfl rfl hd_X12_winds__1 ⟨Nat.le_of_ble_eq_true rfl, Nat.le_of_ble_eq_true rfl⟩) ⟨th_blind, tr_12 hK hH t2, th_pre hH hK hN hZ hS hA6⟩ rfl rfl hl.1 rfl (lv_room (Nat.le_of_ble_eq_true rfl)) dL_law_362 (by refine ⟨?_, ?_⟩ <;> simp only [room_1] <;> omega)) hS (fun q _ h => hA6 q h) hA6 (fun r6 u t H locs ht hvm hw6 hB hz6 hk6 hS => ?_)
  try dsimp only at hw6 hB
  rw [ht] at hB
  have hH := hB
  obtain ⟨gi6, gr6⟩ := u
  try dsimp only at hw6 hH
  refine lv_pop hx hb dL_law_365 rfl ?_
  refine lv_goto (tgt := 1146) hx hb dL_law_366 (th_eqI rfl) ?_
  have ea_v5 : v5 = v2 := by rw [ev5, ev2, e4, e1]
  rw [ea_v5] at hw6
  have hsm := sim_winds hJ hJ1 hv hw3 hw6
  have hv := hsm
  refine W.widen (k := cells + 2) (n := slots + 32) (by omega) (by omega) ?_
  exact kk _ _ _ _ _ _ hH hS hT t1 t2 hv hl

set_option maxHeartbeats 8000000 in
set_option maxRecDepth 100000 in
theorem law_c5 {p : Program} {l : Launch} {e : Env} {s : State} {m : MethodId} {below : List Frame} {meth : Method} {c : Code} {D : va_G} {cA : Nat → ClassId} {Z : th_Zt} {b L : Nat} {xs : Nat → Int32} {A : Nat → Nat} {cells slots : Nat} {y : Int32} {Q : State → Prop} (C0 : lw_At p s m meth c b L xs) (hK : va_K D vwCl (th_tys cA) s) (hN : th_N s) (hZ : th_Z Z (fun q : Nat => s.heap.size ≤ q) s s.heap) (hL : L ≤ 2560) (hy : 0 ≤ y.toInt ∧ y.toInt + 5 ≤ (L : Int)) (hc : cells + 2 ≤ 600000) (hs : slots + 32 ≤ 7302249) (kk : lc_K p l e s m below meth c D cA b (A 11) (A 12) y (fun (t : th_t) (g : th_i) (r : th_r) => Rel Z t g r g r A) (cells + 2) (slots + 32) Q 1146) : lc_K p l e s m below meth c D cA b (A 11) (A 12) y (fun (t : th_t) (g : th_i) (r : th_r) => Rel Z t g r g r A) cells slots Q 369 := by
  intro τ gi gr H locs ls hH hS hT t1 t2 hv hl
  obtain ⟨hx, hb, hr, hml, hown, hts, hX, hbl, hlocks, hgv⟩ := C0
  have hbA : ¬ (fun q : Nat => s.heap.size ≤ q) b := Nat.not_le.mpr hbl
  refine lv_aload_n hx hb dL_law_369 rfl (lv_at hl 1 rfl) ?_
  refine lv_aload_n hx hb dL_law_370 rfl (lv_at hl 0 rfl) ?_
  refine lv_iload_n hx hb dL_law_371 rfl (lv_at hl 3 rfl) ?_
  refine lv_iconst (v := 1) hx hb dL_law_372 ic_1 ?_
  refine lv_iadd hx hb dL_law_373 ?_
  refine lv_topi (fun x1 e1 => ?_)
  refine va_sld hx hb hX hbl hbA hS (sc_n1 e1 hy hL) dL_law_374 ?_
  refine lv_topi (fun v2 ev2 => ?_)
  refine lv_aload_n hx hb dL_law_375 rfl (lv_at hl 0 rfl) ?_
  refine lv_iload_n hx hb dL_law_376 rfl (lv_at hl 3 rfl) ?_
  refine lv_iconst (v := 2) hx hb dL_law_377 ic_2 ?_
  refine lv_iadd hx hb dL_law_378 ?_
  refine lv_topi (fun x3 e3 => ?_)
  refine va_sld hx hb hX hbl hbA hS (sc_n2 e3 hy hL) dL_law_379 ?_
  refine lv_topi (fun v4 ev4 => ?_)
  have hJ := hH.J
  have hA5 := th_Al hT hS
  have hle5 := hS.1
  refine va_calli (va_runV (As := [.int v2, .int v4]) (rest := []) ⟨hx, hb, hml, hown, hts⟩ (k_X11_about l D cA Z τ gi gr _ (A 11) t1 v2 v4) (cwV 2 hts gL_law_X11_about rfl rfl rfl hd_X11_about__2 ⟨Nat.le_of_ble_eq_true rfl, Nat.le_of_ble_eq_true rfl⟩) ⟨th_blind, tr_11 hK hH t1, th_pre hH hK hN hZ hS hA5⟩ rfl rfl hl.1 rfl (lv_room (Nat.le_of_ble_eq_true rfl)) dL_law_380 (by refine ⟨?_, ?_⟩ <;> simp only [room_1] <;> omega)) hS (fun q _ h => hA5 q h) hA5 (fun r5 u t H locs ht hvm hw5 hB hz5 hk5 hS => ?_)
  try dsimp only at hw5 hB
  rw [ht] at hB
  have hH := hB
  obtain ⟨gi5, gr5⟩ := u
  try dsimp only at hw5 hH
  have hJ1 := hH.J
  refine lv_aload_n hx hb dL_law_383 rfl (lv_at hl 2 rfl) ?_
  refine lv_aload_n hx hb dL_law_384 rfl (lv_at hl 0 rfl) ?_
  refine lv_iload_n hx hb dL_law_385 rfl (lv_at hl 3 rfl) ?_
  refine lv_iconst (v := 1) hx hb dL_law_386 ic_1 ?_
  refine lv_iadd hx hb dL_law_387 ?_
  refine lv_topi (fun x6 e6 => ?_)
  refine va_sld hx hb hX hbl hbA hS (sc_n1 e6 hy hL) dL_law_388 ?_
  refine lv_topi (fun v7 ev7 => ?_)
  refine lv_aload_n hx hb dL_law_389 rfl (lv_at hl 0 rfl) ?_
  refine lv_iload_n hx hb dL_law_390 rfl (lv_at hl 3 rfl) ?_
  refine lv_iconst (v := 2) hx hb dL_law_391 ic_2 ?_
  refine lv_iadd hx hb dL_law_392 ?_
  refine lv_topi (fun x8 e8 => ?_)
  refine va_sld hx hb hX hbl hbA hS (sc_n2 e8 hy hL) dL_law_393 ?_
  refine lv_topi (fun v9 ev9 => ?_)
  have hA10 := th_Al hT hS
  have hle10 := hS.1
  refine va_calli (va_runV (As := [.int v7, .int v9]) (rest := [.int r5]) ⟨hx, hb, hml, hown, hts⟩ (k_X12_about l D cA Z τ gi5 gr5 _ (A 12) t2 v7 v9) (cwV 2 hts gL_law_X12_about rfl rfl rfl hd_X12_about__2 ⟨Nat.le_of_ble_eq_true rfl, Nat.le_of_ble_eq_true rfl⟩) ⟨th_blind, tr_12 hK hH t2, th_pre hH hK hN hZ hS hA10⟩ rfl rfl hl.1 rfl (lv_room (Nat.le_of_ble_eq_true rfl)) dL_law_394 (by refine ⟨?_, ?_⟩ <;> simp only [room_1] <;> omega)) hS (fun q _ h => hA10 q h) hA10 (fun r10 u t H locs ht hvm hw10 hB hz10 hk10 hS => ?_)
  try dsimp only at hw10 hB
  rw [ht] at hB
  have hH := hB
  obtain ⟨gi10, gr10⟩ := u
  try dsimp only at hw10 hH
  have ea_v7 : v7 = v2 := by rw [ev7, ev2, e6, e1]
  rw [ea_v7] at hw10
  have ea_v9 : v9 = v4 := by rw [ev9, ev4, e8, e3]
  rw [ea_v9] at hw10
  have hsm := sim_about hJ hJ1 hv hw5 hw10
  refine lv_icmp_eq (tgt := 1146) hx hb dL_law_397 (th_eqI rfl) (fun c9 => ?_) (fun c9 => absurd hsm.1 c9)
  have hv := hsm.2
  refine W.widen (k := cells + 2) (n := slots + 32) (by omega) (by omega) ?_
  exact kk _ _ _ _ _ _ hH hS hT t1 t2 hv hl

set_option maxHeartbeats 8000000 in
set_option maxRecDepth 100000 in
theorem law_c6 {p : Program} {l : Launch} {e : Env} {s : State} {m : MethodId} {below : List Frame} {meth : Method} {c : Code} {D : va_G} {cA : Nat → ClassId} {Z : th_Zt} {b L : Nat} {xs : Nat → Int32} {A : Nat → Nat} {cells slots : Nat} {y : Int32} {Q : State → Prop} (C0 : lw_At p s m meth c b L xs) (hK : va_K D vwCl (th_tys cA) s) (hN : th_N s) (hZ : th_Z Z (fun q : Nat => s.heap.size ≤ q) s s.heap) (hL : L ≤ 2560) (hy : 0 ≤ y.toInt ∧ y.toInt + 5 ≤ (L : Int)) (hc : cells + 2 ≤ 600000) (hs : slots + 32 ≤ 7302249) (kk : lc_K p l e s m below meth c D cA b (A 11) (A 12) y (fun (t : th_t) (g : th_i) (r : th_r) => Rel Z t g r g r A) (cells + 2) (slots + 32) Q 1146) : lc_K p l e s m below meth c D cA b (A 11) (A 12) y (fun (t : th_t) (g : th_i) (r : th_r) => Rel Z t g r g r A) cells slots Q 402 := by
  intro τ gi gr H locs ls hH hS hT t1 t2 hv hl
  obtain ⟨hx, hb, hr, hml, hown, hts, hX, hbl, hlocks, hgv⟩ := C0
  have hbA : ¬ (fun q : Nat => s.heap.size ≤ q) b := Nat.not_le.mpr hbl
  refine lv_aload_n hx hb dL_law_402 rfl (lv_at hl 1 rfl) ?_
  refine lv_aload_n hx hb dL_law_403 rfl (lv_at hl 0 rfl) ?_
  refine lv_iload_n hx hb dL_law_404 rfl (lv_at hl 3 rfl) ?_
  refine lv_iconst (v := 1) hx hb dL_law_405 ic_1 ?_
  refine lv_iadd hx hb dL_law_406 ?_
  refine lv_topi (fun x1 e1 => ?_)
  refine va_sld hx hb hX hbl hbA hS (sc_n1 e1 hy hL) dL_law_407 ?_
  refine lv_topi (fun v2 ev2 => ?_)
  refine lv_aload_n hx hb dL_law_408 rfl (lv_at hl 0 rfl) ?_
  refine lv_iload_n hx hb dL_law_409 rfl (lv_at hl 3 rfl) ?_
  refine lv_iconst (v := 2) hx hb dL_law_410 ic_2 ?_
  refine lv_iadd hx hb dL_law_411 ?_
  refine lv_topi (fun x3 e3 => ?_)
  refine va_sld hx hb hX hbl hbA hS (sc_n2 e3 hy hL) dL_law_412 ?_
  refine lv_topi (fun v4 ev4 => ?_)
  have hJ := hH.J
  have hA5 := th_Al hT hS
  have hle5 := hS.1
  refine va_calli (va_runV (As := [.int v2, .int v4]) (rest := []) ⟨hx, hb, hml, hown, hts⟩ (k_X11_of l D cA Z τ gi gr _ (A 11) t1 v2 v4) (cwV 2 hts gL_law_X11_of rfl rfl rfl hd_X11_of__2 ⟨Nat.le_of_ble_eq_true rfl, Nat.le_of_ble_eq_true rfl⟩) ⟨th_blind, tr_11 hK hH t1, th_pre hH hK hN hZ hS hA5⟩ rfl rfl hl.1 rfl (lv_room (Nat.le_of_ble_eq_true rfl)) dL_law_413 (by refine ⟨?_, ?_⟩ <;> simp only [room_1] <;> omega)) hS (fun q _ h => hA5 q h) hA5 (fun r5 u t H locs ht hvm hw5 hB hz5 hk5 hS => ?_)
  try dsimp only at hw5 hB
  rw [ht] at hB
  have hH := hB
  obtain ⟨gi5, gr5⟩ := u
  try dsimp only at hw5 hH
  have hJ1 := hH.J
  refine lv_pop hx hb dL_law_416 rfl ?_
  refine lv_aload_n hx hb dL_law_417 rfl (lv_at hl 2 rfl) ?_
  refine lv_aload_n hx hb dL_law_418 rfl (lv_at hl 0 rfl) ?_
  refine lv_iload_n hx hb dL_law_419 rfl (lv_at hl 3 rfl) ?_
  refine lv_iconst (v := 1) hx hb dL_law_420 ic_1 ?_
  refine lv_iadd hx hb dL_law_421 ?_
  refine lv_topi (fun x6 e6 => ?_)
  refine va_sld hx hb hX hbl hbA hS (sc_n1 e6 hy hL) dL_law_422 ?_
  refine lv_topi (fun v7 ev7 => ?_)
  refine lv_aload_n hx hb dL_law_423 rfl (lv_at hl 0 rfl) ?_
  refine lv_iload_n hx hb dL_law_424 rfl (lv_at hl 3 rfl) ?_
  refine lv_iconst (v := 2) hx hb dL_law_425 ic_2 ?_
  refine lv_iadd hx hb dL_law_426 ?_
  refine lv_topi (fun x8 e8 => ?_)
  refine va_sld hx hb hX hbl hbA hS (sc_n2 e8 hy hL) dL_law_427 ?_
  refine lv_topi (fun v9 ev9 => ?_)
  have hA10 := th_Al hT hS
  have hle10 := hS.1
  refine va_calli (va_runV (As := [.int v7, .int v9]) (rest := []) ⟨hx, hb, hml, hown, hts⟩ (k_X12_of l D cA Z τ gi5 gr5 _ (A 12) t2 v7 v9) (cwV 2 hts gL_law_X12_of rfl rfl rfl hd_X12_of__2 ⟨Nat.le_of_ble_eq_true rfl, Nat.le_of_ble_eq_true rfl⟩) ⟨th_blind, tr_12 hK hH t2, th_pre hH hK hN hZ hS hA10⟩ rfl rfl hl.1 rfl (lv_room (Nat.le_of_ble_eq_true rfl)) dL_law_428 (by refine ⟨?_, ?_⟩ <;> simp only [room_1] <;> omega)) hS (fun q _ h => hA10 q h) hA10 (fun r10 u t H locs ht hvm hw10 hB hz10 hk10 hS => ?_)
  try dsimp only at hw10 hB
  rw [ht] at hB
  have hH := hB
  obtain ⟨gi10, gr10⟩ := u
  try dsimp only at hw10 hH
  refine lv_pop hx hb dL_law_431 rfl ?_
  refine lv_goto (tgt := 1146) hx hb dL_law_432 (th_eqI rfl) ?_
  have ea_v7 : v7 = v2 := by rw [ev7, ev2, e6, e1]
  rw [ea_v7] at hw10
  have ea_v9 : v9 = v4 := by rw [ev9, ev4, e8, e3]
  rw [ea_v9] at hw10
  have hsm := sim_of hJ hJ1 hv hw5 hw10
  have hv := hsm
  refine W.widen (k := cells + 2) (n := slots + 32) (by omega) (by omega) ?_
  exact kk _ _ _ _ _ _ hH hS hT t1 t2 hv hl

set_option maxHeartbeats 8000000 in
set_option maxRecDepth 100000 in
theorem law_c7 {p : Program} {l : Launch} {e : Env} {s : State} {m : MethodId} {below : List Frame} {meth : Method} {c : Code} {D : va_G} {cA : Nat → ClassId} {Z : th_Zt} {b L : Nat} {xs : Nat → Int32} {A : Nat → Nat} {cells slots : Nat} {y : Int32} {Q : State → Prop} (C0 : lw_At p s m meth c b L xs) (hK : va_K D vwCl (th_tys cA) s) (hN : th_N s) (hZ : th_Z Z (fun q : Nat => s.heap.size ≤ q) s s.heap) (hL : L ≤ 2560) (hy : 0 ≤ y.toInt ∧ y.toInt + 5 ≤ (L : Int)) (hc : cells + 2 ≤ 600000) (hs : slots + 32 ≤ 7302249) (kk : lc_K p l e s m below meth c D cA b (A 11) (A 12) y (fun (t : th_t) (g : th_i) (r : th_r) => Rel Z t g r g r A) (cells + 2) (slots + 32) Q 1146) : lc_K p l e s m below meth c D cA b (A 11) (A 12) y (fun (t : th_t) (g : th_i) (r : th_r) => Rel Z t g r g r A) cells slots Q 435 := by
  intro τ gi gr H locs ls hH hS hT t1 t2 hv hl
  obtain ⟨hx, hb, hr, hml, hown, hts, hX, hbl, hlocks, hgv⟩ := C0
  have hbA : ¬ (fun q : Nat => s.heap.size ≤ q) b := Nat.not_le.mpr hbl
  refine lv_aload_n hx hb dL_law_435 rfl (lv_at hl 1 rfl) ?_
  refine lv_aload_n hx hb dL_law_436 rfl (lv_at hl 0 rfl) ?_
  refine lv_iload_n hx hb dL_law_437 rfl (lv_at hl 3 rfl) ?_
  refine lv_iconst (v := 1) hx hb dL_law_438 ic_1 ?_
  refine lv_iadd hx hb dL_law_439 ?_
  refine lv_topi (fun x1 e1 => ?_)
  refine va_sld hx hb hX hbl hbA hS (sc_n1 e1 hy hL) dL_law_440 ?_
  refine lv_topi (fun v2 ev2 => ?_)
  refine lv_aload_n hx hb dL_law_441 rfl (lv_at hl 0 rfl) ?_
  refine lv_iload_n hx hb dL_law_442 rfl (lv_at hl 3 rfl) ?_
  refine lv_iconst (v := 2) hx hb dL_law_443 ic_2 ?_
  refine lv_iadd hx hb dL_law_444 ?_
  refine lv_topi (fun x3 e3 => ?_)
  refine va_sld hx hb hX hbl hbA hS (sc_n2 e3 hy hL) dL_law_445 ?_
  refine lv_topi (fun v4 ev4 => ?_)
  refine lv_aload_n hx hb dL_law_446 rfl (lv_at hl 0 rfl) ?_
  refine lv_iload_n hx hb dL_law_447 rfl (lv_at hl 3 rfl) ?_
  refine lv_iconst (v := 3) hx hb dL_law_448 ic_3 ?_
  refine lv_iadd hx hb dL_law_449 ?_
  refine lv_topi (fun x5 e5 => ?_)
  refine va_sld hx hb hX hbl hbA hS (sc_n3 e5 hy hL) dL_law_450 ?_
  refine lv_topi (fun v6 ev6 => ?_)
  have hJ := hH.J
  have hA7 := th_Al hT hS
  have hle7 := hS.1
  refine va_calli (va_runV (As := [.int v2, .int v4, .int v6]) (rest := []) ⟨hx, hb, hml, hown, hts⟩ (k_X11_out l D cA Z τ gi gr _ (A 11) t1 v2 v4 v6) (cwV 3 hts gL_law_X11_out rfl rfl rfl hd_X11_out__3 ⟨Nat.le_of_ble_eq_true rfl, Nat.le_of_ble_eq_true rfl⟩) ⟨th_blind, tr_11 hK hH t1, th_pre hH hK hN hZ hS hA7⟩ rfl rfl hl.1 rfl (lv_room (Nat.le_of_ble_eq_true rfl)) dL_law_451 (by refine ⟨?_, ?_⟩ <;> simp only [room_1] <;> omega)) hS (fun q _ h => hA7 q h) hA7 (fun r7 u t H locs ht hvm hw7 hB hz7 hk7 hS => ?_)
  try dsimp only at hw7 hB
  rw [ht] at hB
  have hH := hB
  obtain ⟨gi7, gr7⟩ := u
  try dsimp only at hw7 hH
  have hJ1 := hH.J
  refine lv_pop hx hb dL_law_454 rfl ?_
  refine lv_aload_n hx hb dL_law_455 rfl (lv_at hl 2 rfl) ?_
  refine lv_aload_n hx hb dL_law_456 rfl (lv_at hl 0 rfl) ?_
  refine lv_iload_n hx hb dL_law_457 rfl (lv_at hl 3 rfl) ?_
  refine lv_iconst (v := 1) hx hb dL_law_458 ic_1 ?_
  refine lv_iadd hx hb dL_law_459 ?_
  refine lv_topi (fun x8 e8 => ?_)
  refine va_sld hx hb hX hbl hbA hS (sc_n1 e8 hy hL) dL_law_460 ?_
  refine lv_topi (fun v9 ev9 => ?_)
  refine lv_aload_n hx hb dL_law_461 rfl (lv_at hl 0 rfl) ?_
  refine lv_iload_n hx hb dL_law_462 rfl (lv_at hl 3 rfl) ?_
  refine lv_iconst (v := 2) hx hb dL_law_463 ic_2 ?_
  refine lv_iadd hx hb dL_law_464 ?_
  refine lv_topi (fun x10 e10 => ?_)
  refine va_sld hx hb hX hbl hbA hS (sc_n2 e10 hy hL) dL_law_465 ?_
  refine lv_topi (fun v11 ev11 => ?_)
  refine lv_aload_n hx hb dL_law_466 rfl (lv_at hl 0 rfl) ?_
  refine lv_iload_n hx hb dL_law_467 rfl (lv_at hl 3 rfl) ?_
  refine lv_iconst (v := 3) hx hb dL_law_468 ic_3 ?_
  refine lv_iadd hx hb dL_law_469 ?_
  refine lv_topi (fun x12 e12 => ?_)
  refine va_sld hx hb hX hbl hbA hS (sc_n3 e12 hy hL) dL_law_470 ?_
  refine lv_topi (fun v13 ev13 => ?_)
  have hA14 := th_Al hT hS
  have hle14 := hS.1
  refine va_calli (va_runV (As := [.int v9, .int v11, .int v13]) (rest := []) ⟨hx, hb, hml, hown, hts⟩ (k_X12_out l D cA Z τ gi7 gr7 _ (A 12) t2 v9 v11 v13) (cwV 3 hts gL_law_X12_out rfl rfl rfl hd_X12_out__3 ⟨Nat.le_of_ble_eq_true rfl, Nat.le_of_ble_eq_true rfl⟩) ⟨th_blind, tr_12 hK hH t2, th_pre hH hK hN hZ hS hA14⟩ rfl rfl hl.1 rfl (lv_room (Nat.le_of_ble_eq_true rfl)) dL_law_471 (by refine ⟨?_, ?_⟩ <;> simp only [room_1] <;> omega)) hS (fun q _ h => hA14 q h) hA14 (fun r14 u t H locs ht hvm hw14 hB hz14 hk14 hS => ?_)
  try dsimp only at hw14 hB
  rw [ht] at hB
  have hH := hB
  obtain ⟨gi14, gr14⟩ := u
  try dsimp only at hw14 hH
  refine lv_pop hx hb dL_law_474 rfl ?_
  refine lv_goto (tgt := 1146) hx hb dL_law_475 (th_eqI rfl) ?_
  have ea_v9 : v9 = v2 := by rw [ev9, ev2, e8, e1]
  rw [ea_v9] at hw14
  have ea_v11 : v11 = v4 := by rw [ev11, ev4, e10, e3]
  rw [ea_v11] at hw14
  have ea_v13 : v13 = v6 := by rw [ev13, ev6, e12, e5]
  rw [ea_v13] at hw14
  have hsm := sim_out hJ hJ1 hv hw7 hw14
  have hv := hsm
  refine W.widen (k := cells + 2) (n := slots + 32) (by omega) (by omega) ?_
  exact kk _ _ _ _ _ _ hH hS hT t1 t2 hv hl

set_option maxHeartbeats 8000000 in
set_option maxRecDepth 100000 in
theorem law_c8 {p : Program} {l : Launch} {e : Env} {s : State} {m : MethodId} {below : List Frame} {meth : Method} {c : Code} {D : va_G} {cA : Nat → ClassId} {Z : th_Zt} {b L : Nat} {xs : Nat → Int32} {A : Nat → Nat} {cells slots : Nat} {y : Int32} {Q : State → Prop} (C0 : lw_At p s m meth c b L xs) (hK : va_K D vwCl (th_tys cA) s) (hN : th_N s) (hZ : th_Z Z (fun q : Nat => s.heap.size ≤ q) s s.heap) (hL : L ≤ 2560) (hy : 0 ≤ y.toInt ∧ y.toInt + 5 ≤ (L : Int)) (hc : cells + 2 ≤ 600000) (hs : slots + 32 ≤ 7302249) (kk : lc_K p l e s m below meth c D cA b (A 11) (A 12) y (fun (t : th_t) (g : th_i) (r : th_r) => Rel Z t g r g r A) (cells + 2) (slots + 32) Q 1146) : lc_K p l e s m below meth c D cA b (A 11) (A 12) y (fun (t : th_t) (g : th_i) (r : th_r) => Rel Z t g r g r A) cells slots Q 478 := by
  intro τ gi gr H locs ls hH hS hT t1 t2 hv hl
  obtain ⟨hx, hb, hr, hml, hown, hts, hX, hbl, hlocks, hgv⟩ := C0
  have hbA : ¬ (fun q : Nat => s.heap.size ≤ q) b := Nat.not_le.mpr hbl
  refine lv_aload_n hx hb dL_law_478 rfl (lv_at hl 1 rfl) ?_
  refine lv_aload_n hx hb dL_law_479 rfl (lv_at hl 0 rfl) ?_
  refine lv_iload_n hx hb dL_law_480 rfl (lv_at hl 3 rfl) ?_
  refine lv_iconst (v := 1) hx hb dL_law_481 ic_1 ?_
  refine lv_iadd hx hb dL_law_482 ?_
  refine lv_topi (fun x1 e1 => ?_)
  refine va_sld hx hb hX hbl hbA hS (sc_n1 e1 hy hL) dL_law_483 ?_
  refine lv_topi (fun v2 ev2 => ?_)
  refine lv_aload_n hx hb dL_law_484 rfl (lv_at hl 0 rfl) ?_
  refine lv_iload_n hx hb dL_law_485 rfl (lv_at hl 3 rfl) ?_
  refine lv_iconst (v := 2) hx hb dL_law_486 ic_2 ?_
  refine lv_iadd hx hb dL_law_487 ?_
  refine lv_topi (fun x3 e3 => ?_)
  refine va_sld hx hb hX hbl hbA hS (sc_n2 e3 hy hL) dL_law_488 ?_
  refine lv_topi (fun v4 ev4 => ?_)
  have hJ := hH.J
  have hA5 := th_Al hT hS
  have hle5 := hS.1
  refine va_calli (va_runV (As := [.int v2, .int v4]) (rest := []) ⟨hx, hb, hml, hown, hts⟩ (k_X11_fits l D cA Z τ gi gr _ (A 11) t1 v2 v4) (cwV 2 hts gL_law_X11_fits rfl rfl rfl hd_X11_fits__2 ⟨Nat.le_of_ble_eq_true rfl, Nat.le_of_ble_eq_true rfl⟩) ⟨th_blind, tr_11 hK hH t1, th_pre hH hK hN hZ hS hA5⟩ rfl rfl hl.1 rfl (lv_room (Nat.le_of_ble_eq_true rfl)) dL_law_489 (by refine ⟨?_, ?_⟩ <;> simp only [room_1] <;> omega)) hS (fun q _ h => hA5 q h) hA5 (fun r5 u t H locs ht hvm hw5 hB hz5 hk5 hS => ?_)
  try dsimp only at hw5 hB
  rw [ht] at hB
  have hH := hB
  obtain ⟨gi5, gr5⟩ := u
  try dsimp only at hw5 hH
  have hJ1 := hH.J
  refine lv_pop hx hb dL_law_492 rfl ?_
  refine lv_aload_n hx hb dL_law_493 rfl (lv_at hl 2 rfl) ?_
  refine lv_aload_n hx hb dL_law_494 rfl (lv_at hl 0 rfl) ?_
  refine lv_iload_n hx hb dL_law_495 rfl (lv_at hl 3 rfl) ?_
  refine lv_iconst (v := 1) hx hb dL_law_496 ic_1 ?_
  refine lv_iadd hx hb dL_law_497 ?_
  refine lv_topi (fun x6 e6 => ?_)
  refine va_sld hx hb hX hbl hbA hS (sc_n1 e6 hy hL) dL_law_498 ?_
  refine lv_topi (fun v7 ev7 => ?_)
  refine lv_aload_n hx hb dL_law_499 rfl (lv_at hl 0 rfl) ?_
  refine lv_iload_n hx hb dL_law_500 rfl (lv_at hl 3 rfl) ?_
  refine lv_iconst (v := 2) hx hb dL_law_501 ic_2 ?_
  refine lv_iadd hx hb dL_law_502 ?_
  refine lv_topi (fun x8 e8 => ?_)
  refine va_sld hx hb hX hbl hbA hS (sc_n2 e8 hy hL) dL_law_503 ?_
  refine lv_topi (fun v9 ev9 => ?_)
  have hA10 := th_Al hT hS
  have hle10 := hS.1
  refine va_calli (va_runV (As := [.int v7, .int v9]) (rest := []) ⟨hx, hb, hml, hown, hts⟩ (k_X12_fits l D cA Z τ gi5 gr5 _ (A 12) t2 v7 v9) (cwV 2 hts gL_law_X12_fits rfl rfl rfl hd_X12_fits__2 ⟨Nat.le_of_ble_eq_true rfl, Nat.le_of_ble_eq_true rfl⟩) ⟨th_blind, tr_12 hK hH t2, th_pre hH hK hN hZ hS hA10⟩ rfl rfl hl.1 rfl (lv_room (Nat.le_of_ble_eq_true rfl)) dL_law_504 (by refine ⟨?_, ?_⟩ <;> simp only [room_1] <;> omega)) hS (fun q _ h => hA10 q h) hA10 (fun r10 u t H locs ht hvm hw10 hB hz10 hk10 hS => ?_)
  try dsimp only at hw10 hB
  rw [ht] at hB
  have hH := hB
  obtain ⟨gi10, gr10⟩ := u
  try dsimp only at hw10 hH
  refine lv_pop hx hb dL_law_507 rfl ?_
  refine lv_goto (tgt := 1146) hx hb dL_law_508 (th_eqI rfl) ?_
  have ea_v7 : v7 = v2 := by rw [ev7, ev2, e6, e1]
  rw [ea_v7] at hw10
  have ea_v9 : v9 = v4 := by rw [ev9, ev4, e8, e3]
  rw [ea_v9] at hw10
  have hsm := sim_fits hJ hJ1 hv hw5 hw10
  have hv := hsm
  refine W.widen (k := cells + 2) (n := slots + 32) (by omega) (by omega) ?_
  exact kk _ _ _ _ _ _ hH hS hT t1 t2 hv hl

set_option maxHeartbeats 8000000 in
set_option maxRecDepth 100000 in
theorem law_c9 {p : Program} {l : Launch} {e : Env} {s : State} {m : MethodId} {below : List Frame} {meth : Method} {c : Code} {D : va_G} {cA : Nat → ClassId} {Z : th_Zt} {b L : Nat} {xs : Nat → Int32} {A : Nat → Nat} {cells slots : Nat} {y : Int32} {Q : State → Prop} (C0 : lw_At p s m meth c b L xs) (hK : va_K D vwCl (th_tys cA) s) (hN : th_N s) (hZ : th_Z Z (fun q : Nat => s.heap.size ≤ q) s s.heap) (hL : L ≤ 2560) (hy : 0 ≤ y.toInt ∧ y.toInt + 5 ≤ (L : Int)) (hc : cells + 2 ≤ 600000) (hs : slots + 32 ≤ 7302249) (kk : lc_K p l e s m below meth c D cA b (A 11) (A 12) y (fun (t : th_t) (g : th_i) (r : th_r) => Rel Z t g r g r A) (cells + 2) (slots + 32) Q 1146) : lc_K p l e s m below meth c D cA b (A 11) (A 12) y (fun (t : th_t) (g : th_i) (r : th_r) => Rel Z t g r g r A) cells slots Q 511 := by
  intro τ gi gr H locs ls hH hS hT t1 t2 hv hl
  obtain ⟨hx, hb, hr, hml, hown, hts, hX, hbl, hlocks, hgv⟩ := C0
  have hbA : ¬ (fun q : Nat => s.heap.size ≤ q) b := Nat.not_le.mpr hbl
  refine lv_aload_n hx hb dL_law_511 rfl (lv_at hl 1 rfl) ?_
  refine lv_aload_n hx hb dL_law_512 rfl (lv_at hl 0 rfl) ?_
  refine lv_iload_n hx hb dL_law_513 rfl (lv_at hl 3 rfl) ?_
  refine lv_iconst (v := 1) hx hb dL_law_514 ic_1 ?_
  refine lv_iadd hx hb dL_law_515 ?_
  refine lv_topi (fun x1 e1 => ?_)
  refine va_sld hx hb hX hbl hbA hS (sc_n1 e1 hy hL) dL_law_516 ?_
  refine lv_topi (fun v2 ev2 => ?_)
  refine lv_aload_n hx hb dL_law_517 rfl (lv_at hl 0 rfl) ?_
  refine lv_iload_n hx hb dL_law_518 rfl (lv_at hl 3 rfl) ?_
  refine lv_iconst (v := 2) hx hb dL_law_519 ic_2 ?_
  refine lv_iadd hx hb dL_law_520 ?_
  refine lv_topi (fun x3 e3 => ?_)
  refine va_sld hx hb hX hbl hbA hS (sc_n2 e3 hy hL) dL_law_521 ?_
  refine lv_topi (fun v4 ev4 => ?_)
  refine lv_aload_n hx hb dL_law_522 rfl (lv_at hl 0 rfl) ?_
  refine lv_iload_n hx hb dL_law_523 rfl (lv_at hl 3 rfl) ?_
  refine lv_iconst (v := 3) hx hb dL_law_524 ic_3 ?_
  refine lv_iadd hx hb dL_law_525 ?_
  refine lv_topi (fun x5 e5 => ?_)
  refine va_sld hx hb hX hbl hbA hS (sc_n3 e5 hy hL) dL_law_526 ?_
  refine lv_topi (fun v6 ev6 => ?_)
  refine lv_aload_n hx hb dL_law_527 rfl (lv_at hl 0 rfl) ?_
  refine lv_iload_n hx hb dL_law_528 rfl (lv_at hl 3 rfl) ?_
  refine lv_iconst (v := 4) hx hb dL_law_529 ic_4 ?_
  refine lv_iadd hx hb dL_law_530 ?_
  refine lv_topi (fun x7 e7 => ?_)
  refine va_sld hx hb hX hbl hbA hS (sc_n4 e7 hy hL) dL_law_531 ?_
  refine lv_topi (fun v8 ev8 => ?_)
  have hJ := hH.J
  have hA9 := th_Al hT hS
  have hle9 := hS.1
  refine va_calli (va_runV (As := [.int v2, .int v4, .int v6, .int v8]) (rest := []) ⟨hx, hb, hml, hown, hts⟩ (k_X11_touch l D cA Z τ gi gr _ (A 11) t1 v2 v4 v6 v8) (cwV 4 hts gL_law_X11_touch rfl rfl rfl hd_X11_touch__4 ⟨Nat.le_of_ble_eq_true rfl, Nat.le_of_ble_eq_true rfl⟩) ⟨th_blind, tr_11 hK hH t1, th_pre hH hK hN hZ hS hA9⟩ rfl rfl hl.1 rfl (lv_room (Nat.le_of_ble_eq_true rfl)) dL_law_532 (by refine ⟨?_, ?_⟩ <;> simp only [room_1] <;> omega)) hS (fun q _ h => hA9 q h) hA9 (fun r9 u t H locs ht hvm hw9 hB hz9 hk9 hS => ?_)
  try dsimp only at hw9 hB
  rw [ht] at hB
  have hH := hB
  obtain ⟨gi9, gr9⟩ := u
  try dsimp only at hw9 hH
  have hJ1 := hH.J
  refine lv_pop hx hb dL_law_535 rfl ?_
  refine lv_aload_n hx hb dL_law_536 rfl (lv_at hl 2 rfl) ?_
  refine lv_aload_n hx hb dL_law_537 rfl (lv_at hl 0 rfl) ?_
  refine lv_iload_n hx hb dL_law_538 rfl (lv_at hl 3 rfl) ?_
  refine lv_iconst (v := 1) hx hb dL_law_539 ic_1 ?_
  refine lv_iadd hx hb dL_law_540 ?_
  refine lv_topi (fun x10 e10 => ?_)
  refine va_sld hx hb hX hbl hbA hS (sc_n1 e10 hy hL) dL_law_541 ?_
  refine lv_topi (fun v11 ev11 => ?_)
  refine lv_aload_n hx hb dL_law_542 rfl (lv_at hl 0 rfl) ?_
  refine lv_iload_n hx hb dL_law_543 rfl (lv_at hl 3 rfl) ?_
  refine lv_iconst (v := 2) hx hb dL_law_544 ic_2 ?_
  refine lv_iadd hx hb dL_law_545 ?_
  refine lv_topi (fun x12 e12 => ?_)
  refine va_sld hx hb hX hbl hbA hS (sc_n2 e12 hy hL) dL_law_546 ?_
  refine lv_topi (fun v13 ev13 => ?_)
  refine lv_aload_n hx hb dL_law_547 rfl (lv_at hl 0 rfl) ?_
  refine lv_iload_n hx hb dL_law_548 rfl (lv_at hl 3 rfl) ?_
  refine lv_iconst (v := 3) hx hb dL_law_549 ic_3 ?_
  refine lv_iadd hx hb dL_law_550 ?_
  refine lv_topi (fun x14 e14 => ?_)
  refine va_sld hx hb hX hbl hbA hS (sc_n3 e14 hy hL) dL_law_551 ?_
  refine lv_topi (fun v15 ev15 => ?_)
  refine lv_aload_n hx hb dL_law_552 rfl (lv_at hl 0 rfl) ?_
  refine lv_iload_n hx hb dL_law_553 rfl (lv_at hl 3 rfl) ?_
  refine lv_iconst (v := 4) hx hb dL_law_554 ic_4 ?_
  refine lv_iadd hx hb dL_law_555 ?_
  refine lv_topi (fun x16 e16 => ?_)
  refine va_sld hx hb hX hbl hbA hS (sc_n4 e16 hy hL) dL_law_556 ?_
  refine lv_topi (fun v17 ev17 => ?_)
  have hA18 := th_Al hT hS
  have hle18 := hS.1
  refine va_calli (va_runV (As := [.int v11, .int v13, .int v15, .int v17]) (rest := []) ⟨hx, hb, hml, hown, hts⟩ (k_X12_touch l D cA Z τ gi9 gr9 _ (A 12) t2 v11 v13 v15 v17) (cwV 4 hts gL_law_X12_touch rfl rfl rfl hd_X12_touch__4 ⟨Nat.le_of_ble_eq_true rfl, Nat.le_of_ble_eq_true rfl⟩) ⟨th_blind, tr_12 hK hH t2, th_pre hH hK hN hZ hS hA18⟩ rfl rfl hl.1 rfl (lv_room (Nat.le_of_ble_eq_true rfl)) dL_law_557 (by refine ⟨?_, ?_⟩ <;> simp only [room_1] <;> omega)) hS (fun q _ h => hA18 q h) hA18 (fun r18 u t H locs ht hvm hw18 hB hz18 hk18 hS => ?_)
  try dsimp only at hw18 hB
  rw [ht] at hB
  have hH := hB
  obtain ⟨gi18, gr18⟩ := u
  try dsimp only at hw18 hH
  refine lv_pop hx hb dL_law_560 rfl ?_
  refine lv_goto (tgt := 1146) hx hb dL_law_561 (th_eqI rfl) ?_
  have ea_v11 : v11 = v2 := by rw [ev11, ev2, e10, e1]
  rw [ea_v11] at hw18
  have ea_v13 : v13 = v4 := by rw [ev13, ev4, e12, e3]
  rw [ea_v13] at hw18
  have ea_v15 : v15 = v6 := by rw [ev15, ev6, e14, e5]
  rw [ea_v15] at hw18
  have ea_v17 : v17 = v8 := by rw [ev17, ev8, e16, e7]
  rw [ea_v17] at hw18
  have hsm := sim_touch hJ hJ1 hv hw9 hw18
  have hv := hsm
  refine W.widen (k := cells + 2) (n := slots + 32) (by omega) (by omega) ?_
  exact kk _ _ _ _ _ _ hH hS hT t1 t2 hv hl

set_option maxHeartbeats 8000000 in
set_option maxRecDepth 100000 in
theorem law_c10 {p : Program} {l : Launch} {e : Env} {s : State} {m : MethodId} {below : List Frame} {meth : Method} {c : Code} {D : va_G} {cA : Nat → ClassId} {Z : th_Zt} {b L : Nat} {xs : Nat → Int32} {A : Nat → Nat} {cells slots : Nat} {y : Int32} {Q : State → Prop} (C0 : lw_At p s m meth c b L xs) (hK : va_K D vwCl (th_tys cA) s) (hN : th_N s) (hZ : th_Z Z (fun q : Nat => s.heap.size ≤ q) s s.heap) (hL : L ≤ 2560) (hy : 0 ≤ y.toInt ∧ y.toInt + 5 ≤ (L : Int)) (hc : cells + 2 ≤ 600000) (hs : slots + 32 ≤ 7302249) (kk : lc_K p l e s m below meth c D cA b (A 11) (A 12) y (fun (t : th_t) (g : th_i) (r : th_r) => Rel Z t g r g r A) (cells + 2) (slots + 32) Q 1146) : lc_K p l e s m below meth c D cA b (A 11) (A 12) y (fun (t : th_t) (g : th_i) (r : th_r) => Rel Z t g r g r A) cells slots Q 564 := by
  intro τ gi gr H locs ls hH hS hT t1 t2 hv hl
  obtain ⟨hx, hb, hr, hml, hown, hts, hX, hbl, hlocks, hgv⟩ := C0
  have hbA : ¬ (fun q : Nat => s.heap.size ≤ q) b := Nat.not_le.mpr hbl
  refine lv_aload_n hx hb dL_law_564 rfl (lv_at hl 1 rfl) ?_
  refine lv_aload_n hx hb dL_law_565 rfl (lv_at hl 0 rfl) ?_
  refine lv_iload_n hx hb dL_law_566 rfl (lv_at hl 3 rfl) ?_
  refine lv_iconst (v := 1) hx hb dL_law_567 ic_1 ?_
  refine lv_iadd hx hb dL_law_568 ?_
  refine lv_topi (fun x1 e1 => ?_)
  refine va_sld hx hb hX hbl hbA hS (sc_n1 e1 hy hL) dL_law_569 ?_
  refine lv_topi (fun v2 ev2 => ?_)
  refine lv_aload_n hx hb dL_law_570 rfl (lv_at hl 0 rfl) ?_
  refine lv_iload_n hx hb dL_law_571 rfl (lv_at hl 3 rfl) ?_
  refine lv_iconst (v := 2) hx hb dL_law_572 ic_2 ?_
  refine lv_iadd hx hb dL_law_573 ?_
  refine lv_topi (fun x3 e3 => ?_)
  refine va_sld hx hb hX hbl hbA hS (sc_n2 e3 hy hL) dL_law_574 ?_
  refine lv_topi (fun v4 ev4 => ?_)
  have hJ := hH.J
  have hA5 := th_Al hT hS
  have hle5 := hS.1
  refine va_calli (va_runV (As := [.int v2, .int v4]) (rest := []) ⟨hx, hb, hml, hown, hts⟩ (k_X11_moor l D cA Z τ gi gr _ (A 11) t1 v2 v4) (cwV 2 hts gL_law_X11_moor rfl rfl rfl hd_X11_moor__2 ⟨Nat.le_of_ble_eq_true rfl, Nat.le_of_ble_eq_true rfl⟩) ⟨th_blind, tr_11 hK hH t1, th_pre hH hK hN hZ hS hA5⟩ rfl rfl hl.1 rfl (lv_room (Nat.le_of_ble_eq_true rfl)) dL_law_575 (by refine ⟨?_, ?_⟩ <;> simp only [room_1] <;> omega)) hS (fun q _ h => hA5 q h) hA5 (fun r5 u t H locs ht hvm hw5 hB hz5 hk5 hS => ?_)
  try dsimp only at hw5 hB
  rw [ht] at hB
  have hH := hB
  obtain ⟨gi5, gr5⟩ := u
  try dsimp only at hw5 hH
  have hJ1 := hH.J
  refine lv_pop hx hb dL_law_578 rfl ?_
  refine lv_aload_n hx hb dL_law_579 rfl (lv_at hl 2 rfl) ?_
  refine lv_aload_n hx hb dL_law_580 rfl (lv_at hl 0 rfl) ?_
  refine lv_iload_n hx hb dL_law_581 rfl (lv_at hl 3 rfl) ?_
  refine lv_iconst (v := 1) hx hb dL_law_582 ic_1 ?_
  refine lv_iadd hx hb dL_law_583 ?_
  refine lv_topi (fun x6 e6 => ?_)
  refine va_sld hx hb hX hbl hbA hS (sc_n1 e6 hy hL) dL_law_584 ?_
  refine lv_topi (fun v7 ev7 => ?_)
  refine lv_aload_n hx hb dL_law_585 rfl (lv_at hl 0 rfl) ?_
  refine lv_iload_n hx hb dL_law_586 rfl (lv_at hl 3 rfl) ?_
  refine lv_iconst (v := 2) hx hb dL_law_587 ic_2 ?_
  refine lv_iadd hx hb dL_law_588 ?_
  refine lv_topi (fun x8 e8 => ?_)
  refine va_sld hx hb hX hbl hbA hS (sc_n2 e8 hy hL) dL_law_589 ?_
  refine lv_topi (fun v9 ev9 => ?_)
  have hA10 := th_Al hT hS
  have hle10 := hS.1
  refine va_calli (va_runV (As := [.int v7, .int v9]) (rest := []) ⟨hx, hb, hml, hown, hts⟩ (k_X12_moor l D cA Z τ gi5 gr5 _ (A 12) t2 v7 v9) (cwV 2 hts gL_law_X12_moor rfl rfl rfl hd_X12_moor__2 ⟨Nat.le_of_ble_eq_true rfl, Nat.le_of_ble_eq_true rfl⟩) ⟨th_blind, tr_12 hK hH t2, th_pre hH hK hN hZ hS hA10⟩ rfl rfl hl.1 rfl (lv_room (Nat.le_of_ble_eq_true rfl)) dL_law_590 (by refine ⟨?_, ?_⟩ <;> simp only [room_1] <;> omega)) hS (fun q _ h => hA10 q h) hA10 (fun r10 u t H locs ht hvm hw10 hB hz10 hk10 hS => ?_)
  try dsimp only at hw10 hB
  rw [ht] at hB
  have hH := hB
  obtain ⟨gi10, gr10⟩ := u
  try dsimp only at hw10 hH
  refine lv_pop hx hb dL_law_593 rfl ?_
  refine lv_goto (tgt := 1146) hx hb dL_law_594 (th_eqI rfl) ?_
  have ea_v7 : v7 = v2 := by rw [ev7, ev2, e6, e1]
  rw [ea_v7] at hw10
  have ea_v9 : v9 = v4 := by rw [ev9, ev4, e8, e3]
  rw [ea_v9] at hw10
  have hsm := sim_moor hJ hJ1 hv hw5 hw10
  have hv := hsm
  refine W.widen (k := cells + 2) (n := slots + 32) (by omega) (by omega) ?_
  exact kk _ _ _ _ _ _ hH hS hT t1 t2 hv hl

set_option maxHeartbeats 8000000 in
set_option maxRecDepth 100000 in
theorem law_c11 {p : Program} {l : Launch} {e : Env} {s : State} {m : MethodId} {below : List Frame} {meth : Method} {c : Code} {D : va_G} {cA : Nat → ClassId} {Z : th_Zt} {b L : Nat} {xs : Nat → Int32} {A : Nat → Nat} {cells slots : Nat} {y : Int32} {Q : State → Prop} (C0 : lw_At p s m meth c b L xs) (hK : va_K D vwCl (th_tys cA) s) (hN : th_N s) (hZ : th_Z Z (fun q : Nat => s.heap.size ≤ q) s s.heap) (hL : L ≤ 2560) (hy : 0 ≤ y.toInt ∧ y.toInt + 5 ≤ (L : Int)) (hc : cells + 2 ≤ 600000) (hs : slots + 32 ≤ 7302249) (kk : lc_K p l e s m below meth c D cA b (A 11) (A 12) y (fun (t : th_t) (g : th_i) (r : th_r) => Rel Z t g r g r A) (cells + 2) (slots + 32) Q 1146) : lc_K p l e s m below meth c D cA b (A 11) (A 12) y (fun (t : th_t) (g : th_i) (r : th_r) => Rel Z t g r g r A) cells slots Q 597 := by
  intro τ gi gr H locs ls hH hS hT t1 t2 hv hl
  obtain ⟨hx, hb, hr, hml, hown, hts, hX, hbl, hlocks, hgv⟩ := C0
  have hbA : ¬ (fun q : Nat => s.heap.size ≤ q) b := Nat.not_le.mpr hbl
  refine lv_aload_n hx hb dL_law_597 rfl (lv_at hl 1 rfl) ?_
  refine lv_aload_n hx hb dL_law_598 rfl (lv_at hl 0 rfl) ?_
  refine lv_iload_n hx hb dL_law_599 rfl (lv_at hl 3 rfl) ?_
  refine lv_iconst (v := 1) hx hb dL_law_600 ic_1 ?_
  refine lv_iadd hx hb dL_law_601 ?_
  refine lv_topi (fun x1 e1 => ?_)
  refine va_sld hx hb hX hbl hbA hS (sc_n1 e1 hy hL) dL_law_602 ?_
  refine lv_topi (fun v2 ev2 => ?_)
  have hJ := hH.J
  have hA3 := th_Al hT hS
  have hle3 := hS.1
  refine va_calli (va_runV (As := [.int v2]) (rest := []) ⟨hx, hb, hml, hown, hts⟩ (k_X11_leave l D cA Z τ gi gr _ (A 11) t1 v2) (cwV 1 hts gL_law_X11_leave rfl rfl rfl hd_X11_leave__1 ⟨Nat.le_of_ble_eq_true rfl, Nat.le_of_ble_eq_true rfl⟩) ⟨th_blind, tr_11 hK hH t1, th_pre hH hK hN hZ hS hA3⟩ rfl rfl hl.1 rfl (lv_room (Nat.le_of_ble_eq_true rfl)) dL_law_603 (by refine ⟨?_, ?_⟩ <;> simp only [room_1] <;> omega)) hS (fun q _ h => hA3 q h) hA3 (fun r3 u t H locs ht hvm hw3 hB hz3 hk3 hS => ?_)
  try dsimp only at hw3 hB
  rw [ht] at hB
  have hH := hB
  obtain ⟨gi3, gr3⟩ := u
  try dsimp only at hw3 hH
  have hJ1 := hH.J
  refine lv_pop hx hb dL_law_606 rfl ?_
  refine lv_aload_n hx hb dL_law_607 rfl (lv_at hl 2 rfl) ?_
  refine lv_aload_n hx hb dL_law_608 rfl (lv_at hl 0 rfl) ?_
  refine lv_iload_n hx hb dL_law_609 rfl (lv_at hl 3 rfl) ?_
  refine lv_iconst (v := 1) hx hb dL_law_610 ic_1 ?_
  refine lv_iadd hx hb dL_law_611 ?_
  refine lv_topi (fun x4 e4 => ?_)
  refine va_sld hx hb hX hbl hbA hS (sc_n1 e4 hy hL) dL_law_612 ?_
  refine lv_topi (fun v5 ev5 => ?_)
  have hA6 := th_Al hT hS
  have hle6 := hS.1
  refine va_calli (va_runV (As := [.int v5]) (rest := []) ⟨hx, hb, hml, hown, hts⟩ (k_X12_leave l D cA Z τ gi3 gr3 _ (A 12) t2 v5) (cwV 1 hts gL_law_X12_leave rfl rfl rfl hd_X12_leave__1 ⟨Nat.le_of_ble_eq_true rfl, Nat.le_of_ble_eq_true rfl⟩) ⟨th_blind, tr_12 hK hH t2, th_pre hH hK hN hZ hS hA6⟩ rfl rfl hl.1 rfl (lv_room (Nat.le_of_ble_eq_true rfl)) dL_law_613 (by refine ⟨?_, ?_⟩ <;> simp only [room_1] <;> omega)) hS (fun q _ h => hA6 q h) hA6 (fun r6 u t H locs ht hvm hw6 hB hz6 hk6 hS => ?_)
  try dsimp only at hw6 hB
  rw [ht] at hB
  have hH := hB
  obtain ⟨gi6, gr6⟩ := u
  try dsimp only at hw6 hH
  refine lv_pop hx hb dL_law_616 rfl ?_
  refine lv_goto (tgt := 1146) hx hb dL_law_617 (th_eqI rfl) ?_
  have ea_v5 : v5 = v2 := by rw [ev5, ev2, e4, e1]
  rw [ea_v5] at hw6
  have hsm := sim_leave hJ hJ1 hv hw3 hw6
  have hv := hsm
  refine W.widen (k := cells + 2) (n := slots + 32) (by omega) (by omega) ?_
  exact kk _ _ _ _ _ _ hH hS hT t1 t2 hv hl

set_option maxHeartbeats 8000000 in
set_option maxRecDepth 100000 in
theorem law_c12 {p : Program} {l : Launch} {e : Env} {s : State} {m : MethodId} {below : List Frame} {meth : Method} {c : Code} {D : va_G} {cA : Nat → ClassId} {Z : th_Zt} {b L : Nat} {xs : Nat → Int32} {A : Nat → Nat} {cells slots : Nat} {y : Int32} {Q : State → Prop} (C0 : lw_At p s m meth c b L xs) (hK : va_K D vwCl (th_tys cA) s) (hN : th_N s) (hZ : th_Z Z (fun q : Nat => s.heap.size ≤ q) s s.heap) (hL : L ≤ 2560) (hy : 0 ≤ y.toInt ∧ y.toInt + 5 ≤ (L : Int)) (hc : cells + 2 ≤ 600000) (hs : slots + 32 ≤ 7302249) (kk : lc_K p l e s m below meth c D cA b (A 11) (A 12) y (fun (t : th_t) (g : th_i) (r : th_r) => Rel Z t g r g r A) (cells + 2) (slots + 32) Q 1146) : lc_K p l e s m below meth c D cA b (A 11) (A 12) y (fun (t : th_t) (g : th_i) (r : th_r) => Rel Z t g r g r A) cells slots Q 620 := by
  intro τ gi gr H locs ls hH hS hT t1 t2 hv hl
  obtain ⟨hx, hb, hr, hml, hown, hts, hX, hbl, hlocks, hgv⟩ := C0
  have hbA : ¬ (fun q : Nat => s.heap.size ≤ q) b := Nat.not_le.mpr hbl
  refine lv_aload_n hx hb dL_law_620 rfl (lv_at hl 1 rfl) ?_
  refine lv_aload_n hx hb dL_law_621 rfl (lv_at hl 0 rfl) ?_
  refine lv_iload_n hx hb dL_law_622 rfl (lv_at hl 3 rfl) ?_
  refine lv_iconst (v := 1) hx hb dL_law_623 ic_1 ?_
  refine lv_iadd hx hb dL_law_624 ?_
  refine lv_topi (fun x1 e1 => ?_)
  refine va_sld hx hb hX hbl hbA hS (sc_n1 e1 hy hL) dL_law_625 ?_
  refine lv_topi (fun v2 ev2 => ?_)
  refine lv_aload_n hx hb dL_law_626 rfl (lv_at hl 0 rfl) ?_
  refine lv_iload_n hx hb dL_law_627 rfl (lv_at hl 3 rfl) ?_
  refine lv_iconst (v := 2) hx hb dL_law_628 ic_2 ?_
  refine lv_iadd hx hb dL_law_629 ?_
  refine lv_topi (fun x3 e3 => ?_)
  refine va_sld hx hb hX hbl hbA hS (sc_n2 e3 hy hL) dL_law_630 ?_
  refine lv_topi (fun v4 ev4 => ?_)
  have hJ := hH.J
  have hA5 := th_Al hT hS
  have hle5 := hS.1
  refine va_calli (va_runV (As := [.int v2, .int v4]) (rest := []) ⟨hx, hb, hml, hown, hts⟩ (k_X11_most l D cA Z τ gi gr _ (A 11) t1 v2 v4) (cwV 2 hts gL_law_X11_most rfl rfl rfl hd_X11_most__2 ⟨Nat.le_of_ble_eq_true rfl, Nat.le_of_ble_eq_true rfl⟩) ⟨th_blind, tr_11 hK hH t1, th_pre hH hK hN hZ hS hA5⟩ rfl rfl hl.1 rfl (lv_room (Nat.le_of_ble_eq_true rfl)) dL_law_631 (by refine ⟨?_, ?_⟩ <;> simp only [room_1] <;> omega)) hS (fun q _ h => hA5 q h) hA5 (fun r5 u t H locs ht hvm hw5 hB hz5 hk5 hS => ?_)
  try dsimp only at hw5 hB
  rw [ht] at hB
  have hH := hB
  obtain ⟨gi5, gr5⟩ := u
  try dsimp only at hw5 hH
  have hJ1 := hH.J
  refine lv_pop hx hb dL_law_634 rfl ?_
  refine lv_aload_n hx hb dL_law_635 rfl (lv_at hl 2 rfl) ?_
  refine lv_aload_n hx hb dL_law_636 rfl (lv_at hl 0 rfl) ?_
  refine lv_iload_n hx hb dL_law_637 rfl (lv_at hl 3 rfl) ?_
  refine lv_iconst (v := 1) hx hb dL_law_638 ic_1 ?_
  refine lv_iadd hx hb dL_law_639 ?_
  refine lv_topi (fun x6 e6 => ?_)
  refine va_sld hx hb hX hbl hbA hS (sc_n1 e6 hy hL) dL_law_640 ?_
  refine lv_topi (fun v7 ev7 => ?_)
  refine lv_aload_n hx hb dL_law_641 rfl (lv_at hl 0 rfl) ?_
  refine lv_iload_n hx hb dL_law_642 rfl (lv_at hl 3 rfl) ?_
  refine lv_iconst (v := 2) hx hb dL_law_643 ic_2 ?_
  refine lv_iadd hx hb dL_law_644 ?_
  refine lv_topi (fun x8 e8 => ?_)
  refine va_sld hx hb hX hbl hbA hS (sc_n2 e8 hy hL) dL_law_645 ?_
  refine lv_topi (fun v9 ev9 => ?_)
  have hA10 := th_Al hT hS
  have hle10 := hS.1
  refine va_calli (va_runV (As := [.int v7, .int v9]) (rest := []) ⟨hx, hb, hml, hown, hts⟩ (k_X12_most l D cA Z τ gi5 gr5 _ (A 12) t2 v7 v9) (cwV 2 hts gL_law_X12_most rfl rfl rfl hd_X12_most__2 ⟨Nat.le_of_ble_eq_true rfl, Nat.le_of_ble_eq_true rfl⟩) ⟨th_blind, tr_12 hK hH t2, th_pre hH hK hN hZ hS hA10⟩ rfl rfl hl.1 rfl (lv_room (Nat.le_of_ble_eq_true rfl)) dL_law_646 (by refine ⟨?_, ?_⟩ <;> simp only [room_1] <;> omega)) hS (fun q _ h => hA10 q h) hA10 (fun r10 u t H locs ht hvm hw10 hB hz10 hk10 hS => ?_)
  try dsimp only at hw10 hB
  rw [ht] at hB
  have hH := hB
  obtain ⟨gi10, gr10⟩ := u
  try dsimp only at hw10 hH
  refine lv_pop hx hb dL_law_649 rfl ?_
  refine lv_goto (tgt := 1146) hx hb dL_law_650 (th_eqI rfl) ?_
  have ea_v7 : v7 = v2 := by rw [ev7, ev2, e6, e1]
  rw [ea_v7] at hw10
  have ea_v9 : v9 = v4 := by rw [ev9, ev4, e8, e3]
  rw [ea_v9] at hw10
  have hsm := sim_most hJ hJ1 hv hw5 hw10
  have hv := hsm
  refine W.widen (k := cells + 2) (n := slots + 32) (by omega) (by omega) ?_
  exact kk _ _ _ _ _ _ hH hS hT t1 t2 hv hl

set_option maxHeartbeats 8000000 in
set_option maxRecDepth 100000 in
theorem law_c13 {p : Program} {l : Launch} {e : Env} {s : State} {m : MethodId} {below : List Frame} {meth : Method} {c : Code} {D : va_G} {cA : Nat → ClassId} {Z : th_Zt} {b L : Nat} {xs : Nat → Int32} {A : Nat → Nat} {cells slots : Nat} {y : Int32} {Q : State → Prop} (C0 : lw_At p s m meth c b L xs) (hK : va_K D vwCl (th_tys cA) s) (hN : th_N s) (hZ : th_Z Z (fun q : Nat => s.heap.size ≤ q) s s.heap) (hL : L ≤ 2560) (hy : 0 ≤ y.toInt ∧ y.toInt + 5 ≤ (L : Int)) (hc : cells + 2 ≤ 600000) (hs : slots + 32 ≤ 7302249) (kk : lc_K p l e s m below meth c D cA b (A 11) (A 12) y (fun (t : th_t) (g : th_i) (r : th_r) => Rel Z t g r g r A) (cells + 2) (slots + 32) Q 1146) : lc_K p l e s m below meth c D cA b (A 11) (A 12) y (fun (t : th_t) (g : th_i) (r : th_r) => Rel Z t g r g r A) cells slots Q 653 := by
  intro τ gi gr H locs ls hH hS hT t1 t2 hv hl
  obtain ⟨hx, hb, hr, hml, hown, hts, hX, hbl, hlocks, hgv⟩ := C0
  have hbA : ¬ (fun q : Nat => s.heap.size ≤ q) b := Nat.not_le.mpr hbl
  refine lv_aload_n hx hb dL_law_653 rfl (lv_at hl 1 rfl) ?_
  refine lv_aload_n hx hb dL_law_654 rfl (lv_at hl 0 rfl) ?_
  refine lv_iload_n hx hb dL_law_655 rfl (lv_at hl 3 rfl) ?_
  refine lv_iconst (v := 1) hx hb dL_law_656 ic_1 ?_
  refine lv_iadd hx hb dL_law_657 ?_
  refine lv_topi (fun x1 e1 => ?_)
  refine va_sld hx hb hX hbl hbA hS (sc_n1 e1 hy hL) dL_law_658 ?_
  refine lv_topi (fun v2 ev2 => ?_)
  have hJ := hH.J
  have hA3 := th_Al hT hS
  have hle3 := hS.1
  refine va_calli (va_runV (As := [.int v2]) (rest := []) ⟨hx, hb, hml, hown, hts⟩ (k_X11_wait l D cA Z τ gi gr _ (A 11) t1 v2) (cwV 1 hts gL_law_X11_wait rfl rfl rfl hd_X11_wait__1 ⟨Nat.le_of_ble_eq_true rfl, Nat.le_of_ble_eq_true rfl⟩) ⟨th_blind, tr_11 hK hH t1, th_pre hH hK hN hZ hS hA3⟩ rfl rfl hl.1 rfl (lv_room (Nat.le_of_ble_eq_true rfl)) dL_law_659 (by refine ⟨?_, ?_⟩ <;> simp only [room_1] <;> omega)) hS (fun q _ h => hA3 q h) hA3 (fun r3 u t H locs ht hvm hw3 hB hz3 hk3 hS => ?_)
  try dsimp only at hw3 hB
  rw [ht] at hB
  have hH := hB
  obtain ⟨gi3, gr3⟩ := u
  try dsimp only at hw3 hH
  have hJ1 := hH.J
  refine lv_pop hx hb dL_law_662 rfl ?_
  refine lv_aload_n hx hb dL_law_663 rfl (lv_at hl 2 rfl) ?_
  refine lv_aload_n hx hb dL_law_664 rfl (lv_at hl 0 rfl) ?_
  refine lv_iload_n hx hb dL_law_665 rfl (lv_at hl 3 rfl) ?_
  refine lv_iconst (v := 1) hx hb dL_law_666 ic_1 ?_
  refine lv_iadd hx hb dL_law_667 ?_
  refine lv_topi (fun x4 e4 => ?_)
  refine va_sld hx hb hX hbl hbA hS (sc_n1 e4 hy hL) dL_law_668 ?_
  refine lv_topi (fun v5 ev5 => ?_)
  have hA6 := th_Al hT hS
  have hle6 := hS.1
  refine va_calli (va_runV (As := [.int v5]) (rest := []) ⟨hx, hb, hml, hown, hts⟩ (k_X12_wait l D cA Z τ gi3 gr3 _ (A 12) t2 v5) (cwV 1 hts gL_law_X12_wait rfl rfl rfl hd_X12_wait__1 ⟨Nat.le_of_ble_eq_true rfl, Nat.le_of_ble_eq_true rfl⟩) ⟨th_blind, tr_12 hK hH t2, th_pre hH hK hN hZ hS hA6⟩ rfl rfl hl.1 rfl (lv_room (Nat.le_of_ble_eq_true rfl)) dL_law_669 (by refine ⟨?_, ?_⟩ <;> simp only [room_1] <;> omega)) hS (fun q _ h => hA6 q h) hA6 (fun r6 u t H locs ht hvm hw6 hB hz6 hk6 hS => ?_)
  try dsimp only at hw6 hB
  rw [ht] at hB
  have hH := hB
  obtain ⟨gi6, gr6⟩ := u
  try dsimp only at hw6 hH
  refine lv_pop hx hb dL_law_672 rfl ?_
  refine lv_goto (tgt := 1146) hx hb dL_law_673 (th_eqI rfl) ?_
  have ea_v5 : v5 = v2 := by rw [ev5, ev2, e4, e1]
  rw [ea_v5] at hw6
  have hsm := sim_wait hJ hJ1 hv hw3 hw6
  have hv := hsm
  refine W.widen (k := cells + 2) (n := slots + 32) (by omega) (by omega) ?_
  exact kk _ _ _ _ _ _ hH hS hT t1 t2 hv hl

set_option maxHeartbeats 8000000 in
set_option maxRecDepth 100000 in
theorem law_c14 {p : Program} {l : Launch} {e : Env} {s : State} {m : MethodId} {below : List Frame} {meth : Method} {c : Code} {D : va_G} {cA : Nat → ClassId} {Z : th_Zt} {b L : Nat} {xs : Nat → Int32} {A : Nat → Nat} {cells slots : Nat} {y : Int32} {Q : State → Prop} (C0 : lw_At p s m meth c b L xs) (hK : va_K D vwCl (th_tys cA) s) (hN : th_N s) (hZ : th_Z Z (fun q : Nat => s.heap.size ≤ q) s s.heap) (hL : L ≤ 2560) (hy : 0 ≤ y.toInt ∧ y.toInt + 5 ≤ (L : Int)) (hc : cells + 2 ≤ 600000) (hs : slots + 32 ≤ 7302249) (kk : lc_K p l e s m below meth c D cA b (A 11) (A 12) y (fun (t : th_t) (g : th_i) (r : th_r) => Rel Z t g r g r A) (cells + 2) (slots + 32) Q 1146) : lc_K p l e s m below meth c D cA b (A 11) (A 12) y (fun (t : th_t) (g : th_i) (r : th_r) => Rel Z t g r g r A) cells slots Q 676 := by
  intro τ gi gr H locs ls hH hS hT t1 t2 hv hl
  obtain ⟨hx, hb, hr, hml, hown, hts, hX, hbl, hlocks, hgv⟩ := C0
  have hbA : ¬ (fun q : Nat => s.heap.size ≤ q) b := Nat.not_le.mpr hbl
  refine lv_aload_n hx hb dL_law_676 rfl (lv_at hl 1 rfl) ?_
  refine lv_aload_n hx hb dL_law_677 rfl (lv_at hl 0 rfl) ?_
  refine lv_iload_n hx hb dL_law_678 rfl (lv_at hl 3 rfl) ?_
  refine lv_iconst (v := 1) hx hb dL_law_679 ic_1 ?_
  refine lv_iadd hx hb dL_law_680 ?_
  refine lv_topi (fun x1 e1 => ?_)
  refine va_sld hx hb hX hbl hbA hS (sc_n1 e1 hy hL) dL_law_681 ?_
  refine lv_topi (fun v2 ev2 => ?_)
  have hJ := hH.J
  have hA3 := th_Al hT hS
  have hle3 := hS.1
  refine va_calli (va_runV (As := [.int v2]) (rest := []) ⟨hx, hb, hml, hown, hts⟩ (k_X11_away l D cA Z τ gi gr _ (A 11) t1 v2) (cwV 1 hts gL_law_X11_away rfl rfl rfl hd_X11_away__1 ⟨Nat.le_of_ble_eq_true rfl, Nat.le_of_ble_eq_true rfl⟩) ⟨th_blind, tr_11 hK hH t1, th_pre hH hK hN hZ hS hA3⟩ rfl rfl hl.1 rfl (lv_room (Nat.le_of_ble_eq_true rfl)) dL_law_682 (by refine ⟨?_, ?_⟩ <;> simp only [room_1] <;> omega)) hS (fun q _ h => hA3 q h) hA3 (fun r3 u t H locs ht hvm hw3 hB hz3 hk3 hS => ?_)
  try dsimp only at hw3 hB
  rw [ht] at hB
  have hH := hB
  obtain ⟨gi3, gr3⟩ := u
  try dsimp only at hw3 hH
  have hJ1 := hH.J
  refine lv_pop hx hb dL_law_685 rfl ?_
  refine lv_aload_n hx hb dL_law_686 rfl (lv_at hl 2 rfl) ?_
  refine lv_aload_n hx hb dL_law_687 rfl (lv_at hl 0 rfl) ?_
  refine lv_iload_n hx hb dL_law_688 rfl (lv_at hl 3 rfl) ?_
  refine lv_iconst (v := 1) hx hb dL_law_689 ic_1 ?_
  refine lv_iadd hx hb dL_law_690 ?_
  refine lv_topi (fun x4 e4 => ?_)
  refine va_sld hx hb hX hbl hbA hS (sc_n1 e4 hy hL) dL_law_691 ?_
  refine lv_topi (fun v5 ev5 => ?_)
  have hA6 := th_Al hT hS
  have hle6 := hS.1
  refine va_calli (va_runV (As := [.int v5]) (rest := []) ⟨hx, hb, hml, hown, hts⟩ (k_X12_away l D cA Z τ gi3 gr3 _ (A 12) t2 v5) (cwV 1 hts gL_law_X12_away rfl rfl rfl hd_X12_away__1 ⟨Nat.le_of_ble_eq_true rfl, Nat.le_of_ble_eq_true rfl⟩) ⟨th_blind, tr_12 hK hH t2, th_pre hH hK hN hZ hS hA6⟩ rfl rfl hl.1 rfl (lv_room (Nat.le_of_ble_eq_true rfl)) dL_law_692 (by refine ⟨?_, ?_⟩ <;> simp only [room_1] <;> omega)) hS (fun q _ h => hA6 q h) hA6 (fun r6 u t H locs ht hvm hw6 hB hz6 hk6 hS => ?_)
  try dsimp only at hw6 hB
  rw [ht] at hB
  have hH := hB
  obtain ⟨gi6, gr6⟩ := u
  try dsimp only at hw6 hH
  refine lv_pop hx hb dL_law_695 rfl ?_
  refine lv_goto (tgt := 1146) hx hb dL_law_696 (th_eqI rfl) ?_
  have ea_v5 : v5 = v2 := by rw [ev5, ev2, e4, e1]
  rw [ea_v5] at hw6
  have hsm := sim_away hJ hJ1 hv hw3 hw6
  have hv := hsm
  refine W.widen (k := cells + 2) (n := slots + 32) (by omega) (by omega) ?_
  exact kk _ _ _ _ _ _ hH hS hT t1 t2 hv hl

set_option maxHeartbeats 8000000 in
set_option maxRecDepth 100000 in
theorem law_c15 {p : Program} {l : Launch} {e : Env} {s : State} {m : MethodId} {below : List Frame} {meth : Method} {c : Code} {D : va_G} {cA : Nat → ClassId} {Z : th_Zt} {b L : Nat} {xs : Nat → Int32} {A : Nat → Nat} {cells slots : Nat} {y : Int32} {Q : State → Prop} (C0 : lw_At p s m meth c b L xs) (hK : va_K D vwCl (th_tys cA) s) (hN : th_N s) (hZ : th_Z Z (fun q : Nat => s.heap.size ≤ q) s s.heap) (hL : L ≤ 2560) (hy : 0 ≤ y.toInt ∧ y.toInt + 5 ≤ (L : Int)) (hc : cells + 2 ≤ 600000) (hs : slots + 32 ≤ 7302249) (kk : lc_K p l e s m below meth c D cA b (A 11) (A 12) y (fun (t : th_t) (g : th_i) (r : th_r) => Rel Z t g r g r A) (cells + 2) (slots + 32) Q 1146) : lc_K p l e s m below meth c D cA b (A 11) (A 12) y (fun (t : th_t) (g : th_i) (r : th_r) => Rel Z t g r g r A) cells slots Q 699 := by
  intro τ gi gr H locs ls hH hS hT t1 t2 hv hl
  obtain ⟨hx, hb, hr, hml, hown, hts, hX, hbl, hlocks, hgv⟩ := C0
  have hbA : ¬ (fun q : Nat => s.heap.size ≤ q) b := Nat.not_le.mpr hbl
  refine lv_aload_n hx hb dL_law_699 rfl (lv_at hl 1 rfl) ?_
  refine lv_aload_n hx hb dL_law_700 rfl (lv_at hl 0 rfl) ?_
  refine lv_iload_n hx hb dL_law_701 rfl (lv_at hl 3 rfl) ?_
  refine lv_iconst (v := 1) hx hb dL_law_702 ic_1 ?_
  refine lv_iadd hx hb dL_law_703 ?_
  refine lv_topi (fun x1 e1 => ?_)
  refine va_sld hx hb hX hbl hbA hS (sc_n1 e1 hy hL) dL_law_704 ?_
  refine lv_topi (fun v2 ev2 => ?_)
  have hJ := hH.J
  have hA3 := th_Al hT hS
  have hle3 := hS.1
  refine va_calli (va_runV (As := [.int v2]) (rest := []) ⟨hx, hb, hml, hown, hts⟩ (k_X11_offer l D cA Z τ gi gr _ (A 11) t1 v2) (cwV 1 hts gL_law_X11_offer rfl rfl rfl hd_X11_offer__1 ⟨Nat.le_of_ble_eq_true rfl, Nat.le_of_ble_eq_true rfl⟩) ⟨th_blind, tr_11 hK hH t1, th_pre hH hK hN hZ hS hA3⟩ rfl rfl hl.1 rfl (lv_room (Nat.le_of_ble_eq_true rfl)) dL_law_705 (by refine ⟨?_, ?_⟩ <;> simp only [room_1] <;> omega)) hS (fun q _ h => hA3 q h) hA3 (fun r3 u t H locs ht hvm hw3 hB hz3 hk3 hS => ?_)
  try dsimp only at hw3 hB
  rw [ht] at hB
  have hH := hB
  obtain ⟨gi3, gr3⟩ := u
  try dsimp only at hw3 hH
  have hJ1 := hH.J
  refine lv_pop hx hb dL_law_708 rfl ?_
  refine lv_aload_n hx hb dL_law_709 rfl (lv_at hl 2 rfl) ?_
  refine lv_aload_n hx hb dL_law_710 rfl (lv_at hl 0 rfl) ?_
  refine lv_iload_n hx hb dL_law_711 rfl (lv_at hl 3 rfl) ?_
  refine lv_iconst (v := 1) hx hb dL_law_712 ic_1 ?_
  refine lv_iadd hx hb dL_law_713 ?_
  refine lv_topi (fun x4 e4 => ?_)
  refine va_sld hx hb hX hbl hbA hS (sc_n1 e4 hy hL) dL_law_714 ?_
  refine lv_topi (fun v5 ev5 => ?_)
  have hA6 := th_Al hT hS
  have hle6 := hS.1
  refine va_calli (va_runV (As := [.int v5]) (rest := []) ⟨hx, hb, hml, hown, hts⟩ (k_X12_offer l D cA Z τ gi3 gr3 _ (A 12) t2 v5) (cwV 1 hts gL_law_X12_offer rfl rfl rfl hd_X12_offer__1 ⟨Nat.le_of_ble_eq_true rfl, Nat.le_of_ble_eq_true rfl⟩) ⟨th_blind, tr_12 hK hH t2, th_pre hH hK hN hZ hS hA6⟩ rfl rfl hl.1 rfl (lv_room (Nat.le_of_ble_eq_true rfl)) dL_law_715 (by refine ⟨?_, ?_⟩ <;> simp only [room_1] <;> omega)) hS (fun q _ h => hA6 q h) hA6 (fun r6 u t H locs ht hvm hw6 hB hz6 hk6 hS => ?_)
  try dsimp only at hw6 hB
  rw [ht] at hB
  have hH := hB
  obtain ⟨gi6, gr6⟩ := u
  try dsimp only at hw6 hH
  refine lv_pop hx hb dL_law_718 rfl ?_
  refine lv_goto (tgt := 1146) hx hb dL_law_719 (th_eqI rfl) ?_
  have ea_v5 : v5 = v2 := by rw [ev5, ev2, e4, e1]
  rw [ea_v5] at hw6
  have hsm := sim_offer hJ hJ1 hv hw3 hw6
  have hv := hsm
  refine W.widen (k := cells + 2) (n := slots + 32) (by omega) (by omega) ?_
  exact kk _ _ _ _ _ _ hH hS hT t1 t2 hv hl

set_option maxHeartbeats 8000000 in
set_option maxRecDepth 100000 in
theorem law_c16 {p : Program} {l : Launch} {e : Env} {s : State} {m : MethodId} {below : List Frame} {meth : Method} {c : Code} {D : va_G} {cA : Nat → ClassId} {Z : th_Zt} {b L : Nat} {xs : Nat → Int32} {A : Nat → Nat} {cells slots : Nat} {y : Int32} {Q : State → Prop} (C0 : lw_At p s m meth c b L xs) (hK : va_K D vwCl (th_tys cA) s) (hN : th_N s) (hZ : th_Z Z (fun q : Nat => s.heap.size ≤ q) s s.heap) (hL : L ≤ 2560) (hy : 0 ≤ y.toInt ∧ y.toInt + 5 ≤ (L : Int)) (hc : cells + 2 ≤ 600000) (hs : slots + 32 ≤ 7302249) (kk : lc_K p l e s m below meth c D cA b (A 11) (A 12) y (fun (t : th_t) (g : th_i) (r : th_r) => Rel Z t g r g r A) (cells + 2) (slots + 32) Q 1146) : lc_K p l e s m below meth c D cA b (A 11) (A 12) y (fun (t : th_t) (g : th_i) (r : th_r) => Rel Z t g r g r A) cells slots Q 722 := by
  intro τ gi gr H locs ls hH hS hT t1 t2 hv hl
  obtain ⟨hx, hb, hr, hml, hown, hts, hX, hbl, hlocks, hgv⟩ := C0
  have hbA : ¬ (fun q : Nat => s.heap.size ≤ q) b := Nat.not_le.mpr hbl
  refine lv_aload_n hx hb dL_law_722 rfl (lv_at hl 1 rfl) ?_
  refine lv_aload_n hx hb dL_law_723 rfl (lv_at hl 0 rfl) ?_
  refine lv_iload_n hx hb dL_law_724 rfl (lv_at hl 3 rfl) ?_
  refine lv_iconst (v := 1) hx hb dL_law_725 ic_1 ?_
  refine lv_iadd hx hb dL_law_726 ?_
  refine lv_topi (fun x1 e1 => ?_)
  refine va_sld hx hb hX hbl hbA hS (sc_n1 e1 hy hL) dL_law_727 ?_
  refine lv_topi (fun v2 ev2 => ?_)
  refine lv_aload_n hx hb dL_law_728 rfl (lv_at hl 0 rfl) ?_
  refine lv_iload_n hx hb dL_law_729 rfl (lv_at hl 3 rfl) ?_
  refine lv_iconst (v := 2) hx hb dL_law_730 ic_2 ?_
  refine lv_iadd hx hb dL_law_731 ?_
  refine lv_topi (fun x3 e3 => ?_)
  refine va_sld hx hb hX hbl hbA hS (sc_n2 e3 hy hL) dL_law_732 ?_
  refine lv_topi (fun v4 ev4 => ?_)
  have hJ := hH.J
  have hA5 := th_Al hT hS
  have hle5 := hS.1
  refine va_calli (va_runV (As := [.int v2, .int v4]) (rest := []) ⟨hx, hb, hml, hown, hts⟩ (k_X11_answer l D cA Z τ gi gr _ (A 11) t1 v2 v4) (cwV 2 hts gL_law_X11_answer rfl rfl rfl hd_X11_answer__2 ⟨Nat.le_of_ble_eq_true rfl, Nat.le_of_ble_eq_true rfl⟩) ⟨th_blind, tr_11 hK hH t1, th_pre hH hK hN hZ hS hA5⟩ rfl rfl hl.1 rfl (lv_room (Nat.le_of_ble_eq_true rfl)) dL_law_733 (by refine ⟨?_, ?_⟩ <;> simp only [room_1] <;> omega)) hS (fun q _ h => hA5 q h) hA5 (fun r5 u t H locs ht hvm hw5 hB hz5 hk5 hS => ?_)
  try dsimp only at hw5 hB
  rw [ht] at hB
  have hH := hB
  obtain ⟨gi5, gr5⟩ := u
  try dsimp only at hw5 hH
  have hJ1 := hH.J
  refine lv_pop hx hb dL_law_736 rfl ?_
  refine lv_aload_n hx hb dL_law_737 rfl (lv_at hl 2 rfl) ?_
  refine lv_aload_n hx hb dL_law_738 rfl (lv_at hl 0 rfl) ?_
  refine lv_iload_n hx hb dL_law_739 rfl (lv_at hl 3 rfl) ?_
  refine lv_iconst (v := 1) hx hb dL_law_740 ic_1 ?_
  refine lv_iadd hx hb dL_law_741 ?_
  refine lv_topi (fun x6 e6 => ?_)
  refine va_sld hx hb hX hbl hbA hS (sc_n1 e6 hy hL) dL_law_742 ?_
  refine lv_topi (fun v7 ev7 => ?_)
  refine lv_aload_n hx hb dL_law_743 rfl (lv_at hl 0 rfl) ?_
  refine lv_iload_n hx hb dL_law_744 rfl (lv_at hl 3 rfl) ?_
  refine lv_iconst (v := 2) hx hb dL_law_745 ic_2 ?_
  refine lv_iadd hx hb dL_law_746 ?_
  refine lv_topi (fun x8 e8 => ?_)
  refine va_sld hx hb hX hbl hbA hS (sc_n2 e8 hy hL) dL_law_747 ?_
  refine lv_topi (fun v9 ev9 => ?_)
  have hA10 := th_Al hT hS
  have hle10 := hS.1
  refine va_calli (va_runV (As := [.int v7, .int v9]) (rest := []) ⟨hx, hb, hml, hown, hts⟩ (k_X12_answer l D cA Z τ gi5 gr5 _ (A 12) t2 v7 v9) (cwV 2 hts gL_law_X12_answer rfl rfl rfl hd_X12_answer__2 ⟨Nat.le_of_ble_eq_true rfl, Nat.le_of_ble_eq_true rfl⟩) ⟨th_blind, tr_12 hK hH t2, th_pre hH hK hN hZ hS hA10⟩ rfl rfl hl.1 rfl (lv_room (Nat.le_of_ble_eq_true rfl)) dL_law_748 (by refine ⟨?_, ?_⟩ <;> simp only [room_1] <;> omega)) hS (fun q _ h => hA10 q h) hA10 (fun r10 u t H locs ht hvm hw10 hB hz10 hk10 hS => ?_)
  try dsimp only at hw10 hB
  rw [ht] at hB
  have hH := hB
  obtain ⟨gi10, gr10⟩ := u
  try dsimp only at hw10 hH
  refine lv_pop hx hb dL_law_751 rfl ?_
  refine lv_goto (tgt := 1146) hx hb dL_law_752 (th_eqI rfl) ?_
  have ea_v7 : v7 = v2 := by rw [ev7, ev2, e6, e1]
  rw [ea_v7] at hw10
  have ea_v9 : v9 = v4 := by rw [ev9, ev4, e8, e3]
  rw [ea_v9] at hw10
  have hsm := sim_answer hJ hJ1 hv hw5 hw10
  have hv := hsm
  refine W.widen (k := cells + 2) (n := slots + 32) (by omega) (by omega) ?_
  exact kk _ _ _ _ _ _ hH hS hT t1 t2 hv hl
end
