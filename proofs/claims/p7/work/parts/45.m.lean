section
/-! ===== roles: A i is the cell that plays the part i (i is its code, but 13, 38, 39: the storm's berths and its rows) ===== -/
def th_J (τ : th_t) (gi : th_i) (gr : th_r) : Prop := ∀ a, τ a ≠ 0 → th_I (τ a) τ (gi a) (gr a)
theorem th_H.J {D : va_G} {cA : Nat → ClassId} {τ : th_t} {gi : th_i} {gr : th_r} {H : Heap} (h : th_H D cA τ gi gr H) : th_J τ gi gr := fun a ha => (h a ha).2
theorem th_J.at {τ : th_t} {gi : th_i} {gr : th_r} {a c : Nat} (h : th_J τ gi gr) (ht : τ a = c) (hc : c ≠ 0) : th_I c τ (gi a) (gr a) := by
  subst ht
  exact h a hc
def ro_c (i : Nat) : Nat := if i = 13 then 2 else if i = 38 then 24 else if i = 39 then 25 else i
def rc_L : List Nat := [11, 1, 10, 7, 6, 5, 2, 13, 20, 21, 22, 23, 24, 25, 28, 29, 30, 31, 32, 33, 34, 35, 36, 37, 38, 39]
def rc_E : List (Nat × Nat × Nat) := [(11, 0, 1), (11, 1, 10), (11, 2, 7), (11, 3, 6), (11, 4, 5), (11, 5, 36), (11, 6, 37), (1, 0, 20), (1, 1, 21), (1, 2, 22), (1, 3, 23), (1, 4, 2), (10, 0, 1), (10, 1, 35), (7, 0, 1), (7, 1, 30), (7, 3, 31), (7, 4, 32), (7, 5, 33), (7, 6, 34), (6, 0, 1), (6, 1, 28), (6, 2, 29), (5, 0, 1), (5, 1, 13), (2, 0, 24), (2, 1, 25), (13, 0, 38), (13, 1, 39)]
def rm_E : List (Nat × Nat) := [(1, 40), (2, 41), (3, 42), (4, 43), (5, 44), (6, 45), (7, 46), (9, 47), (10, 48), (11, 49), (12, 50), (13, 51), (15, 52), (16, 53), (18, 54), (19, 55), (21, 56), (22, 57), (25, 58), (26, 59), (28, 60), (29, 61), (30, 62), (31, 63), (32, 64), (34, 65), (35, 66), (36, 67), (37, 68)]
def ro_C (τ : th_t) (gr : th_r) (A : Nat → Nat) : Prop := (∀ i ∈ rc_L, τ (A i) = ro_c i) ∧ (∀ e ∈ rc_E, gr (A e.1) e.2.1 = some (A e.2.2)) ∧ A 13 ≠ A 2 ∧ A 38 ≠ A 24 ∧ A 39 ≠ A 25
def ro_M (τ : th_t) (rm : th_r) (A : Nat → Nat) : Prop := τ (A 12) = 12 ∧ ∀ e ∈ rm_E, τ (A e.2) = e.2 ∧ rm (A 12) e.1 = some (A e.2)
section RO
variable {τ τ' : th_t} {gi gi' gm gm' : th_i} {gr gr' rm rm' : th_r} {A : Nat → Nat} {M : List Nat}
theorem ro_C.t (h : ro_C τ gr A) (i c : Nat) (hi : i ∈ rc_L) (hc : ro_c i = c) : τ (A i) = c := by rw [h.1 i hi, hc]
theorem ro_C.e (h : ro_C τ gr A) (i k j : Nat) (he : (i, k, j) ∈ rc_E) : gr (A i) k = some (A j) := h.2.1 (i, k, j) he
theorem ro_C.g (h : ro_C τ gr A) (i k j : Nat) (he : (i, k, j) ∈ rc_E) : (gr (A i) k).getD 0 = A j := by rw [h.e i k j he]; rfl
theorem ro_M.t (h : ro_M τ rm A) (k c : Nat) (hi : (k, c) ∈ rm_E) : τ (A c) = c := (h.2 (k, c) hi).1
theorem ro_M.e (h : ro_M τ rm A) (k c : Nat) (hi : (k, c) ∈ rm_E) : rm (A 12) k = some (A c) := (h.2 (k, c) hi).2
theorem ro_M.g (h : ro_M τ rm A) (k c : Nat) (hi : (k, c) ∈ rm_E) : (rm (A 12) k).getD 0 = A c := by rw [h.e k c hi]; rfl
theorem ro_C.mod (h : ro_C τ gr A) (hM : th_Mod M τ gi gr gi' gr') (hk : ∀ e ∈ rc_E, e.1 ∈ rc_L ∧ ro_c e.1 ≠ 0 ∧ th_key (ro_c e.1) e.2.1 ∉ M) : ro_C τ gr' A := by
  refine ⟨h.1, fun e he => ?_, h.2.2⟩
  obtain ⟨k1, k2, k3⟩ := hk e he
  have t := h.1 e.1 k1
  rw [(hM (A e.1) e.2.1 (by rw [t]; exact k2) (by rw [t]; exact k3)).2]
  exact h.2.1 e he
theorem ro_M.mod (h : ro_M τ rm A) (hM : th_Mod M τ gm rm gm' rm') (hk : ∀ e ∈ rm_E, th_key 12 e.1 ∉ M) : ro_M τ rm' A := by
  refine ⟨h.1, fun e he => ⟨(h.2 e he).1, ?_⟩⟩
  rw [(hM (A 12) e.1 (by rw [h.1]; decide) (by rw [h.1]; exact hk e he)).2]
  exact (h.2 e he).2
theorem ro_C.ext (h : ro_C τ gr A) (hx : ∀ b, τ b ≠ 0 → τ' b = τ b) (hz : ∀ i ∈ rc_L, ro_c i ≠ 0) : ro_C τ' gr A := by
  refine ⟨fun i hi => ?_, h.2⟩
  rw [hx _ (by rw [h.1 i hi]; exact hz i hi)]
  exact h.1 i hi
theorem ro_M.ext (h : ro_M τ rm A) (hx : ∀ b, τ b ≠ 0 → τ' b = τ b) (hz : ∀ e ∈ rm_E, e.2 ≠ 0) : ro_M τ' rm A := by
  refine ⟨?_, fun e he => ⟨?_, (h.2 e he).2⟩⟩
  · rw [hx _ (by rw [h.1]; decide)]; exact h.1
  · rw [hx _ (by rw [(h.2 e he).1]; exact hz e he)]; exact (h.2 e he).1
theorem rc_ok : ∀ i ∈ rc_L, ro_c i ≠ 0 := by decide
theorem rm_ok : ∀ e ∈ rm_E, e.2 ≠ 0 := by decide
theorem rc_okE (hk : rc_E.all (fun e => !(M.contains (th_key (ro_c e.1) e.2.1))) = true) : ∀ e ∈ rc_E, e.1 ∈ rc_L ∧ ro_c e.1 ≠ 0 ∧ th_key (ro_c e.1) e.2.1 ∉ M := by
  intro e he
  have h1 : ∀ e ∈ rc_E, e.1 ∈ rc_L := by decide
  refine ⟨h1 e he, rc_ok _ (h1 e he), fun hq => ?_⟩
  have h2 := List.all_eq_true.mp hk e he
  simp at h2
  exact h2 hq
theorem rm_okE (hk : rm_E.all (fun e => !(M.contains (th_key 12 e.1))) = true) : ∀ e ∈ rm_E, th_key 12 e.1 ∉ M := by
  intro e he hq
  have h2 := List.all_eq_true.mp hk e he
  simp at h2
  exact h2 hq
/-- a cell that isn't among the written ones -/
theorem ro_k (hM : th_Mod M τ gi gr gi' gr') {a c : Nat} (k : Nat) (ht : τ a = c) (hc : c ≠ 0) (hk : th_key c k ∉ M) : gi' a k = gi a k ∧ gr' a k = gr a k := hM a k (by rw [ht]; exact hc) (by rw [ht]; exact hk)
theorem ro_ka (hM : th_Mod M τ gi gr gi' gr') {a c : Nat} (ht : τ a = c) (hc : 20 ≤ c) (hk : c * 100 ∉ M) : gi' a = gi a ∧ gr' a = gr a := by
  have h : ∀ j, gi' a j = gi a j ∧ gr' a j = gr a j := fun j => ro_k hM j ht (by omega) (by unfold th_key; rw [if_neg (by omega)]; exact hk)
  exact ⟨funext fun j => (h j).1, funext fun j => (h j).2⟩
end RO
end
section
/-! ===== components that are one number each, and what acts do to them ===== -/
section CQ
variable {τ τ1 : th_t} {Z : th_Zt} {gi gi1 gm gm2 : th_i} {gr gr1 rm rm2 : th_r} {A : Nat → Nat} {M1 M2 : List Nat}
def c_eq (r s k : Nat) (gi gm : th_i) (A : Nat → Nat) : Prop := gi (A r) s = gm (A 12) k
theorem c_eq.fr {r s k c : Nat} (hr : r ∈ rc_L) (hc : ro_c r = c) (hC : ro_C τ gr A) (hQ : ro_M τ rm A) (h1 : th_Mod M1 τ gi gr gi1 gr1) (h2 : th_Mod M2 τ gm rm gm2 rm2) (k0 : c ≠ 0) (k1 : th_key c s ∉ M1) (k2 : th_key 12 k ∉ M2) (h : c_eq r s k gi gm A) : c_eq r s k gi1 gm2 A := by
  unfold c_eq
  rw [(ro_k h1 s (hC.t r c hr hc) k0 k1).1, (ro_k h2 k hQ.1 (by decide) k2).1]
  exact h
theorem ro_ne {τ : th_t} {a b c d : Nat} (ha : τ a = c) (hb : τ b = d) (h : c ≠ d) : a ≠ b := fun q => h (by rw [← ha, ← hb, q])
theorem up_n {α : Type} {g : Nat → α} {a b : Nat} {f : α} (h : b ≠ a) : va_up g a f b = g b := va_up_ne g f h
theorem up_s {α : Type} {g : Nat → α} {a : Nat} {f : α} : va_up g a f a = f := va_up_self g a f
theorem ud_s {f : Nat → Int32} {k : Nat} {x : Int32} : upd f k x k = x := if_pos rfl
theorem ud_n {f : Nat → Int32} {k j : Nat} {x : Int32} (h : j ≠ k) : upd f k x j = f j := if_neg h
def W0 (v a b : Int32) : Int32 := if v < a then 0 else if b < v then 0 else 1
theorem w0_c {v a b : Int32} : F_X11_within τ Z gi gr v a b = W0 v a b := rfl
theorem w0_m {v a b : Int32} : F_X12_within τ Z gm rm v a b = W0 v a b := rfl
theorem w0_iff {v a b : Int32} : W0 v a b = 0 ↔ ¬ (a ≤ v ∧ v ≤ b) := by
  unfold W0
  by_cases h1 : v < a
  · rw [if_pos h1]
    exact ⟨fun _ q => Int32.not_lt.mpr q.1 h1, fun _ => rfl⟩
  · rw [if_neg h1]
    by_cases h2 : b < v
    · rw [if_pos h2]
      exact ⟨fun _ q => Int32.not_lt.mpr q.2 h2, fun _ => rfl⟩
    · rw [if_neg h2]
      exact ⟨fun q => absurd q (by decide), fun q => absurd ⟨Int32.not_lt.mp h1, Int32.not_lt.mp h2⟩ q⟩
/-- findings -/
theorem fi_c (hC : ro_C τ gr A) {k : Int32} (hk : ¬ W0 k 1 5 = 0) : F_X11_finding τ Z gi gr (A 11) k = ((-1000000) - k, va_up gi (A 36) (upd (gi (A 36)) k.toNatClampNeg (gi (A 36) k.toNatClampNeg + 1))) := by
  unfold F_X11_finding
  dsimp only
  rw [w0_c, if_neg hk, hC.g 11 5 36 (by decide)]
theorem fi_m (hQ : ro_M τ rm A) {w : Int32} : F_X12_finding τ Z gm rm (A 12) w = (w, va_up gm (A 59) (upd (gm (A 59)) ((-1000000) - w).toNatClampNeg (gm (A 59) ((-1000000) - w).toNatClampNeg + 1))) := by
  unfold F_X12_finding
  dsimp only
  rw [hQ.g 26 59 (by decide)]
theorem pr2 {α β : Type} {a a' : α} {b b' : β} (h : (a, b) = (a', b')) : a = a' ∧ b = b' := by
  cases h
  exact ⟨rfl, rfl⟩
theorem s_winds (hC : ro_C τ gr A) (hQ : ro_M τ rm A) (h : c_eq 1 7 14 gi gm A) {v r1 r2 : Int32} (e1 : F_X11_winds τ Z gi gr (A 11) v = (r1, gi1)) (e2 : F_X12_winds τ Z gm rm (A 12) v = (r2, gm2)) : r1 = r2 ∧ c_eq 1 7 14 gi1 gm2 A := by
  unfold F_X11_winds at e1
  unfold F_X12_winds at e2
  dsimp only at e1 e2
  rw [w0_c, hC.g 11 0 1 (by decide)] at e1
  rw [w0_m] at e2
  by_cases hc : W0 v 1 255 = 0
  · rw [if_pos hc, fi_c hC (by decide)] at e1
    rw [if_pos hc, fi_m hQ] at e2
    dsimp only at e1 e2
    obtain ⟨a1, a2⟩ := pr2 e1
    obtain ⟨b1, b2⟩ := pr2 e2
    subst a1 a2 b1 b2
    refine ⟨by decide, ?_⟩
    unfold c_eq
    rw [up_n (ro_ne (hC.t 1 1 (by decide) rfl) (hC.t 36 36 (by decide) rfl) (by decide)), up_n (ro_ne hQ.1 (hQ.t 26 59 (by decide)) (by decide))]
    exact h
  · rw [if_neg hc] at e1 e2
    obtain ⟨a1, a2⟩ := pr2 e1
    obtain ⟨b1, b2⟩ := pr2 e2
    subst a1 a2 b1 b2
    refine ⟨h, ?_⟩
    unfold c_eq
    rw [up_s, ud_s, up_s, ud_s]
theorem s_tell (hJ : th_J τ gi gr) (hC : ro_C τ gr A) (hQ : ro_M τ rm A) (h : c_eq 11 7 24 gi gm A) {v r1 r2 : Int32} (e1 : F_X11_tell τ Z gi gr (A 11) v = (r1, gi1)) (e2 : F_X12_tell τ Z gm rm (A 12) v = (r2, gm2)) : r1 = r2 ∧ c_eq 11 7 24 gi1 gm2 A := by
  have hr : rg 0 24 (gi (A 11) 7) := (hJ.at (hC.t 11 11 (by decide) rfl) (by decide)).2.2.2.2.2.2.2.1
  unfold c_eq at h
  unfold F_X11_tell at e1
  unfold F_X12_tell at e2
  dsimp only at e1 e2
  rw [hC.g 11 6 37 (by decide)] at e1
  rw [hQ.g 25 58 (by decide), ← h] at e2
  by_cases hc : gi (A 11) 7 < 24
  · have hn : ¬ gi (A 11) 7 = 24 := fun q => by
      rw [q] at hc
      exact absurd hc (by decide)
    rw [if_pos hc] at e1
    rw [if_neg hn] at e2
    obtain ⟨a1, a2⟩ := pr2 e1
    obtain ⟨b1, b2⟩ := pr2 e2
    subst a1 a2 b1 b2
    refine ⟨rfl, ?_⟩
    unfold c_eq
    rw [up_s, ud_s, up_s, ud_s]
  · have hn : gi (A 11) 7 = 24 := by
      have h1 := Int32.not_lt.mp hc
      exact Int32.toInt_inj.mp (by
        have h2 := Int32.le_iff_toInt_le.mp h1
        have h3 : (24 : Int32).toInt = 24 := by decide
        have h4 := hr.2
        omega)
    rw [if_neg hc, fi_c hC (by decide)] at e1
    rw [if_pos hn, fi_m hQ] at e2
    dsimp only at e1 e2
    obtain ⟨a1, a2⟩ := pr2 e1
    obtain ⟨b1, b2⟩ := pr2 e2
    subst a1 a2 b1 b2
    refine ⟨by decide, ?_⟩
    unfold c_eq
    rw [up_n (ro_ne (hC.t 11 11 (by decide) rfl) (hC.t 36 36 (by decide) rfl) (by decide)), up_n (ro_ne hQ.1 (hQ.t 26 59 (by decide)) (by decide))]
    exact h
/-- a BUOY comes: how many there are -/
theorem ab_32 {h0 q5 : Nat} {p1 p2 p3 p4 rO x1 : Int32} {tO τ6 : th_t} {gO : th_i} {qO : th_r} : ∀ (n : Nat) (g : th_i) (r : th_r) (y : Int32), f_X0_addBuoy_32 τ Z gi gr h0 p1 p2 p3 p4 rO tO gO qO x1 q5 τ6 n g r y → rO = x1 ∧ gO h0 5 = x1 + 1 := by
  intro n
  induction n with
  | zero => intro g r y h; exact absurd h (by unfold f_X0_addBuoy_32; exact fun q => q)
  | succ n ih =>
    intro g r y h
    unfold f_X0_addBuoy_32 at h
    dsimp only at h
    by_cases hc : (24 : Int32) ≤ y
    · rw [if_pos hc] at h
      obtain ⟨g15, hg, k1, -, k3, -⟩ := h
      refine ⟨k1, ?_⟩
      rw [k3, hg, up_s, ud_s]
    · rw [if_neg hc] at h
      exact ih _ _ _ h
theorem i_lt {x : Int32} {n : Int} (k : Int32) (hk : k.toInt = n) (hr : rg 0 n x) (h : ¬ x < k) : x = k := by
  have h1 := Int32.le_iff_toInt_le.mp (Int32.not_lt.mp h)
  have h2 := hr.2
  exact Int32.toInt_inj.mp (by omega)
theorem s_fin (hC : ro_C τ gr A) (hQ : ro_M τ1 rm A) {r s k : Nat} (hr : r ∈ rc_L) (hr2 : ro_c r ≠ 36) {w1 w2 r1 r2 : Int32} {tO : th_t} (hw : ¬ W0 w1 1 5 = 0) (hww : (-1000000) - w1 = w2) (h : c_eq r s k gi gm A) (e1 : r1 = (F_X11_finding τ Z gi gr (A 11) w1).1 ∧ tO = τ ∧ gi1 = (F_X11_finding τ Z gi gr (A 11) w1).2 ∧ gr1 = gr) (e2 : ((F_X12_finding τ1 Z gm rm (A 12) w2).1, (F_X12_finding τ1 Z gm rm (A 12) w2).2) = (r2, gm2)) : r1 = r2 ∧ c_eq r s k gi1 gm2 A := by
  rw [fi_c hC hw] at e1
  rw [fi_m hQ] at e2
  dsimp only at e1 e2
  obtain ⟨a1, -, a2, -⟩ := e1
  obtain ⟨b1, b2⟩ := pr2 e2
  subst a1 a2 b1 b2
  refine ⟨hww, ?_⟩
  unfold c_eq
  rw [up_n (ro_ne (hC.t r _ hr rfl) (hC.t 36 36 (by decide) rfl) hr2), up_n (ro_ne hQ.1 (hQ.t 26 59 (by decide)) (by decide))]
  exact h
theorem s_buoy (hJ : th_J τ gi gr) (hC : ro_C τ gr A) (hQ : ro_M τ1 rm A) (h : c_eq 1 5 0 gi gm A) {v1 v2 v3 v4 r1 r2 : Int32} (e1 : M_X11_buoy τ Z gi gr (A 11) v1 v2 v3 v4 r1 τ1 gi1 gr1) (e2 : F_X12_buoy τ1 Z gm rm (A 12) v1 v2 v3 v4 = (r2, gm2)) : r1 = r2 ∧ c_eq 1 5 0 gi1 gm2 A := by
  have hr : rg 0 12 (gi (A 1) 5) := (hJ.at (hC.t 1 1 (by decide) rfl) (by decide)).2.2.2.2.2.1
  have h10 : ((1 : Int32) = 0) = False := by decide
  unfold M_X11_buoy at e1
  unfold F_X12_buoy at e2
  simp only [w0_c, w0_m, f_X11_buoy_26, f_X11_buoy_27, f_X11_buoy_58, f_X12_buoy_46, h10, if_true, if_false, hC.g 11 0 1 (by decide)] at e1 e2
  by_cases g1 : W0 v1 0 999 = 0
  · rw [if_pos g1] at e1 e2
    exact s_fin hC hQ (by decide) (by decide) (by decide) (by decide) h e1 e2
  rw [if_neg g1] at e1 e2
  by_cases g2 : W0 v2 0 999 = 0
  · rw [if_pos g2] at e1 e2
    exact s_fin hC hQ (by decide) (by decide) (by decide) (by decide) h e1 e2
  rw [if_neg g2] at e1 e2
  by_cases g3 : W0 v3 0 300 = 0
  · rw [if_pos g3] at e1 e2
    exact s_fin hC hQ (by decide) (by decide) (by decide) (by decide) h e1 e2
  rw [if_neg g3] at e1 e2
  by_cases g4 : W0 v4 10 400 = 0
  · rw [if_pos g4] at e1 e2
    exact s_fin hC hQ (by decide) (by decide) (by decide) (by decide) h e1 e2
  rw [if_neg g4] at e1 e2
  have h' : gm (A 12) 0 = gi (A 1) 5 := h.symm
  rw [h'] at e2
  by_cases g5 : gi (A 1) 5 < 12
  · have hn : ¬ gi (A 1) 5 = 12 := fun q => by
      rw [q] at g5
      exact absurd g5 (by decide)
    rw [if_pos g5] at e1
    rw [if_neg hn] at e2
    obtain ⟨x, t, g, q, hm, rfl, -, rfl, -⟩ := e1
    unfold M_X0_addBuoy at hm
    dsimp only at hm
    rw [if_neg (Int32.not_le.mpr g5)] at hm
    obtain ⟨q5, -, τ6, gi6, gr6, -, hm⟩ := hm
    obtain ⟨k1, k2⟩ := ab_32 _ _ _ _ hm
    obtain ⟨b1, b2⟩ := pr2 e2
    refine ⟨?_, ?_⟩
    · rw [k1, ← b1]
      exact (Int32.add_sub_cancel _ _).symm
    · unfold c_eq
      rw [k2, ← b2, up_s, ud_s]
  · have hn := i_lt 12 (by decide) hr g5
    rw [if_neg g5] at e1
    rw [if_pos hn] at e2
    exact s_fin hC hQ (by decide) (by decide) (by decide) (by decide) h e1 e2
theorem s_boat (hJ : th_J τ gi gr) (hC : ro_C τ gr A) (hQ : ro_M τ1 rm A) (h : c_eq 1 6 8 gi gm A) {v1 v2 v3 r1 r2 : Int32} (e1 : M_X11_boat τ Z gi gr (A 11) v1 v2 v3 r1 τ1 gi1 gr1) (e2 : F_X12_boat τ1 Z gm rm (A 12) v1 v2 v3 = (r2, gm2)) : r1 = r2 ∧ c_eq 1 6 8 gi1 gm2 A := by
  have hr : rg 0 16 (gi (A 1) 6) := (hJ.at (hC.t 1 1 (by decide) rfl) (by decide)).2.2.2.2.2.2
  have h10 : ((1 : Int32) = 0) = False := by decide
  unfold M_X11_boat at e1
  unfold F_X12_boat at e2
  simp only [F_X11_isKind, w0_c, w0_m, f_X11_boat_29, f_X12_boat_31, h10, if_true, if_false, hC.g 11 0 1 (by decide)] at e1 e2
  by_cases g1 : W0 v1 0 2 = 0
  · rw [if_pos g1] at e1 e2
    exact s_fin hC hQ (by decide) (by decide) (by decide) (by decide) h e1 e2
  rw [if_neg g1] at e1 e2
  by_cases g2 : W0 v2 10 300 = 0
  · rw [if_pos g2] at e1 e2
    exact s_fin hC hQ (by decide) (by decide) (by decide) (by decide) h e1 e2
  rw [if_neg g2] at e1 e2
  by_cases g3 : W0 v3 0 100 = 0
  · rw [if_pos g3] at e1 e2
    exact s_fin hC hQ (by decide) (by decide) (by decide) (by decide) h e1 e2
  rw [if_neg g3] at e1 e2
  have h' : gm (A 12) 8 = gi (A 1) 6 := h.symm
  rw [h'] at e2
  by_cases g5 : gi (A 1) 6 < 16
  · have hn : ¬ gi (A 1) 6 = 16 := fun q => by
      rw [q] at g5
      exact absurd g5 (by decide)
    rw [if_pos g5] at e1
    rw [if_neg hn] at e2
    obtain ⟨x, t, g, q, hm, rfl, -, rfl, -⟩ := e1
    unfold M_X0_addBoat at hm
    dsimp only at hm
    rw [if_neg (Int32.not_le.mpr g5)] at hm
    obtain ⟨q6, τ6, gi6, gr6, -, g14, hg, k1, -, k2, -⟩ := hm
    obtain ⟨b1, b2⟩ := pr2 e2
    refine ⟨?_, ?_⟩
    · rw [k1, ← b1]
      exact (Int32.add_sub_cancel _ _).symm
    · unfold c_eq
      rw [k2, hg, ← b2, up_s, ud_s, up_s, ud_s]
  · have hn := i_lt 16 (by decide) hr g5
    rw [if_neg g5] at e1
    rw [if_pos hn] at e2
    exact s_fin hC hQ (by decide) (by decide) (by decide) (by decide) h e1 e2
end CQ
end
section
/-! ===== tides ===== -/
section TD
variable {τ : th_t} {Z : th_Zt} {gi gi1 gm gm2 : th_i} {gr gr1 rm rm2 : th_r} {A : Nat → Nat} {M1 M2 : List Nat}
def c_tid (gi gm : th_i) (A : Nat → Nat) : Prop := ∀ j, j < 24 → gi (A 22) j = gm (A 51) j
theorem c_tid.fr (hC : ro_C τ gr A) (hQ : ro_M τ rm A) (h1 : th_Mod M1 τ gi gr gi1 gr1) (h2 : th_Mod M2 τ gm rm gm2 rm2) (k1 : 22 * 100 ∉ M1) (k2 : 51 * 100 ∉ M2) (h : c_tid gi gm A) : c_tid gi1 gm2 A := by
  intro j hj
  rw [(ro_ka h1 (hC.t 22 22 (by decide) rfl) (by decide) k1).1, (ro_ka h2 (hQ.t 13 51 (by decide)) (by decide) k2).1]
  exact h j hj
theorem J_20 (hJ : th_J τ gi gr) (hC : ro_C τ gr A) {j : Nat} (hj : j < 12) {q : Nat} (h : gr (A 20) j = some q) : τ q = 3 := (hJ.at (hC.t 20 20 (by decide) rfl) (by decide)) j hj q h
theorem J_3 (hJ : th_J τ gi gr) {q : Nat} (h : τ q = 3) : ∃ w, gr q 5 = some w ∧ τ w = 26 := hJ.at h (by decide)
theorem w0_no {v a b : Int32} (h : ¬ W0 v a b = 0) : a ≤ v ∧ v ≤ b := Decidable.not_not.mp (fun q => h (w0_iff.mpr q))
theorem cl_lt {x : Int32} {n : Nat} (h1 : 0 ≤ x.toInt) (h2 : x.toInt < (n : Int)) : x.toNatClampNeg < n := by
  show x.toInt.toNat < n
  omega
theorem ba_some (hC : ro_C τ gr A) {g : th_i} {y : Int32} {q : Nat} (h : F_X0_buoyAt τ Z g gr (A 1) y = some q) : y.toNatClampNeg < 12 ∧ gr (A 20) y.toNatClampNeg = some q := by
  unfold F_X0_buoyAt at h
  dsimp only at h
  rw [w0_c, hC.g 1 0 20 (by decide)] at h
  by_cases h1 : W0 y 0 (g (A 1) 5 - 1) = 0
  · rw [if_pos h1] at h
    cases h
  · rw [if_neg h1] at h
    by_cases h2 : (12 : Int32) ≤ y
    · rw [if_pos h2] at h
      cases h
    · rw [if_neg h2] at h
      refine ⟨cl_lt ?_ ?_, h⟩
      · have h3 := Int32.le_iff_toInt_le.mp (w0_no h1).1
        exact h3
      · have h3 := Int32.lt_iff_toInt_lt.mp (Int32.not_le.mp h2)
        have h4 : (12 : Int32).toInt = 12 := by decide
        omega
theorem fd_o {g : th_i} {q w : Nat} {p1 p2 : Int32} (hw : gr q 5 = some w) : ∀ a, a ≠ w → F_X3_flood τ Z g gr q p1 p2 a = g a := by
  intro a ha
  unfold F_X3_flood F_X11_isHour
  dsimp only
  rw [w0_c, hw]
  by_cases h1 : W0 p1 0 23 = 0
  · rw [if_pos h1]
  · rw [if_neg h1]
    by_cases h2 : g q 3 + p2 < g q 4
    · rw [if_pos h2]
      exact va_up_ne _ _ ha
    · rw [if_neg h2]
      exact va_up_ne _ _ ha
theorem st_62 (hC : ro_C τ gr A) {p1 p2 : Int32} : ∀ (n : Nat) (g : th_i) (y : Int32), f_X0_setTide_62 τ Z gi gr (A 1) p1 p2 n g y (A 22) = g (A 22) := by
  intro n
  induction n with
  | zero => intro g y; rfl
  | succ n ih =>
    intro g y
    unfold f_X0_setTide_62
    dsimp only
    by_cases hc : (24 : Int32) ≤ y
    · rw [if_pos hc]
    · rw [if_neg hc, ih, hC.g 1 3 23 (by decide), up_n (ro_ne (hC.t 22 22 (by decide) rfl) (hC.t 23 23 (by decide) rfl) (by decide)), up_n (ro_ne (hC.t 22 22 (by decide) rfl) (hC.t 1 1 (by decide) rfl) (by decide))]
theorem st_17 (hJ : th_J τ gi gr) (hC : ro_C τ gr A) {p1 p2 : Int32} : ∀ (n : Nat) (g : th_i) (y : Int32), f_X0_setTide_17 τ Z gi gr (A 1) p1 p2 n g y (A 22) = g (A 22) := by
  intro n
  induction n with
  | zero => intro g y; rfl
  | succ n ih =>
    intro g y
    unfold f_X0_setTide_17
    dsimp only
    by_cases hc : g (A 1) 5 ≤ y
    · rw [if_pos hc, st_62 hC, up_n (ro_ne (hC.t 22 22 (by decide) rfl) (hC.t 1 1 (by decide) rfl) (by decide))]
    · rw [if_neg hc]
      cases hb : F_X0_buoyAt τ Z g gr (A 1) y with
      | none =>
        show f_X0_setTide_44 τ Z gi gr (A 1) p1 p2 g y _ g (A 22) = _
        unfold f_X0_setTide_44
        exact ih _ _
      | some q =>
        obtain ⟨k1, k2⟩ := ba_some hC hb
        obtain ⟨w, hw, tw⟩ := J_3 hJ (J_20 hJ hC k1 k2)
        show f_X0_setTide_44 τ Z gi gr (A 1) p1 p2 g y _ (F_X3_flood τ Z g gr q p1 p2) (A 22) = _
        unfold f_X0_setTide_44
        exact (ih _ _).trans (fd_o hw _ (ro_ne (hC.t 22 22 (by decide) rfl) tw (by decide)))
theorem st_22 (hJ : th_J τ gi gr) (hC : ro_C τ gr A) {p1 p2 : Int32} (h : ¬ W0 p1 0 23 = 0) : F_X0_setTide τ Z gi gr (A 1) p1 p2 (A 22) = upd (gi (A 22)) p1.toNatClampNeg p2 := by
  unfold F_X0_setTide F_X11_isHour
  dsimp only
  rw [w0_c, if_neg h, st_17 hJ hC, hC.g 1 2 22 (by decide), up_s]
theorem s_fip (hC : ro_C τ gr A) (hQ : ro_M τ rm A) {w1 w2 r1 r2 : Int32} (hw : ¬ W0 w1 1 5 = 0) (hww : (-1000000) - w1 = w2) (e1 : ((F_X11_finding τ Z gi gr (A 11) w1).1, (F_X11_finding τ Z gi gr (A 11) w1).2) = (r1, gi1)) (e2 : ((F_X12_finding τ Z gm rm (A 12) w2).1, (F_X12_finding τ Z gm rm (A 12) w2).2) = (r2, gm2)) : r1 = r2 ∧ (∀ a, a ≠ A 36 → gi1 a = gi a) ∧ (∀ a, a ≠ A 59 → gm2 a = gm a) := by
  rw [fi_c hC hw] at e1
  rw [fi_m hQ] at e2
  dsimp only at e1 e2
  obtain ⟨a1, a2⟩ := pr2 e1
  obtain ⟨b1, b2⟩ := pr2 e2
  subst a1 a2 b1 b2
  exact ⟨hww, fun a ha => va_up_ne _ _ ha, fun a ha => va_up_ne _ _ ha⟩
theorem s_tide (hJ : th_J τ gi gr) (hC : ro_C τ gr A) (hQ : ro_M τ rm A) (h : c_tid gi gm A) {v w r1 r2 : Int32} (e1 : F_X11_tide τ Z gi gr (A 11) v w = (r1, gi1)) (e2 : F_X12_tide τ Z gm rm (A 12) v w = (r2, gm2)) : r1 = r2 ∧ c_tid gi1 gm2 A := by
  unfold F_X11_tide F_X11_isHour f_X11_tide_18 at e1
  unfold F_X12_tide f_X12_tide_21 at e2
  dsimp only at e1 e2
  rw [w0_c, w0_c, hC.g 11 0 1 (by decide), hC.g 1 2 22 (by decide)] at e1
  rw [w0_m, w0_m, hQ.g 13 51 (by decide)] at e2
  have fin : ((F_X11_finding τ Z gi gr (A 11) 1).1, (F_X11_finding τ Z gi gr (A 11) 1).2) = (r1, gi1) → ((F_X12_finding τ Z gm rm (A 12) (-1000001)).1, (F_X12_finding τ Z gm rm (A 12) (-1000001)).2) = (r2, gm2) → r1 = r2 ∧ c_tid gi1 gm2 A := fun q1 q2 => by
    obtain ⟨k1, k2, k3⟩ := s_fip hC hQ (by decide) (by decide) q1 q2
    refine ⟨k1, fun j hj => ?_⟩
    rw [k2 _ (ro_ne (hC.t 22 22 (by decide) rfl) (hC.t 36 36 (by decide) rfl) (by decide)), k3 _ (ro_ne (hQ.t 13 51 (by decide)) (hQ.t 26 59 (by decide)) (by decide))]
    exact h j hj
  by_cases g1 : W0 v 0 23 = 0
  · rw [if_pos g1] at e1 e2
    exact fin e1 e2
  rw [if_neg g1] at e1 e2
  by_cases g2 : W0 w 0 200 = 0
  · rw [if_pos g2] at e1 e2
    exact fin e1 e2
  rw [if_neg g2] at e1 e2
  obtain ⟨a1, a2⟩ := pr2 e1
  obtain ⟨b1, b2⟩ := pr2 e2
  have hv : v.toNatClampNeg < 24 := by
    obtain ⟨q1, q2⟩ := w0_no g1
    have q3 := Int32.le_iff_toInt_le.mp q1
    have q4 := Int32.le_iff_toInt_le.mp q2
    have q5 : (23 : Int32).toInt = 23 := by decide
    have q6 : (0 : Int32).toInt = 0 := by decide
    exact cl_lt (by omega) (by omega)
  refine ⟨by rw [← a1, ← b1]; exact h _ hv, fun j hj => ?_⟩
  rw [← a2, ← b2, st_22 hJ hC g1, up_s]
  by_cases hj2 : j = v.toNatClampNeg
  · rw [hj2, ud_s, ud_s]
  · rw [ud_n hj2, ud_n hj2]
    exact h j hj
end TD
end
section
/-! ===== the start: what the makers leave ===== -/
section ST
variable {τ tO : th_t} {Z : th_Zt} {gi gO : th_i} {gr qO : th_r} {h0 h1 : Nat}
theorem fl_24 {q : Nat} {v : Int32} : ∀ (n : Nat) (g : th_i) (y z : Int32) (a : Nat), a ≠ q → f_J7_fill_53178_24_5 τ Z gi gr q v n g y z a = g a := by
  intro n
  induction n with
  | zero => intro g y z a _; rfl
  | succ n ih =>
    intro g y z a ha
    unfold f_J7_fill_53178_24_5
    dsimp only
    by_cases hc : z ≤ y
    · rw [if_pos hc]
    · rw [if_neg hc]
      exact (ih _ _ _ a ha).trans (va_up_ne _ _ ha)
theorem fl_25 {q : Nat} {v : Int32} : ∀ (n : Nat) (g : th_i) (y z : Int32) (a : Nat), a ≠ q → f_J7_fill_53178_25_5 τ Z gi gr q v n g y z a = g a := by
  intro n
  induction n with
  | zero => intro g y z a _; rfl
  | succ n ih =>
    intro g y z a ha
    unfold f_J7_fill_53178_25_5
    dsimp only
    by_cases hc : z ≤ y
    · rw [if_pos hc]
    · rw [if_neg hc]
      exact (ih _ _ _ a ha).trans (va_up_ne _ _ ha)
theorem mk_at {α : Type} {q g : Nat → Nat → α} {h : Nat} {f : Nat → α} (e : q = va_up g h f) (k : Nat) : q h k = f k := by rw [e, va_up_self]
/-- what was there stays -/
def mk_fr (τ : th_t) (gi : th_i) (gr : th_r) (tO : th_t) (gO : th_i) (qO : th_r) : Prop := ∀ a, τ a ≠ 0 → tO a = τ a ∧ gO a = gi a ∧ qO a = gr a
theorem mk_fr.tr {τ1 : th_t} {gi1 : th_i} {gr1 : th_r} (h : mk_fr τ gi gr τ1 gi1 gr1) (h2 : mk_fr τ1 gi1 gr1 tO gO qO) : mk_fr τ gi gr tO gO qO := fun a ha => by
  obtain ⟨k1, k2, k3⟩ := h a ha
  obtain ⟨l1, l2, l3⟩ := h2 a (by rw [k1]; exact ha)
  exact ⟨l1.trans k1, l2.trans k2, l3.trans k3⟩
theorem ne_z {τ : th_t} {a q : Nat} (ha : τ a ≠ 0) (hq : τ q = 0) : a ≠ q := fun e => ha (by rw [e]; exact hq)
theorem z_up {τ : th_t} {a q c : Nat} (h : va_up τ q c a = 0) (hc : c ≠ 0) : τ a = 0 ∧ a ≠ q := by
  by_cases e : a = q
  · subst e
    rw [va_up_self] at h
    exact absurd h hc
  · rw [va_up_ne _ _ e] at h
    exact ⟨h, e⟩
theorem mk_X1 (h : M_X1_init τ Z gi gr h0 tO gO qO) (hz : τ h0 = 0) : mk_fr τ gi gr tO gO qO ∧ tO h0 = 2 ∧ ∃ a b, qO h0 0 = some a ∧ qO h0 1 = some b ∧ tO a = 24 ∧ tO b = 25 ∧ τ a = 0 ∧ τ b = 0 := by
  unfold M_X1_init at h
  obtain ⟨q1, z1, n1, q4, z4, n4, e1, e2, e3⟩ := h
  obtain ⟨z4', n41⟩ := z_up z4 (by decide)
  unfold F_J7_fill_53178_25 F_J7_fill_53178_24 at e2
  refine ⟨fun a ha => ?_, ?_, q1, q4, ?_, ?_, ?_, ?_, z1, z4'⟩
  · have a0 := ne_z ha hz
    have a1 := ne_z ha z1
    have a4 := ne_z ha z4'
    refine ⟨?_, ?_, ?_⟩
    · rw [e1, va_up_ne _ _ a0, va_up_ne _ _ a4, va_up_ne _ _ a1]
    · rw [e2, va_up_ne _ _ a0, fl_25 _ _ _ _ a a4, fl_24 _ _ _ _ a a1, va_up_ne _ _ a4, va_up_ne _ _ a1]
    · rw [e3, va_up_ne _ _ a0]
  · rw [e1, va_up_self]
  · exact mk_at e3 0
  · exact mk_at e3 1
  · rw [e1, va_up_ne _ _ (Ne.symm n1), va_up_ne _ _ (Ne.symm n41), va_up_self]
  · rw [e1, va_up_ne _ _ (Ne.symm n4), va_up_self]
theorem mk_X10 (h : M_X10_init τ Z gi gr h0 h1 tO gO qO) (hz : τ h0 = 0) : mk_fr τ gi gr tO gO qO ∧ tO h0 = 10 ∧ qO h0 0 = some h1 := by
  unfold M_X10_init at h
  obtain ⟨q1, z1, n1, e1, e2, e3⟩ := h
  refine ⟨fun a ha => ?_, ?_, ?_⟩
  · have a0 := ne_z ha hz
    have a1 := ne_z ha z1
    exact ⟨by rw [e1, va_up_ne _ _ a0, va_up_ne _ _ a1], by rw [e2, va_up_ne _ _ a0, va_up_ne _ _ a1], by rw [e3, va_up_ne _ _ a0]⟩
  · rw [e1, va_up_self]
  · exact mk_at e3 0
theorem mk_X6 (h : M_X6_init τ Z gi gr h0 h1 tO gO qO) (hz : τ h0 = 0) : mk_fr τ gi gr tO gO qO ∧ tO h0 = 6 ∧ qO h0 0 = some h1 := by
  unfold M_X6_init at h
  obtain ⟨q1, z1, n1, q5, z5, n5, e1, e2, e3⟩ := h
  obtain ⟨z5', n51⟩ := z_up z5 (by decide)
  refine ⟨fun a ha => ?_, ?_, ?_⟩
  · have a0 := ne_z ha hz
    have a1 := ne_z ha z1
    have a5 := ne_z ha z5'
    exact ⟨by rw [e1, va_up_ne _ _ a0, va_up_ne _ _ a5, va_up_ne _ _ a1], by rw [e2, va_up_ne _ _ a0, va_up_ne _ _ a5, va_up_ne _ _ a1], by rw [e3, va_up_ne _ _ a0]⟩
  · rw [e1, va_up_self]
  · exact mk_at e3 0
theorem mk_X7 (h : M_X7_init τ Z gi gr h0 h1 tO gO qO) (hz : τ h0 = 0) : mk_fr τ gi gr tO gO qO ∧ tO h0 = 7 ∧ qO h0 0 = some h1 := by
  unfold M_X7_init at h
  obtain ⟨q1, z1, n1, q6, z6, n6, q11, z11, n11, q17, z17, n17, q24, z24, n24, e1, e2, e3⟩ := h
  obtain ⟨z6', -⟩ := z_up z6 (by decide)
  obtain ⟨z11', -⟩ := z_up z11 (by decide)
  obtain ⟨z11'', -⟩ := z_up z11' (by decide)
  obtain ⟨z17', -⟩ := z_up z17 (by decide)
  obtain ⟨z17'', -⟩ := z_up z17' (by decide)
  obtain ⟨z17''', -⟩ := z_up z17'' (by decide)
  obtain ⟨z24', -⟩ := z_up z24 (by decide)
  obtain ⟨z24'', -⟩ := z_up z24' (by decide)
  obtain ⟨z24''', -⟩ := z_up z24'' (by decide)
  obtain ⟨z24'''', -⟩ := z_up z24''' (by decide)
  refine ⟨fun a ha => ?_, ?_, ?_⟩
  · have a0 := ne_z ha hz
    have a1 := ne_z ha z1
    have a6 := ne_z ha z6'
    have a11 := ne_z ha z11''
    have a17 := ne_z ha z17'''
    have a24 := ne_z ha z24''''
    refine ⟨?_, ?_, ?_⟩
    · rw [e1, va_up_ne _ _ a0, va_up_ne _ _ a24, va_up_ne _ _ a17, va_up_ne _ _ a11, va_up_ne _ _ a6, va_up_ne _ _ a1]
    · rw [e2, va_up_ne _ _ a0, va_up_ne _ _ a24, va_up_ne _ _ a17, va_up_ne _ _ a11, va_up_ne _ _ a6]
    · rw [e3, va_up_ne _ _ a0, va_up_ne _ _ a1]
  · rw [e1, va_up_self]
  · exact mk_at e3 0
theorem mk_X5 (h : M_X5_init τ Z gi gr h0 h1 tO gO qO) (hz : τ h0 = 0) : mk_fr τ gi gr tO gO qO ∧ tO h0 = 5 ∧ qO h0 0 = some h1 ∧ ∃ b x y, qO h0 1 = some b ∧ qO b 0 = some x ∧ qO b 1 = some y ∧ τ b = 0 ∧ τ x = 0 ∧ τ y = 0 := by
  unfold M_X5_init at h
  obtain ⟨q1, z1, n1, τ2, gi2, gr2, hm, zh, e1, e2, e3⟩ := h
  obtain ⟨f, t1, x, y, r0, r1, tx, ty, zx, zy⟩ := mk_X1 hm z1
  refine ⟨fun a ha => ?_, ?_, ?_, q1, x, y, ?_, ?_, ?_, z1, zx, zy⟩
  · have a0 := ne_z ha hz
    obtain ⟨k1, k2, k3⟩ := f a ha
    exact ⟨by rw [e1, va_up_ne _ _ a0, k1], by rw [e2, va_up_ne _ _ a0, k2], by rw [e3, va_up_ne _ _ a0, k3]⟩
  · rw [e1, va_up_self]
  · exact mk_at e3 0
  · exact mk_at e3 1
  · rw [e3, va_up_ne _ _ (Ne.symm n1), r0]
  · rw [e3, va_up_ne _ _ (Ne.symm n1), r1]
theorem mk_X5b (h : M_X5_init τ Z gi gr h0 h1 tO gO qO) (hz : τ h0 = 0) {b : Nat} (hb : qO h0 1 = some b) : tO b ≠ 0 := by
  unfold M_X5_init at h
  obtain ⟨q1, z1, n1, τ2, gi2, gr2, hm, zh, e1, e2, e3⟩ := h
  obtain ⟨f, t1, x, y, r0, r1, tx, ty, zx, zy⟩ := mk_X1 hm z1
  have : q1 = b := Option.some.inj ((mk_at e3 1).symm.trans hb)
  subst this
  rw [e1, va_up_ne _ _ (Ne.symm n1), t1]
  decide
theorem mk_73 {τ20 : th_t} {q1 q4 q8 q13 q19 : Nat} : ∀ (n : Nat) (g : th_i) (r : th_r) (y : Int32), f_X0_init_73 τ Z gi gr h0 tO gO qO τ20 q1 q4 q8 q13 q19 n g r y → tO = va_up τ20 h0 1 ∧ (∃ g', gO = va_up g' h0 (fun k => match k with | 7 => 255 | _ => 0) ∧ ∀ a, a ≠ q13 → g' a = g a) ∧ qO = va_up r h0 (fun k => match k with | 0 => some q1 | 1 => some q4 | 2 => some q8 | 3 => some q13 | 4 => some q19 | _ => none) := by
  intro n
  induction n with
  | zero => intro g r y h; exact absurd h (by unfold f_X0_init_73; exact fun q => q)
  | succ n ih =>
    intro g r y h
    unfold f_X0_init_73 at h
    dsimp only at h
    by_cases hc : (24 : Int32) ≤ y
    · rw [if_pos hc] at h
      exact ⟨h.1, ⟨g, h.2.1, fun _ _ => rfl⟩, h.2.2⟩
    · rw [if_neg hc] at h
      obtain ⟨g34, hg, h⟩ := h
      obtain ⟨k1, ⟨g', k2, k3⟩, k4⟩ := ih _ _ _ h
      exact ⟨k1, ⟨g', k2, fun a ha => (k3 a ha).trans (by rw [hg]; exact va_up_ne _ _ ha)⟩, k4⟩
theorem mk_X0 (h : M_X0_init τ Z gi gr h0 tO gO qO) (hz : τ h0 = 0) : tO h0 = 1 ∧ (gO h0 = fun k => match k with | 7 => 255 | _ => 0) ∧ ∃ b x y t, qO h0 4 = some b ∧ qO b 0 = some x ∧ qO b 1 = some y ∧ tO b = 2 ∧ tO x = 24 ∧ tO y = 25 ∧ qO h0 2 = some t ∧ tO t = 22 ∧ gO t = fun _ => 0 := by
  unfold M_X0_init at h
  obtain ⟨q1, z1, n1, q4, z4, n4, q8, z8, n8, q13, z13, n13, q19, z19, n19, τ20, gi20, gr20, hm, zh, hl⟩ := h
  obtain ⟨f, t1, x, y, r0, r1, tx, ty, zx, zy⟩ := mk_X1 hm z19
  obtain ⟨k1, ⟨g', k2, k3⟩, k4⟩ := mk_73 _ _ _ _ hl
  have bx : x ≠ h0 := ne_z (τ := τ20) (by rw [tx]; decide) zh
  have by_ : y ≠ h0 := ne_z (τ := τ20) (by rw [ty]; decide) zh
  have bb : q19 ≠ h0 := ne_z (τ := τ20) (by rw [t1]; decide) zh
  have t8 : va_up (va_up (va_up (va_up τ q1 20) q4 21) q8 22) q13 23 q8 = 22 := by
    rw [va_up_ne _ _ (Ne.symm (z_up z13 (by decide)).2), va_up_self]
  have n813 : q8 ≠ q13 := Ne.symm (z_up z13 (by decide)).2
  obtain ⟨u1, u2, u3⟩ := f q8 (by rw [t8]; decide)
  refine ⟨by rw [k1, va_up_self], by rw [k2, va_up_self], q19, x, y, q8, mk_at k4 4, by rw [k4, va_up_ne _ _ bb, r0], by rw [k4, va_up_ne _ _ bb, r1], by rw [k1, va_up_ne _ _ bb, t1], by rw [k1, va_up_ne _ _ bx, tx], by rw [k1, va_up_ne _ _ by_, ty], mk_at k4 2, by rw [k1, va_up_ne _ _ (Ne.symm n8), u1, t8], by rw [k2, va_up_ne _ _ (Ne.symm n8), k3 _ n813, u2, va_up_ne _ _ n813, va_up_self]⟩
/-- the whole object: its own numbers, the Bay's, who refers to whom -/
theorem mk_X11 (h : M_X11_init τ Z gi gr h0 tO gO qO) (hz : τ h0 = 0) : (gO h0 = fun k => match k with | 8 => 3 | 9 => 1 | _ => 0) ∧ ∃ B w s r f, qO h0 0 = some B ∧ qO h0 1 = some w ∧ qO h0 2 = some s ∧ qO h0 3 = some r ∧ qO h0 4 = some f ∧ qO w 0 = some B ∧ qO s 0 = some B ∧ qO r 0 = some B ∧ qO f 0 = some B ∧ (gO B = fun k => match k with | 7 => 255 | _ => 0) ∧ (∃ t, qO B 2 = some t ∧ gO t = fun _ => 0) ∧ ∃ b x y b' x' y', qO B 4 = some b ∧ qO b 0 = some x ∧ qO b 1 = some y ∧ qO f 1 = some b' ∧ qO b' 0 = some x' ∧ qO b' 1 = some y' ∧ b' ≠ b ∧ x' ≠ x ∧ y' ≠ y := by
  unfold M_X11_init at h
  obtain ⟨q1, z1, n1, τ2, gi2, gr2, m0, y2, q5, z5, n5, τ6, gi6, gr6, m10, y6, q10, z10, n10, τ11, gi11, gr11, m7, y11, q16, z16, n16, τ17, gi17, gr17, m6, y17, q23, z23, n23, τ24, gi24, gr24, m5, y24, q31, z31, n31, q39, z39, n39, e1, e2, e3⟩ := h
  obtain ⟨z39', n391⟩ := z_up z39 (by decide)
  obtain ⟨tB, gB, b, x, y, td, rb, rx, ry, tb, tx, ty, rtd, ttd, gtd⟩ := mk_X0 m0 z1
  obtain ⟨f10, t10, r10⟩ := mk_X10 m10 z5
  obtain ⟨f7, t7, r7⟩ := mk_X7 m7 z10
  obtain ⟨f6, t6, r6⟩ := mk_X6 m6 z16
  obtain ⟨f5, t5, r5, b', x', y', rb', rx', ry', zb', zx', zy'⟩ := mk_X5 m5 z23
  have F2 := (f10.tr f7).tr (f6.tr f5)
  have F6 := f7.tr (f6.tr f5)
  have F11 := f6.tr f5
  have G : ∀ a, τ24 a ≠ 0 → a ≠ h0 ∧ gO a = gi24 a ∧ qO a = gr24 a := fun a ha => by
    have a0 := ne_z ha y24
    have a1 := ne_z ha z31
    have a2 := ne_z ha z39'
    refine ⟨a0, ?_, ?_⟩
    · rw [e2, va_up_ne _ _ a0, va_up_ne _ _ a2, va_up_ne _ _ a1]
    · rw [e3, va_up_ne _ _ a0]
  have P2 : ∀ a c, c ≠ 0 → τ2 a = c → gO a = gi2 a ∧ qO a = gr2 a := fun a c hc ha => by
    obtain ⟨k1, k2, k3⟩ := F2 a (by rw [ha]; exact hc)
    obtain ⟨-, l1, l2⟩ := G a (by rw [k1, ha]; exact hc)
    exact ⟨l1.trans k2, l2.trans k3⟩
  have P6 : qO q5 = gr6 q5 := by
    obtain ⟨k1, k2, k3⟩ := F6 q5 (by rw [t10]; decide)
    obtain ⟨-, l1, l2⟩ := G q5 (by rw [k1, t10]; decide)
    exact l2.trans k3
  have P11 : qO q10 = gr11 q10 := by
    obtain ⟨k1, k2, k3⟩ := F11 q10 (by rw [t7]; decide)
    obtain ⟨-, l1, l2⟩ := G q10 (by rw [k1, t7]; decide)
    exact l2.trans k3
  have P17 : qO q16 = gr17 q16 := by
    obtain ⟨k1, k2, k3⟩ := f5 q16 (by rw [t6]; decide)
    obtain ⟨-, l1, l2⟩ := G q16 (by rw [k1, t6]; decide)
    exact l2.trans k3
  have P24 : qO q23 = gr24 q23 := (G q23 (by rw [t5]; decide)).2.2
  have old : ∀ a c, c ≠ 0 → τ2 a = c → τ17 a ≠ 0 := fun a c hc ha => by
    rw [((f10.tr f7).tr f6 a (by rw [ha]; exact hc)).1, ha]
    exact hc
  refine ⟨funext fun k => mk_at e2 k, q1, q5, q10, q16, q23, mk_at e3 0, mk_at e3 1, mk_at e3 2, mk_at e3 3, mk_at e3 4, by rw [P6, r10], by rw [P11, r7], by rw [P17, r6], by rw [P24, r5], by rw [(P2 q1 1 (by decide) tB).1, gB], ⟨td, by rw [(P2 q1 1 (by decide) tB).2, rtd], by rw [(P2 td 22 (by decide) ttd).1, gtd]⟩, b, x, y, b', x', y', by rw [(P2 q1 1 (by decide) tB).2, rb], by rw [(P2 b 2 (by decide) tb).2, rx], by rw [(P2 b 2 (by decide) tb).2, ry], by rw [P24, rb'], ?_, ?_, ?_, ?_, ?_⟩
  · rw [(G b' (mk_X5b m5 z23 rb')).2.2, rx']
  · rw [(G b' (mk_X5b m5 z23 rb')).2.2, ry']
  · exact fun e => old b 2 (by decide) tb (by rw [← e]; exact zb')
  · exact fun e => old x 24 (by decide) tx (by rw [← e]; exact zx')
  · exact fun e => old y 25 (by decide) ty (by rw [← e]; exact zy')
end ST
theorem ro_C.cong {τ : th_t} {gr : th_r} {A A' : Nat → Nat} (h : ro_C τ gr A) (he : ∀ i ∈ rc_L, A' i = A i) : ro_C τ gr A' := by
  have l1 : ∀ e ∈ rc_E, e.1 ∈ rc_L ∧ e.2.2 ∈ rc_L := by decide
  refine ⟨fun i hi => ?_, fun e hq => ?_, ?_, ?_, ?_⟩
  · rw [he i hi]; exact h.1 i hi
  · rw [he _ (l1 e hq).1, he _ (l1 e hq).2]; exact h.2.1 e hq
  · rw [he 13 (by decide), he 2 (by decide)]; exact h.2.2.1
  · rw [he 38 (by decide), he 24 (by decide)]; exact h.2.2.2.1
  · rw [he 39 (by decide), he 25 (by decide)]; exact h.2.2.2.2
theorem ne_c {τ : th_t} {gr : th_r} {A : Nat → Nat} (h : ro_C τ gr A) {a : Nat} (ha : τ a = 0) : ∀ i ∈ rc_L, A i ≠ a := fun i hi e => rc_ok i hi (by rw [← h.1 i hi, e]; exact ha)
section SA
variable {τ0 τ1 τ2 : th_t} {Z : th_Zt} {gi0 gi1 gi2 : th_i} {gr0 gr1 gr2 : th_r} {q1 q2 : Nat}
theorem start_C (m1 : M_X11_init τ0 Z gi0 gr0 q1 τ1 gi1 gr1) (z1 : τ0 q1 = 0) (J1 : th_J τ1 gi1 gr1) (t1 : τ1 q1 = 11) : ∃ A : Nat → Nat, A 11 = q1 ∧ ro_C τ1 gr1 A ∧ gi1 (A 11) = (fun k => match k with | 8 => 3 | 9 => 1 | _ => 0) ∧ gi1 (A 1) = (fun k => match k with | 7 => 255 | _ => 0) ∧ gi1 (A 22) = fun _ => 0 := by
  obtain ⟨gC, B, w, s, r, f, rB, rw_, rs, rr, rf_, wB, sB, rB', fB, gB, ⟨td, rtd, gtd⟩, b, x, y, b', x', y', bb, bx, by_, fb, fx, fy, n1, n2, n3⟩ := mk_X11 m1 z1
  obtain ⟨⟨h_11_0_, h_11_0, th_11_0⟩, ⟨h_11_1_, h_11_1, th_11_1⟩, ⟨h_11_2_, h_11_2, th_11_2⟩, ⟨h_11_3_, h_11_3, th_11_3⟩, ⟨h_11_4_, h_11_4, th_11_4⟩, ⟨h_11_5_, h_11_5, th_11_5⟩, ⟨h_11_6_, h_11_6, th_11_6⟩, -, -⟩ := J1.at t1 (by decide)
  have eh_11_0 : h_11_0_ = B := Option.some.inj (h_11_0.symm.trans rB)
  rw [eh_11_0] at th_11_0
  have eh_11_1 : h_11_1_ = w := Option.some.inj (h_11_1.symm.trans rw_)
  rw [eh_11_1] at th_11_1
  have eh_11_2 : h_11_2_ = s := Option.some.inj (h_11_2.symm.trans rs)
  rw [eh_11_2] at th_11_2
  have eh_11_3 : h_11_3_ = r := Option.some.inj (h_11_3.symm.trans rr)
  rw [eh_11_3] at th_11_3
  have eh_11_4 : h_11_4_ = f := Option.some.inj (h_11_4.symm.trans rf_)
  rw [eh_11_4] at th_11_4
  obtain ⟨⟨h_1_0_, h_1_0, th_1_0⟩, ⟨h_1_1_, h_1_1, th_1_1⟩, ⟨h_1_2_, h_1_2, th_1_2⟩, ⟨h_1_3_, h_1_3, th_1_3⟩, ⟨h_1_4_, h_1_4, th_1_4⟩, -, -⟩ := J1.at th_11_0 (by decide)
  have eh_1_4 : h_1_4_ = b := Option.some.inj (h_1_4.symm.trans bb)
  rw [eh_1_4] at th_1_4
  obtain ⟨⟨h_10_0_, h_10_0, th_10_0⟩, ⟨h_10_1_, h_10_1, th_10_1⟩, -⟩ := J1.at th_11_1 (by decide)
  obtain ⟨⟨h_7_0_, h_7_0, th_7_0⟩, ⟨h_7_1_, h_7_1, th_7_1⟩, -, ⟨h_7_3_, h_7_3, th_7_3⟩, ⟨h_7_4_, h_7_4, th_7_4⟩, ⟨h_7_5_, h_7_5, th_7_5⟩, ⟨h_7_6_, h_7_6, th_7_6⟩⟩ := J1.at th_11_2 (by decide)
  obtain ⟨⟨h_6_0_, h_6_0, th_6_0⟩, ⟨h_6_1_, h_6_1, th_6_1⟩, ⟨h_6_2_, h_6_2, th_6_2⟩⟩ := J1.at th_11_3 (by decide)
  obtain ⟨⟨h_5_0_, h_5_0, th_5_0⟩, ⟨h_5_1_, h_5_1, th_5_1⟩⟩ := J1.at th_11_4 (by decide)
  have eh_5_1 : h_5_1_ = b' := Option.some.inj (h_5_1.symm.trans fb)
  rw [eh_5_1] at th_5_1
  obtain ⟨⟨h_2_0_, h_2_0, th_2_0⟩, ⟨h_2_1_, h_2_1, th_2_1⟩⟩ := J1.at th_1_4 (by decide)
  have eh_2_0 : h_2_0_ = x := Option.some.inj (h_2_0.symm.trans bx)
  rw [eh_2_0] at th_2_0
  have eh_2_1 : h_2_1_ = y := Option.some.inj (h_2_1.symm.trans by_)
  rw [eh_2_1] at th_2_1
  obtain ⟨⟨h_13_0_, h_13_0, th_13_0⟩, ⟨h_13_1_, h_13_1, th_13_1⟩⟩ := J1.at th_5_1 (by decide)
  have eh_13_0 : h_13_0_ = x' := Option.some.inj (h_13_0.symm.trans fx)
  rw [eh_13_0] at th_13_0
  have eh_13_1 : h_13_1_ = y' := Option.some.inj (h_13_1.symm.trans fy)
  rw [eh_13_1] at th_13_1
  refine ⟨fun i => match i with | 11 => q1 | 1 => B | 10 => w | 7 => s | 6 => r | 5 => f | 2 => b | 13 => b' | 20 => h_1_0_ | 21 => h_1_1_ | 22 => h_1_2_ | 23 => h_1_3_ | 24 => x | 25 => y | 28 => h_6_1_ | 29 => h_6_2_ | 30 => h_7_1_ | 31 => h_7_3_ | 32 => h_7_4_ | 33 => h_7_5_ | 34 => h_7_6_ | 35 => h_10_1_ | 36 => h_11_5_ | 37 => h_11_6_ | 38 => x' | 39 => y' | _ => 0, rfl, ⟨?_, ?_, n1, n2, n3⟩, gC, gB, (Option.some.inj (h_1_2.symm.trans rtd)) ▸ gtd⟩
  · intro i hi
    simp only [rc_L, List.mem_cons, List.not_mem_nil, or_false] at hi
    rcases hi with rfl | rfl | rfl | rfl | rfl | rfl | rfl | rfl | rfl | rfl | rfl | rfl | rfl | rfl | rfl | rfl | rfl | rfl | rfl | rfl | rfl | rfl | rfl | rfl | rfl | rfl
    · exact t1
    · exact th_11_0
    · exact th_11_1
    · exact th_11_2
    · exact th_11_3
    · exact th_11_4
    · exact th_1_4
    · exact th_5_1
    · exact th_1_0
    · exact th_1_1
    · exact th_1_2
    · exact th_1_3
    · exact th_2_0
    · exact th_2_1
    · exact th_6_1
    · exact th_6_2
    · exact th_7_1
    · exact th_7_3
    · exact th_7_4
    · exact th_7_5
    · exact th_7_6
    · exact th_10_1
    · exact th_11_5
    · exact th_11_6
    · exact th_13_0
    · exact th_13_1
  · intro e he
    simp only [rc_E, List.mem_cons, List.not_mem_nil, or_false] at he
    rcases he with rfl | rfl | rfl | rfl | rfl | rfl | rfl | rfl | rfl | rfl | rfl | rfl | rfl | rfl | rfl | rfl | rfl | rfl | rfl | rfl | rfl | rfl | rfl | rfl | rfl | rfl | rfl | rfl | rfl
    · exact rB
    · exact rw_
    · exact rs
    · exact rr
    · exact rf_
    · exact h_11_5
    · exact h_11_6
    · exact h_1_0
    · exact h_1_1
    · exact h_1_2
    · exact h_1_3
    · exact bb
    · exact wB
    · exact h_10_1
    · exact sB
    · exact h_7_1
    · exact h_7_3
    · exact h_7_4
    · exact h_7_5
    · exact h_7_6
    · exact rB'
    · exact h_6_1
    · exact h_6_2
    · exact fB
    · exact fb
    · exact bx
    · exact by_
    · exact fx
    · exact fy
theorem start_M (J2 : th_J τ2 gi2 gr2) (t2 : τ2 q2 = 12) : ∃ A : Nat → Nat, A 12 = q2 ∧ ro_M τ2 gr2 A := by
  obtain ⟨-, ⟨a40, r40, s40⟩, ⟨a41, r41, s41⟩, ⟨a42, r42, s42⟩, ⟨a43, r43, s43⟩, ⟨a44, r44, s44⟩, ⟨a45, r45, s45⟩, ⟨a46, r46, s46⟩, -, ⟨a47, r47, s47⟩, ⟨a48, r48, s48⟩, ⟨a49, r49, s49⟩, ⟨a50, r50, s50⟩, ⟨a51, r51, s51⟩, ⟨a52, r52, s52⟩, ⟨a53, r53, s53⟩, -, ⟨a54, r54, s54⟩, ⟨a55, r55, s55⟩, ⟨a56, r56, s56⟩, ⟨a57, r57, s57⟩, -, ⟨a58, r58, s58⟩, ⟨a59, r59, s59⟩, -, ⟨a60, r60, s60⟩, ⟨a61, r61, s61⟩, ⟨a62, r62, s62⟩, ⟨a63, r63, s63⟩, ⟨a64, r64, s64⟩, ⟨a65, r65, s65⟩, ⟨a66, r66, s66⟩, ⟨a67, r67, s67⟩, ⟨a68, r68, s68⟩⟩ := J2.at t2 (by decide)
  refine ⟨fun i => match i with | 12 => q2 | 40 => a40 | 41 => a41 | 42 => a42 | 43 => a43 | 44 => a44 | 45 => a45 | 46 => a46 | 47 => a47 | 48 => a48 | 49 => a49 | 50 => a50 | 51 => a51 | 52 => a52 | 53 => a53 | 54 => a54 | 55 => a55 | 56 => a56 | 57 => a57 | 58 => a58 | 59 => a59 | 60 => a60 | 61 => a61 | 62 => a62 | 63 => a63 | 64 => a64 | 65 => a65 | 66 => a66 | 67 => a67 | 68 => a68 | _ => 0, rfl, ⟨t2, ?_⟩⟩
  intro e he
  simp only [rm_E, List.mem_cons, List.not_mem_nil, or_false] at he
  rcases he with rfl | rfl | rfl | rfl | rfl | rfl | rfl | rfl | rfl | rfl | rfl | rfl | rfl | rfl | rfl | rfl | rfl | rfl | rfl | rfl | rfl | rfl | rfl | rfl | rfl | rfl | rfl | rfl | rfl
  · exact ⟨s40, r40⟩
  · exact ⟨s41, r41⟩
  · exact ⟨s42, r42⟩
  · exact ⟨s43, r43⟩
  · exact ⟨s44, r44⟩
  · exact ⟨s45, r45⟩
  · exact ⟨s46, r46⟩
  · exact ⟨s47, r47⟩
  · exact ⟨s48, r48⟩
  · exact ⟨s49, r49⟩
  · exact ⟨s50, r50⟩
  · exact ⟨s51, r51⟩
  · exact ⟨s52, r52⟩
  · exact ⟨s53, r53⟩
  · exact ⟨s54, r54⟩
  · exact ⟨s55, r55⟩
  · exact ⟨s56, r56⟩
  · exact ⟨s57, r57⟩
  · exact ⟨s58, r58⟩
  · exact ⟨s59, r59⟩
  · exact ⟨s60, r60⟩
  · exact ⟨s61, r61⟩
  · exact ⟨s62, r62⟩
  · exact ⟨s63, r63⟩
  · exact ⟨s64, r64⟩
  · exact ⟨s65, r65⟩
  · exact ⟨s66, r66⟩
  · exact ⟨s67, r67⟩
  · exact ⟨s68, r68⟩
theorem start_A {M : List Nat} {sz : Nat} (m1 : M_X11_init τ0 Z gi0 gr0 q1 τ1 gi1 gr1) (z1 : τ0 q1 = 0) (J1 : th_J τ1 gi1 gr1) (t1 : τ1 q1 = 11) (hx : th_Ext M τ1 gi1 gr1 sz q2 τ2 gi2 gr2) (hM : M = [5200, 5300]) (J2 : th_J τ2 gi2 gr2) (t2 : τ2 q2 = 12) : ∃ A : Nat → Nat, A 11 = q1 ∧ A 12 = q2 ∧ ro_C τ2 gr2 A ∧ ro_M τ2 gr2 A ∧ ro_C τ1 gr1 A ∧ (∀ k, k < 20 → gi2 (A 11) k = (fun k => match k with | 8 => 3 | 9 => 1 | _ => 0) k) ∧ (∀ k, k < 20 → gi2 (A 1) k = (fun k => match k with | 7 => 255 | _ => 0) k) ∧ gi2 (A 22) = fun _ => 0 := by
  subst hM
  obtain ⟨A, a1, hC, v1, v2, v4⟩ := start_C m1 z1 J1 t1
  obtain ⟨A2, a2, hQ⟩ := start_M J2 t2
  have hC2 : ro_C τ2 gr2 A := (hC.mod hx.2.2 (rc_okE (by decide))).ext hx.1 rc_ok
  have l40 : ∀ i ∈ rc_L, ro_c i < 40 := by decide
  have g1 : ∀ i ∈ rc_L, ∀ k, k < 20 → gi2 (A i) k = gi1 (A i) k := fun i hi k hk => (hx.2.2 (A i) k (by rw [hC.1 i hi]; exact rc_ok i hi) (by
    have h40 := l40 i hi
    rw [hC.1 i hi]
    unfold th_key
    simp only [List.mem_cons, List.not_mem_nil, or_false]
    split <;> omega)).1
  refine ⟨fun i => if i = 12 ∨ 40 ≤ i then A2 i else A i, ?_, ?_, hC2.cong ?_, ?_, hC.cong ?_, ?_, ?_, ?_⟩
  · exact a1
  · exact a2
  · have h9 : ∀ i ∈ rc_L, ¬ (i = 12 ∨ 40 ≤ i) := by decide
    intro i hi
    exact if_neg (h9 i hi)
  · have h9 : ∀ e ∈ rm_E, (e.2 = 12 ∨ 40 ≤ e.2) := by decide
    refine ⟨hQ.1, fun e he => ?_⟩
    have h8 := hQ.2 e he
    dsimp only
    rw [if_pos (h9 e he)]
    exact h8
  · have h9 : ∀ i ∈ rc_L, ¬ (i = 12 ∨ 40 ≤ i) := by decide
    intro i hi
    exact if_neg (h9 i hi)
  · intro k hk
    show gi2 (A 11) k = _
    rw [g1 11 (by decide) k hk, v1]
  · intro k hk
    show gi2 (A 1) k = _
    rw [g1 1 (by decide) k hk, v2]
  · show gi2 (A 22) = _
    rw [(ro_ka hx.2.2 (hC.t 22 22 (by decide) rfl) (by decide) (by decide)).1, v4]
end SA
end
