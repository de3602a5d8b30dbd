theorem th_tkE {τ τ' : th_t} {e q c k0 : Nat} (ht : τ' = va_up τ q k0) (h : τ e = c) (hc : Nat.beq c 0 = false) (hq : τ q = 0) : τ' e = c := by
  subst ht
  exact th_tk h (fun z => by rw [z] at hc; exact absurd hc (by decide)) hq
theorem th_tzE {τ τ' : th_t} {e q k0 : Nat} (ht : τ' = va_up τ q k0) (h : τ e = 0) (hq : e ≠ q) : τ' e = 0 := by
  subst ht
  exact th_tz h hq
theorem th_ltE {a b q : Nat} (hs : a = q) (h : b < a) : b < q := by
  rw [← hs]; exact h
theorem th_leE {a b q : Nat} (hs : a = q) (h : b ≤ a) : b ≤ q := by
  rw [← hs]; exact h
theorem th_neE {τ : th_t} {a b c d : Nat} (h1 : τ b = c) (h2 : τ a = d) (h : Nat.beq c d = false) : b ≠ a := th_ne h1 h2 (fun z => by rw [z, Nat.beq_refl] at h; cases h)
theorem th_upS {α : Type} {g f : Nat → α} {q : Nat} {x : α} (e : f = va_up g q x) : f q = x := by
  rw [e]; exact va_up_self _ _ _
theorem th_upO {α : Type} {g f : Nat → α} {q : Nat} {x : α} (e : f = va_up g q x) : ∀ b, b ≠ q → f b = g b := fun b hb => by
  rw [e]; exact va_up_ne _ _ hb
def th_bleI : Int → Int → Bool
  | .ofNat m, .ofNat n => Nat.ble m n
  | .negSucc _, .ofNat _ => true
  | .ofNat _, .negSucc _ => false
  | .negSucc m, .negSucc n => Nat.ble n m
def th_beI : Int → Int → Bool
  | .ofNat m, .ofNat n => Nat.beq m n
  | .negSucc m, .negSucc n => Nat.beq m n
  | _, _ => false
theorem th_leI {a b : Int} (h : th_bleI a b = true) : a ≤ b := by
  cases a with
  | ofNat m =>
    cases b with
    | ofNat n => exact Int.ofNat_le.mpr (Nat.le_of_ble_eq_true h)
    | negSucc n => cases h
  | negSucc m =>
    cases b with
    | ofNat n => exact Int.le_trans (Int.le_of_lt (Int.negSucc_lt_zero m)) (Int.natCast_nonneg n)
    | negSucc n =>
      have h1 : n ≤ m := Nat.le_of_ble_eq_true h
      rw [Int.negSucc_eq, Int.negSucc_eq]
      omega
theorem th_ltI {a b : Int} (h : th_bleI (a + 1) b = true) : a < b := by
  have h1 := th_leI h
  omega
theorem th_eqI {a b : Int} (h : th_beI a b = true) : a = b := by
  cases a with
  | ofNat m =>
    cases b with
    | ofNat n => rw [Nat.eq_of_beq_eq_true h]
    | negSucc n => cases h
  | negSucc m =>
    cases b with
    | ofNat n => cases h
    | negSucc n => rw [Nat.eq_of_beq_eq_true h]
theorem th_nz {c d : Nat} (h : Nat.beq c d = false) : c ≠ d := fun e => by
  rw [e, Nat.beq_refl] at h
  cases h
theorem th_nzE {x c d : Nat} (t : x = c) (h : Nat.beq c d = false) : x ≠ d := by
  rw [t]; exact th_nz h
theorem th_ltN {i n : Nat} (h : Nat.ble (i + 1) n = true) : i < n := Nat.le_of_ble_eq_true h
theorem th_leN {i n : Nat} (h : Nat.ble i n = true) : i ≤ n := Nat.le_of_ble_eq_true h
theorem rg_e {lo hi : Int} {x y : Int32} (e : x = y) (h : rg lo hi y) : rg lo hi x := by
  rw [e]; exact h
theorem th_fI {fs : List Value} {k : Nat} {x y : Int32} (e : x = y) (h : fs[k]? = some (.int y)) : fs[k]? = some (.int x) := by
  rw [e]; exact h
theorem th_fR {fs : List Value} {k q : Nat} {r : Option Nat} (e : r = some q) (h : fs[k]? = some (va_rf r)) : fs[k]? = some (.ref q) := by
  rw [e] at h; exact h
theorem th_uI {g g2 : th_i} {a k : Nat} {v : Int32} (e : g2 = va_up g a (upd (g a) k v)) : g2 a k = v ∧ ∀ b j, b ≠ a ∨ j ≠ k → g2 b j = g b j := by
  subst e
  exact th_upI
def th_el (a : Nat) : List Nat → Bool
  | [] => false
  | b :: r => Nat.beq a b || th_el a r
theorem th_mem {a : Nat} {l : List Nat} (h : th_el a l = true) : a ∈ l := by
  induction l with
  | nil => cases h
  | cons b r ih =>
    rw [th_el, Bool.or_eq_true] at h
    cases h with
    | inl h => rw [Nat.eq_of_beq_eq_true h]; exact List.Mem.head _
    | inr h => exact List.Mem.tail _ (ih h)
theorem th_elT {a : Nat} {l : List Nat} (h : a ∈ l) : th_el a l = true := by
  induction h with
  | head r => rw [th_el, Nat.beq_refl]; rfl
  | tail b h ih => rw [th_el, ih, Bool.or_true]
theorem th_nm {a : Nat} {l : List Nat} (h : th_el a l = false) : a ∉ l := fun q => by
  rw [th_elT q] at h
  cases h
theorem th_nmE {x c j key : Nat} {M : List Nat} (t : x = c) (e : th_key c j = key) (h : th_el key M = false) : th_key x j ∉ M := by
  rw [t, e]; exact th_nm h
def th_sb : List Nat → List Nat → Bool
  | [], _ => true
  | a :: r, l => th_el a l && th_sb r l
theorem th_sub {M2 M : List Nat} (h : th_sb M2 M = true) : ∀ x ∈ M2, x ∈ M := by
  induction M2 with
  | nil => intro x hx; cases hx
  | cons a r ih =>
    rw [th_sb, Bool.and_eq_true] at h
    intro x hx
    cases hx with
    | head => exact th_mem h.1
    | tail _ hx => exact ih h.2 x hx
def th_dj0 : List Nat → List Nat → Bool
  | [], _ => true
  | a :: r, l => !(th_el a l) && th_dj0 r l
theorem th_dj {K M : List Nat} (h : th_dj0 K M = true) : ∀ k ∈ K, k ∉ M := by
  induction K with
  | nil => intro x hx; cases hx
  | cons a r ih =>
    rw [th_dj0, Bool.and_eq_true, Bool.not_eq_true'] at h
    intro x hx
    cases hx with
    | head => exact th_nm h.1
    | tail _ hx => exact ih h.2 x hx
theorem bp_10 : (Int8.ofInt 10).toInt32 = (10 : Int32) := by decide
theorem bp_100 : (Int8.ofInt 100).toInt32 = (100 : Int32) := by decide
theorem bp_11 : (Int8.ofInt 11).toInt32 = (11 : Int32) := by decide
theorem bp_12 : (Int8.ofInt 12).toInt32 = (12 : Int32) := by decide
theorem bp_15 : (Int8.ofInt 15).toInt32 = (15 : Int32) := by decide
theorem bp_16 : (Int8.ofInt 16).toInt32 = (16 : Int32) := by decide
theorem bp_20 : (Int8.ofInt 20).toInt32 = (20 : Int32) := by decide
theorem bp_23 : (Int8.ofInt 23).toInt32 = (23 : Int32) := by decide
theorem bp_24 : (Int8.ofInt 24).toInt32 = (24 : Int32) := by decide
theorem bp_30 : (Int8.ofInt 30).toInt32 = (30 : Int32) := by decide
theorem bp_6 : (Int8.ofInt 6).toInt32 = (6 : Int32) := by decide
theorem bp_60 : (Int8.ofInt 60).toInt32 = (60 : Int32) := by decide
theorem bp_63 : (Int8.ofInt 63).toInt32 = (63 : Int32) := by decide
theorem bp_64 : (Int8.ofInt 64).toInt32 = (64 : Int32) := by decide
theorem bp_7 : (Int8.ofInt 7).toInt32 = (7 : Int32) := by decide
theorem bp_8 : (Int8.ofInt 8).toInt32 = (8 : Int32) := by decide
theorem bp_9 : (Int8.ofInt 9).toInt32 = (9 : Int32) := by decide
theorem bp_m20 : (Int8.ofInt (-20)).toInt32 = ((-20) : Int32) := by decide
theorem ic_0 : Int32.ofInt 0 = (0 : Int32) := by decide
theorem ic_1 : Int32.ofInt 1 = (1 : Int32) := by decide
theorem ic_2 : Int32.ofInt 2 = (2 : Int32) := by decide
theorem ic_3 : Int32.ofInt 3 = (3 : Int32) := by decide
theorem ic_4 : Int32.ofInt 4 = (4 : Int32) := by decide
theorem ic_5 : Int32.ofInt 5 = (5 : Int32) := by decide
theorem ic_m1 : Int32.ofInt (-1) = ((-1) : Int32) := by decide
theorem rgc_0 : rg 0 0 (0 : Int32) := ⟨by decide, by decide⟩
theorem rgc_1 : rg 1 1 (1 : Int32) := ⟨by decide, by decide⟩
theorem rgc_10 : rg 10 10 (10 : Int32) := ⟨by decide, by decide⟩
theorem rgc_100 : rg 100 100 (100 : Int32) := ⟨by decide, by decide⟩
theorem rgc_11 : rg 11 11 (11 : Int32) := ⟨by decide, by decide⟩
theorem rgc_12 : rg 12 12 (12 : Int32) := ⟨by decide, by decide⟩
theorem rgc_15 : rg 15 15 (15 : Int32) := ⟨by decide, by decide⟩
theorem rgc_150 : rg 150 150 (150 : Int32) := ⟨by decide, by decide⟩
theorem rgc_16 : rg 16 16 (16 : Int32) := ⟨by decide, by decide⟩
theorem rgc_2 : rg 2 2 (2 : Int32) := ⟨by decide, by decide⟩
theorem rgc_20 : rg 20 20 (20 : Int32) := ⟨by decide, by decide⟩
theorem rgc_200 : rg 200 200 (200 : Int32) := ⟨by decide, by decide⟩
theorem rgc_23 : rg 23 23 (23 : Int32) := ⟨by decide, by decide⟩
theorem rgc_24 : rg 24 24 (24 : Int32) := ⟨by decide, by decide⟩
theorem rgc_255 : rg 255 255 (255 : Int32) := ⟨by decide, by decide⟩
theorem rgc_256 : rg 256 256 (256 : Int32) := ⟨by decide, by decide⟩
theorem rgc_3 : rg 3 3 (3 : Int32) := ⟨by decide, by decide⟩
theorem rgc_30 : rg 30 30 (30 : Int32) := ⟨by decide, by decide⟩
theorem rgc_300 : rg 300 300 (300 : Int32) := ⟨by decide, by decide⟩
theorem rgc_4 : rg 4 4 (4 : Int32) := ⟨by decide, by decide⟩
theorem rgc_400 : rg 400 400 (400 : Int32) := ⟨by decide, by decide⟩
theorem rgc_5 : rg 5 5 (5 : Int32) := ⟨by decide, by decide⟩
theorem rgc_6 : rg 6 6 (6 : Int32) := ⟨by decide, by decide⟩
theorem rgc_60 : rg 60 60 (60 : Int32) := ⟨by decide, by decide⟩
theorem rgc_7 : rg 7 7 (7 : Int32) := ⟨by decide, by decide⟩
theorem rgc_8 : rg 8 8 (8 : Int32) := ⟨by decide, by decide⟩
theorem rgc_9 : rg 9 9 (9 : Int32) := ⟨by decide, by decide⟩
theorem rgc_999 : rg 999 999 (999 : Int32) := ⟨by decide, by decide⟩
theorem rgc_m1 : rg (-1) (-1) ((-1) : Int32) := ⟨by decide, by decide⟩
theorem rgc_m1000000 : rg (-1000000) (-1000000) ((-1000000) : Int32) := ⟨by decide, by decide⟩
theorem rgc_m1000001 : rg (-1000001) (-1000001) ((-1000001) : Int32) := ⟨by decide, by decide⟩
theorem rgc_m1000002 : rg (-1000002) (-1000002) ((-1000002) : Int32) := ⟨by decide, by decide⟩
theorem rgc_m1000003 : rg (-1000003) (-1000003) ((-1000003) : Int32) := ⟨by decide, by decide⟩
theorem rgc_m1000004 : rg (-1000004) (-1000004) ((-1000004) : Int32) := ⟨by decide, by decide⟩
theorem rgc_m1000005 : rg (-1000005) (-1000005) ((-1000005) : Int32) := ⟨by decide, by decide⟩
theorem rgc_m20 : rg (-20) (-20) ((-20) : Int32) := ⟨by decide, by decide⟩
theorem sp_150 : (Int16.ofInt 150).toInt32 = (150 : Int32) := by decide
theorem sp_200 : (Int16.ofInt 200).toInt32 = (200 : Int32) := by decide
theorem sp_255 : (Int16.ofInt 255).toInt32 = (255 : Int32) := by decide
theorem sp_256 : (Int16.ofInt 256).toInt32 = (256 : Int32) := by decide
theorem sp_300 : (Int16.ofInt 300).toInt32 = (300 : Int32) := by decide
theorem sp_400 : (Int16.ofInt 400).toInt32 = (400 : Int32) := by decide
theorem sp_999 : (Int16.ofInt 999).toInt32 = (999 : Int32) := by decide
theorem nm_X0 : RX0 ≠ "java/lang/invoke/MethodHandle" ∧ RX0 ≠ "java/lang/invoke/VarHandle" := by decide +kernel
theorem nm_X1 : RX1 ≠ "java/lang/invoke/MethodHandle" ∧ RX1 ≠ "java/lang/invoke/VarHandle" := by decide +kernel
theorem nm_X10 : RX10 ≠ "java/lang/invoke/MethodHandle" ∧ RX10 ≠ "java/lang/invoke/VarHandle" := by decide +kernel
theorem nm_X11 : RX11 ≠ "java/lang/invoke/MethodHandle" ∧ RX11 ≠ "java/lang/invoke/VarHandle" := by decide +kernel
theorem nm_X12 : RX12 ≠ "java/lang/invoke/MethodHandle" ∧ RX12 ≠ "java/lang/invoke/VarHandle" := by decide +kernel
theorem nm_X3 : RX3 ≠ "java/lang/invoke/MethodHandle" ∧ RX3 ≠ "java/lang/invoke/VarHandle" := by decide +kernel
theorem nm_X5 : RX5 ≠ "java/lang/invoke/MethodHandle" ∧ RX5 ≠ "java/lang/invoke/VarHandle" := by decide +kernel
theorem nm_X6 : RX6 ≠ "java/lang/invoke/MethodHandle" ∧ RX6 ≠ "java/lang/invoke/VarHandle" := by decide +kernel
theorem nm_X7 : RX7 ≠ "java/lang/invoke/MethodHandle" ∧ RX7 ≠ "java/lang/invoke/VarHandle" := by decide +kernel
theorem pd_0 : (parseMethodDescriptor "(I)Z").map (fun d => d.parameters.length) = some 1 := by decide +kernel
theorem hd_X0_anyLies__1 : yX0_anyLies.cls = RX0 ∧ yX0_anyLies.cls ≠ "java/lang/invoke/MethodHandle" ∧ yX0_anyLies.cls ≠ "java/lang/invoke/VarHandle" ∧ (parseMethodDescriptor yX0_anyLies.desc).map (fun d => d.parameters.length) = some 1 := ⟨rfl, nm_X0.1, nm_X0.2, pd_0⟩
theorem hd_X0_blows__1 : yX0_blows.cls = RX0 ∧ yX0_blows.cls ≠ "java/lang/invoke/MethodHandle" ∧ yX0_blows.cls ≠ "java/lang/invoke/VarHandle" ∧ (parseMethodDescriptor yX0_blows.desc).map (fun d => d.parameters.length) = some 1 := ⟨rfl, nm_X0.1, nm_X0.2, pd_0⟩
theorem pd_1 : (parseMethodDescriptor "(I)LBayMoorings$Boat;").map (fun d => d.parameters.length) = some 1 := by decide +kernel
theorem hd_X0_boatAt__1 : yX0_boatAt.cls = RX0 ∧ yX0_boatAt.cls ≠ "java/lang/invoke/MethodHandle" ∧ yX0_boatAt.cls ≠ "java/lang/invoke/VarHandle" ∧ (parseMethodDescriptor yX0_boatAt.desc).map (fun d => d.parameters.length) = some 1 := ⟨rfl, nm_X0.1, nm_X0.2, pd_1⟩
theorem pd_2 : (parseMethodDescriptor "(I)LBayMoorings$Buoy;").map (fun d => d.parameters.length) = some 1 := by decide +kernel
theorem hd_X0_buoyAt__1 : yX0_buoyAt.cls = RX0 ∧ yX0_buoyAt.cls ≠ "java/lang/invoke/MethodHandle" ∧ yX0_buoyAt.cls ≠ "java/lang/invoke/VarHandle" ∧ (parseMethodDescriptor yX0_buoyAt.desc).map (fun d => d.parameters.length) = some 1 := ⟨rfl, nm_X0.1, nm_X0.2, pd_2⟩
theorem pd_3 : (parseMethodDescriptor "()V").map (fun d => d.parameters.length) = some 0 := by decide +kernel
theorem hd_X0_dropWishes__0 : yX0_dropWishes.cls = RX0 ∧ yX0_dropWishes.cls ≠ "java/lang/invoke/MethodHandle" ∧ yX0_dropWishes.cls ≠ "java/lang/invoke/VarHandle" ∧ (parseMethodDescriptor yX0_dropWishes.desc).map (fun d => d.parameters.length) = some 0 := ⟨rfl, nm_X0.1, nm_X0.2, pd_3⟩
theorem pd_4 : (parseMethodDescriptor "(LBayMoorings$Boat;LBayMoorings$Buoy;LBayMoorings$Boat;LBayMoorings$Buoy;)I").map (fun d => d.parameters.length) = some 4 := by decide +kernel
theorem hd_X0_firstTouch__4 : yX0_firstTouch.cls = RX0 ∧ yX0_firstTouch.cls ≠ "java/lang/invoke/MethodHandle" ∧ yX0_firstTouch.cls ≠ "java/lang/invoke/VarHandle" ∧ (parseMethodDescriptor yX0_firstTouch.desc).map (fun d => d.parameters.length) = some 4 := ⟨rfl, nm_X0.1, nm_X0.2, pd_4⟩
theorem hd_X0_isEarlierTide__1 : yX0_isEarlierTide.cls = RX0 ∧ yX0_isEarlierTide.cls ≠ "java/lang/invoke/MethodHandle" ∧ yX0_isEarlierTide.cls ≠ "java/lang/invoke/VarHandle" ∧ (parseMethodDescriptor yX0_isEarlierTide.desc).map (fun d => d.parameters.length) = some 1 := ⟨rfl, nm_X0.1, nm_X0.2, pd_0⟩
theorem pd_5 : (parseMethodDescriptor "()I").map (fun d => d.parameters.length) = some 0 := by decide +kernel
theorem hd_X0_leastKnown__0 : yX0_leastKnown.cls = RX0 ∧ yX0_leastKnown.cls ≠ "java/lang/invoke/MethodHandle" ∧ yX0_leastKnown.cls ≠ "java/lang/invoke/VarHandle" ∧ (parseMethodDescriptor yX0_leastKnown.desc).map (fun d => d.parameters.length) = some 0 := ⟨rfl, nm_X0.1, nm_X0.2, pd_5⟩
theorem hd_X0_lyingBoats__0 : yX0_lyingBoats.cls = RX0 ∧ yX0_lyingBoats.cls ≠ "java/lang/invoke/MethodHandle" ∧ yX0_lyingBoats.cls ≠ "java/lang/invoke/VarHandle" ∧ (parseMethodDescriptor yX0_lyingBoats.desc).map (fun d => d.parameters.length) = some 0 := ⟨rfl, nm_X0.1, nm_X0.2, pd_5⟩
theorem pd_6 : (parseMethodDescriptor "(LBayMoorings$Boat;LBayMoorings$Buoy;LBayMoorings$Berths;)Z").map (fun d => d.parameters.length) = some 3 := by decide +kernel
theorem hd_X0_mayLie__3 : yX0_mayLie.cls = RX0 ∧ yX0_mayLie.cls ≠ "java/lang/invoke/MethodHandle" ∧ yX0_mayLie.cls ≠ "java/lang/invoke/VarHandle" ∧ (parseMethodDescriptor yX0_mayLie.desc).map (fun d => d.parameters.length) = some 3 := ⟨rfl, nm_X0.1, nm_X0.2, pd_6⟩
theorem pd_7 : (parseMethodDescriptor "(IIII)Z").map (fun d => d.parameters.length) = some 4 := by decide +kernel
theorem hd_X0_mayMeet__4 : yX0_mayMeet.cls = RX0 ∧ yX0_mayMeet.cls ≠ "java/lang/invoke/MethodHandle" ∧ yX0_mayMeet.cls ≠ "java/lang/invoke/VarHandle" ∧ (parseMethodDescriptor yX0_mayMeet.desc).map (fun d => d.parameters.length) = some 4 := ⟨rfl, nm_X0.1, nm_X0.2, pd_7⟩
theorem hd_X0_partedChains__0 : yX0_partedChains.cls = RX0 ∧ yX0_partedChains.cls ≠ "java/lang/invoke/MethodHandle" ∧ yX0_partedChains.cls ≠ "java/lang/invoke/VarHandle" ∧ (parseMethodDescriptor yX0_partedChains.desc).map (fun d => d.parameters.length) = some 0 := ⟨rfl, nm_X0.1, nm_X0.2, pd_5⟩
theorem hd_X0_passYear__0 : yX0_passYear.cls = RX0 ∧ yX0_passYear.cls ≠ "java/lang/invoke/MethodHandle" ∧ yX0_passYear.cls ≠ "java/lang/invoke/VarHandle" ∧ (parseMethodDescriptor yX0_passYear.desc).map (fun d => d.parameters.length) = some 0 := ⟨rfl, nm_X0.1, nm_X0.2, pd_3⟩
theorem pd_8 : (parseMethodDescriptor "(II)V").map (fun d => d.parameters.length) = some 2 := by decide +kernel
theorem hd_X0_setTide__2 : yX0_setTide.cls = RX0 ∧ yX0_setTide.cls ≠ "java/lang/invoke/MethodHandle" ∧ yX0_setTide.cls ≠ "java/lang/invoke/VarHandle" ∧ (parseMethodDescriptor yX0_setTide.desc).map (fun d => d.parameters.length) = some 2 := ⟨rfl, nm_X0.1, nm_X0.2, pd_8⟩
theorem pd_9 : (parseMethodDescriptor "(LBayMoorings$Boat;LBayMoorings$Buoy;)Z").map (fun d => d.parameters.length) = some 2 := by decide +kernel
theorem hd_X0_suits__2 : yX0_suits.cls = RX0 ∧ yX0_suits.cls ≠ "java/lang/invoke/MethodHandle" ∧ yX0_suits.cls ≠ "java/lang/invoke/VarHandle" ∧ (parseMethodDescriptor yX0_suits.desc).map (fun d => d.parameters.length) = some 2 := ⟨rfl, nm_X0.1, nm_X0.2, pd_9⟩
theorem pd_10 : (parseMethodDescriptor "(I)I").map (fun d => d.parameters.length) = some 1 := by decide +kernel
theorem hd_X1_boatOf__1 : yX1_boatOf.cls = RX1 ∧ yX1_boatOf.cls ≠ "java/lang/invoke/MethodHandle" ∧ yX1_boatOf.cls ≠ "java/lang/invoke/VarHandle" ∧ (parseMethodDescriptor yX1_boatOf.desc).map (fun d => d.parameters.length) = some 1 := ⟨rfl, nm_X1.1, nm_X1.2, pd_10⟩
theorem hd_X1_buoyOf__1 : yX1_buoyOf.cls = RX1 ∧ yX1_buoyOf.cls ≠ "java/lang/invoke/MethodHandle" ∧ yX1_buoyOf.cls ≠ "java/lang/invoke/VarHandle" ∧ (parseMethodDescriptor yX1_buoyOf.desc).map (fun d => d.parameters.length) = some 1 := ⟨rfl, nm_X1.1, nm_X1.2, pd_10⟩
theorem pd_11 : (parseMethodDescriptor "(LBayMoorings$Berths;)V").map (fun d => d.parameters.length) = some 1 := by decide +kernel
theorem hd_X1_copyFrom__1 : yX1_copyFrom.cls = RX1 ∧ yX1_copyFrom.cls ≠ "java/lang/invoke/MethodHandle" ∧ yX1_copyFrom.cls ≠ "java/lang/invoke/VarHandle" ∧ (parseMethodDescriptor yX1_copyFrom.desc).map (fun d => d.parameters.length) = some 1 := ⟨rfl, nm_X1.1, nm_X1.2, pd_11⟩
theorem pd_12 : (parseMethodDescriptor "(I)V").map (fun d => d.parameters.length) = some 1 := by decide +kernel
theorem hd_X1_lift__1 : yX1_lift.cls = RX1 ∧ yX1_lift.cls ≠ "java/lang/invoke/MethodHandle" ∧ yX1_lift.cls ≠ "java/lang/invoke/VarHandle" ∧ (parseMethodDescriptor yX1_lift.desc).map (fun d => d.parameters.length) = some 1 := ⟨rfl, nm_X1.1, nm_X1.2, pd_12⟩
theorem hd_X1_put__2 : yX1_put.cls = RX1 ∧ yX1_put.cls ≠ "java/lang/invoke/MethodHandle" ∧ yX1_put.cls ≠ "java/lang/invoke/VarHandle" ∧ (parseMethodDescriptor yX1_put.desc).map (fun d => d.parameters.length) = some 2 := ⟨rfl, nm_X1.1, nm_X1.2, pd_8⟩
theorem hd_X10_append__1 : yX10_append.cls = RX10 ∧ yX10_append.cls ≠ "java/lang/invoke/MethodHandle" ∧ yX10_append.cls ≠ "java/lang/invoke/VarHandle" ∧ (parseMethodDescriptor yX10_append.desc).map (fun d => d.parameters.length) = some 1 := ⟨rfl, nm_X10.1, nm_X10.2, pd_12⟩
theorem hd_X10_drop__1 : yX10_drop.cls = RX10 ∧ yX10_drop.cls ≠ "java/lang/invoke/MethodHandle" ∧ yX10_drop.cls ≠ "java/lang/invoke/VarHandle" ∧ (parseMethodDescriptor yX10_drop.desc).map (fun d => d.parameters.length) = some 1 := ⟨rfl, nm_X10.1, nm_X10.2, pd_12⟩
theorem pd_13 : (parseMethodDescriptor "(LBayMoorings$Buoy;)I").map (fun d => d.parameters.length) = some 1 := by decide +kernel
theorem hd_X10_firstFor__1 : yX10_firstFor.cls = RX10 ∧ yX10_firstFor.cls ≠ "java/lang/invoke/MethodHandle" ∧ yX10_firstFor.cls ≠ "java/lang/invoke/VarHandle" ∧ (parseMethodDescriptor yX10_firstFor.desc).map (fun d => d.parameters.length) = some 1 := ⟨rfl, nm_X10.1, nm_X10.2, pd_13⟩
theorem hd_X10_placeOf__1 : yX10_placeOf.cls = RX10 ∧ yX10_placeOf.cls ≠ "java/lang/invoke/MethodHandle" ∧ yX10_placeOf.cls ≠ "java/lang/invoke/VarHandle" ∧ (parseMethodDescriptor yX10_placeOf.desc).map (fun d => d.parameters.length) = some 1 := ⟨rfl, nm_X10.1, nm_X10.2, pd_10⟩
theorem pd_14 : (parseMethodDescriptor "(II)I").map (fun d => d.parameters.length) = some 2 := by decide +kernel
theorem hd_X11_about__2 : yX11_about.cls = RX11 ∧ yX11_about.cls ≠ "java/lang/invoke/MethodHandle" ∧ yX11_about.cls ≠ "java/lang/invoke/VarHandle" ∧ (parseMethodDescriptor yX11_about.desc).map (fun d => d.parameters.length) = some 2 := ⟨rfl, nm_X11.1, nm_X11.2, pd_14⟩
theorem hd_X11_answer__2 : yX11_answer.cls = RX11 ∧ yX11_answer.cls ≠ "java/lang/invoke/MethodHandle" ∧ yX11_answer.cls ≠ "java/lang/invoke/VarHandle" ∧ (parseMethodDescriptor yX11_answer.desc).map (fun d => d.parameters.length) = some 2 := ⟨rfl, nm_X11.1, nm_X11.2, pd_14⟩
theorem hd_X11_as__2 : yX11_as.cls = RX11 ∧ yX11_as.cls ≠ "java/lang/invoke/MethodHandle" ∧ yX11_as.cls ≠ "java/lang/invoke/VarHandle" ∧ (parseMethodDescriptor yX11_as.desc).map (fun d => d.parameters.length) = some 2 := ⟨rfl, nm_X11.1, nm_X11.2, pd_14⟩
theorem hd_X11_away__1 : yX11_away.cls = RX11 ∧ yX11_away.cls ≠ "java/lang/invoke/MethodHandle" ∧ yX11_away.cls ≠ "java/lang/invoke/VarHandle" ∧ (parseMethodDescriptor yX11_away.desc).map (fun d => d.parameters.length) = some 1 := ⟨rfl, nm_X11.1, nm_X11.2, pd_10⟩
theorem pd_15 : (parseMethodDescriptor "(III)I").map (fun d => d.parameters.length) = some 3 := by decide +kernel
theorem hd_X11_boat__3 : yX11_boat.cls = RX11 ∧ yX11_boat.cls ≠ "java/lang/invoke/MethodHandle" ∧ yX11_boat.cls ≠ "java/lang/invoke/VarHandle" ∧ (parseMethodDescriptor yX11_boat.desc).map (fun d => d.parameters.length) = some 3 := ⟨rfl, nm_X11.1, nm_X11.2, pd_15⟩
theorem pd_16 : (parseMethodDescriptor "(IIII)I").map (fun d => d.parameters.length) = some 4 := by decide +kernel
theorem hd_X11_buoy__4 : yX11_buoy.cls = RX11 ∧ yX11_buoy.cls ≠ "java/lang/invoke/MethodHandle" ∧ yX11_buoy.cls ≠ "java/lang/invoke/VarHandle" ∧ (parseMethodDescriptor yX11_buoy.desc).map (fun d => d.parameters.length) = some 4 := ⟨rfl, nm_X11.1, nm_X11.2, pd_16⟩
theorem hd_X11_check__0 : yX11_check.cls = RX11 ∧ yX11_check.cls ≠ "java/lang/invoke/MethodHandle" ∧ yX11_check.cls ≠ "java/lang/invoke/VarHandle" ∧ (parseMethodDescriptor yX11_check.desc).map (fun d => d.parameters.length) = some 0 := ⟨rfl, nm_X11.1, nm_X11.2, pd_5⟩
theorem hd_X11_content__1 : yX11_content.cls = RX11 ∧ yX11_content.cls ≠ "java/lang/invoke/MethodHandle" ∧ yX11_content.cls ≠ "java/lang/invoke/VarHandle" ∧ (parseMethodDescriptor yX11_content.desc).map (fun d => d.parameters.length) = some 1 := ⟨rfl, nm_X11.1, nm_X11.2, pd_10⟩
theorem hd_X11_count__1 : yX11_count.cls = RX11 ∧ yX11_count.cls ≠ "java/lang/invoke/MethodHandle" ∧ yX11_count.cls ≠ "java/lang/invoke/VarHandle" ∧ (parseMethodDescriptor yX11_count.desc).map (fun d => d.parameters.length) = some 1 := ⟨rfl, nm_X11.1, nm_X11.2, pd_10⟩
theorem hd_X11_dues__0 : yX11_dues.cls = RX11 ∧ yX11_dues.cls ≠ "java/lang/invoke/MethodHandle" ∧ yX11_dues.cls ≠ "java/lang/invoke/VarHandle" ∧ (parseMethodDescriptor yX11_dues.desc).map (fun d => d.parameters.length) = some 0 := ⟨rfl, nm_X11.1, nm_X11.2, pd_5⟩
theorem hd_X11_finding__1 : yX11_finding.cls = RX11 ∧ yX11_finding.cls ≠ "java/lang/invoke/MethodHandle" ∧ yX11_finding.cls ≠ "java/lang/invoke/VarHandle" ∧ (parseMethodDescriptor yX11_finding.desc).map (fun d => d.parameters.length) = some 1 := ⟨rfl, nm_X11.1, nm_X11.2, pd_10⟩
theorem hd_X11_fits__2 : yX11_fits.cls = RX11 ∧ yX11_fits.cls ≠ "java/lang/invoke/MethodHandle" ∧ yX11_fits.cls ≠ "java/lang/invoke/VarHandle" ∧ (parseMethodDescriptor yX11_fits.desc).map (fun d => d.parameters.length) = some 2 := ⟨rfl, nm_X11.1, nm_X11.2, pd_14⟩
theorem hd_X11_fled__2 : yX11_fled.cls = RX11 ∧ yX11_fled.cls ≠ "java/lang/invoke/MethodHandle" ∧ yX11_fled.cls ≠ "java/lang/invoke/VarHandle" ∧ (parseMethodDescriptor yX11_fled.desc).map (fun d => d.parameters.length) = some 2 := ⟨rfl, nm_X11.1, nm_X11.2, pd_14⟩
theorem hd_X11_found__1 : yX11_found.cls = RX11 ∧ yX11_found.cls ≠ "java/lang/invoke/MethodHandle" ∧ yX11_found.cls ≠ "java/lang/invoke/VarHandle" ∧ (parseMethodDescriptor yX11_found.desc).map (fun d => d.parameters.length) = some 1 := ⟨rfl, nm_X11.1, nm_X11.2, pd_10⟩
theorem hd_X11_leave__1 : yX11_leave.cls = RX11 ∧ yX11_leave.cls ≠ "java/lang/invoke/MethodHandle" ∧ yX11_leave.cls ≠ "java/lang/invoke/VarHandle" ∧ (parseMethodDescriptor yX11_leave.desc).map (fun d => d.parameters.length) = some 1 := ⟨rfl, nm_X11.1, nm_X11.2, pd_10⟩
theorem hd_X11_look__3 : yX11_look.cls = RX11 ∧ yX11_look.cls ≠ "java/lang/invoke/MethodHandle" ∧ yX11_look.cls ≠ "java/lang/invoke/VarHandle" ∧ (parseMethodDescriptor yX11_look.desc).map (fun d => d.parameters.length) = some 3 := ⟨rfl, nm_X11.1, nm_X11.2, pd_15⟩
theorem hd_X11_moor__2 : yX11_moor.cls = RX11 ∧ yX11_moor.cls ≠ "java/lang/invoke/MethodHandle" ∧ yX11_moor.cls ≠ "java/lang/invoke/VarHandle" ∧ (parseMethodDescriptor yX11_moor.desc).map (fun d => d.parameters.length) = some 2 := ⟨rfl, nm_X11.1, nm_X11.2, pd_14⟩
theorem hd_X11_most__2 : yX11_most.cls = RX11 ∧ yX11_most.cls ≠ "java/lang/invoke/MethodHandle" ∧ yX11_most.cls ≠ "java/lang/invoke/VarHandle" ∧ (parseMethodDescriptor yX11_most.desc).map (fun d => d.parameters.length) = some 2 := ⟨rfl, nm_X11.1, nm_X11.2, pd_14⟩
theorem hd_X11_next__0 : yX11_next.cls = RX11 ∧ yX11_next.cls ≠ "java/lang/invoke/MethodHandle" ∧ yX11_next.cls ≠ "java/lang/invoke/VarHandle" ∧ (parseMethodDescriptor yX11_next.desc).map (fun d => d.parameters.length) = some 0 := ⟨rfl, nm_X11.1, nm_X11.2, pd_5⟩
theorem hd_X11_of__2 : yX11_of.cls = RX11 ∧ yX11_of.cls ≠ "java/lang/invoke/MethodHandle" ∧ yX11_of.cls ≠ "java/lang/invoke/VarHandle" ∧ (parseMethodDescriptor yX11_of.desc).map (fun d => d.parameters.length) = some 2 := ⟨rfl, nm_X11.1, nm_X11.2, pd_14⟩
theorem hd_X11_offer__1 : yX11_offer.cls = RX11 ∧ yX11_offer.cls ≠ "java/lang/invoke/MethodHandle" ∧ yX11_offer.cls ≠ "java/lang/invoke/VarHandle" ∧ (parseMethodDescriptor yX11_offer.desc).map (fun d => d.parameters.length) = some 1 := ⟨rfl, nm_X11.1, nm_X11.2, pd_10⟩
theorem hd_X11_offeredBoat__1 : yX11_offeredBoat.cls = RX11 ∧ yX11_offeredBoat.cls ≠ "java/lang/invoke/MethodHandle" ∧ yX11_offeredBoat.cls ≠ "java/lang/invoke/VarHandle" ∧ (parseMethodDescriptor yX11_offeredBoat.desc).map (fun d => d.parameters.length) = some 1 := ⟨rfl, nm_X11.1, nm_X11.2, pd_10⟩
theorem hd_X11_out__3 : yX11_out.cls = RX11 ∧ yX11_out.cls ≠ "java/lang/invoke/MethodHandle" ∧ yX11_out.cls ≠ "java/lang/invoke/VarHandle" ∧ (parseMethodDescriptor yX11_out.desc).map (fun d => d.parameters.length) = some 3 := ⟨rfl, nm_X11.1, nm_X11.2, pd_15⟩
theorem hd_X11_rate__1 : yX11_rate.cls = RX11 ∧ yX11_rate.cls ≠ "java/lang/invoke/MethodHandle" ∧ yX11_rate.cls ≠ "java/lang/invoke/VarHandle" ∧ (parseMethodDescriptor yX11_rate.desc).map (fun d => d.parameters.length) = some 1 := ⟨rfl, nm_X11.1, nm_X11.2, pd_10⟩
theorem hd_X11_rather__2 : yX11_rather.cls = RX11 ∧ yX11_rather.cls ≠ "java/lang/invoke/MethodHandle" ∧ yX11_rather.cls ≠ "java/lang/invoke/VarHandle" ∧ (parseMethodDescriptor yX11_rather.desc).map (fun d => d.parameters.length) = some 2 := ⟨rfl, nm_X11.1, nm_X11.2, pd_14⟩
theorem hd_X11_renew__1 : yX11_renew.cls = RX11 ∧ yX11_renew.cls ≠ "java/lang/invoke/MethodHandle" ∧ yX11_renew.cls ≠ "java/lang/invoke/VarHandle" ∧ (parseMethodDescriptor yX11_renew.desc).map (fun d => d.parameters.length) = some 1 := ⟨rfl, nm_X11.1, nm_X11.2, pd_10⟩
theorem hd_X11_ring__1 : yX11_ring.cls = RX11 ∧ yX11_ring.cls ≠ "java/lang/invoke/MethodHandle" ∧ yX11_ring.cls ≠ "java/lang/invoke/VarHandle" ∧ (parseMethodDescriptor yX11_ring.desc).map (fun d => d.parameters.length) = some 1 := ⟨rfl, nm_X11.1, nm_X11.2, pd_10⟩
theorem hd_X11_stays__1 : yX11_stays.cls = RX11 ∧ yX11_stays.cls ≠ "java/lang/invoke/MethodHandle" ∧ yX11_stays.cls ≠ "java/lang/invoke/VarHandle" ∧ (parseMethodDescriptor yX11_stays.desc).map (fun d => d.parameters.length) = some 1 := ⟨rfl, nm_X11.1, nm_X11.2, pd_10⟩
theorem hd_X11_storm__1 : yX11_storm.cls = RX11 ∧ yX11_storm.cls ≠ "java/lang/invoke/MethodHandle" ∧ yX11_storm.cls ≠ "java/lang/invoke/VarHandle" ∧ (parseMethodDescriptor yX11_storm.desc).map (fun d => d.parameters.length) = some 1 := ⟨rfl, nm_X11.1, nm_X11.2, pd_10⟩
theorem hd_X11_swap__0 : yX11_swap.cls = RX11 ∧ yX11_swap.cls ≠ "java/lang/invoke/MethodHandle" ∧ yX11_swap.cls ≠ "java/lang/invoke/VarHandle" ∧ (parseMethodDescriptor yX11_swap.desc).map (fun d => d.parameters.length) = some 0 := ⟨rfl, nm_X11.1, nm_X11.2, pd_5⟩
theorem hd_X11_tell__1 : yX11_tell.cls = RX11 ∧ yX11_tell.cls ≠ "java/lang/invoke/MethodHandle" ∧ yX11_tell.cls ≠ "java/lang/invoke/VarHandle" ∧ (parseMethodDescriptor yX11_tell.desc).map (fun d => d.parameters.length) = some 1 := ⟨rfl, nm_X11.1, nm_X11.2, pd_10⟩
theorem hd_X11_tide__2 : yX11_tide.cls = RX11 ∧ yX11_tide.cls ≠ "java/lang/invoke/MethodHandle" ∧ yX11_tide.cls ≠ "java/lang/invoke/VarHandle" ∧ (parseMethodDescriptor yX11_tide.desc).map (fun d => d.parameters.length) = some 2 := ⟨rfl, nm_X11.1, nm_X11.2, pd_14⟩
theorem hd_X11_touch__4 : yX11_touch.cls = RX11 ∧ yX11_touch.cls ≠ "java/lang/invoke/MethodHandle" ∧ yX11_touch.cls ≠ "java/lang/invoke/VarHandle" ∧ (parseMethodDescriptor yX11_touch.desc).map (fun d => d.parameters.length) = some 4 := ⟨rfl, nm_X11.1, nm_X11.2, pd_16⟩
theorem hd_X11_wait__1 : yX11_wait.cls = RX11 ∧ yX11_wait.cls ≠ "java/lang/invoke/MethodHandle" ∧ yX11_wait.cls ≠ "java/lang/invoke/VarHandle" ∧ (parseMethodDescriptor yX11_wait.desc).map (fun d => d.parameters.length) = some 1 := ⟨rfl, nm_X11.1, nm_X11.2, pd_10⟩
theorem hd_X11_winds__1 : yX11_winds.cls = RX11 ∧ yX11_winds.cls ≠ "java/lang/invoke/MethodHandle" ∧ yX11_winds.cls ≠ "java/lang/invoke/VarHandle" ∧ (parseMethodDescriptor yX11_winds.desc).map (fun d => d.parameters.length) = some 1 := ⟨rfl, nm_X11.1, nm_X11.2, pd_10⟩
theorem hd_X11_years__1 : yX11_years.cls = RX11 ∧ yX11_years.cls ≠ "java/lang/invoke/MethodHandle" ∧ yX11_years.cls ≠ "java/lang/invoke/VarHandle" ∧ (parseMethodDescriptor yX11_years.desc).map (fun d => d.parameters.length) = some 1 := ⟨rfl, nm_X11.1, nm_X11.2, pd_10⟩
theorem hd_X12_about__2 : yX12_about.cls = RX12 ∧ yX12_about.cls ≠ "java/lang/invoke/MethodHandle" ∧ yX12_about.cls ≠ "java/lang/invoke/VarHandle" ∧ (parseMethodDescriptor yX12_about.desc).map (fun d => d.parameters.length) = some 2 := ⟨rfl, nm_X12.1, nm_X12.2, pd_14⟩
theorem hd_X12_answer__2 : yX12_answer.cls = RX12 ∧ yX12_answer.cls ≠ "java/lang/invoke/MethodHandle" ∧ yX12_answer.cls ≠ "java/lang/invoke/VarHandle" ∧ (parseMethodDescriptor yX12_answer.desc).map (fun d => d.parameters.length) = some 2 := ⟨rfl, nm_X12.1, nm_X12.2, pd_14⟩
theorem hd_X12_as__2 : yX12_as.cls = RX12 ∧ yX12_as.cls ≠ "java/lang/invoke/MethodHandle" ∧ yX12_as.cls ≠ "java/lang/invoke/VarHandle" ∧ (parseMethodDescriptor yX12_as.desc).map (fun d => d.parameters.length) = some 2 := ⟨rfl, nm_X12.1, nm_X12.2, pd_14⟩
theorem hd_X12_away__1 : yX12_away.cls = RX12 ∧ yX12_away.cls ≠ "java/lang/invoke/MethodHandle" ∧ yX12_away.cls ≠ "java/lang/invoke/VarHandle" ∧ (parseMethodDescriptor yX12_away.desc).map (fun d => d.parameters.length) = some 1 := ⟨rfl, nm_X12.1, nm_X12.2, pd_10⟩
theorem hd_X12_boat__3 : yX12_boat.cls = RX12 ∧ yX12_boat.cls ≠ "java/lang/invoke/MethodHandle" ∧ yX12_boat.cls ≠ "java/lang/invoke/VarHandle" ∧ (parseMethodDescriptor yX12_boat.desc).map (fun d => d.parameters.length) = some 3 := ⟨rfl, nm_X12.1, nm_X12.2, pd_15⟩
theorem hd_X12_buoy__4 : yX12_buoy.cls = RX12 ∧ yX12_buoy.cls ≠ "java/lang/invoke/MethodHandle" ∧ yX12_buoy.cls ≠ "java/lang/invoke/VarHandle" ∧ (parseMethodDescriptor yX12_buoy.desc).map (fun d => d.parameters.length) = some 4 := ⟨rfl, nm_X12.1, nm_X12.2, pd_16⟩
theorem pd_17 : (parseMethodDescriptor "(II)Z").map (fun d => d.parameters.length) = some 2 := by decide +kernel
theorem hd_X12_canFit__2 : yX12_canFit.cls = RX12 ∧ yX12_canFit.cls ≠ "java/lang/invoke/MethodHandle" ∧ yX12_canFit.cls ≠ "java/lang/invoke/VarHandle" ∧ (parseMethodDescriptor yX12_canFit.desc).map (fun d => d.parameters.length) = some 2 := ⟨rfl, nm_X12.1, nm_X12.2, pd_17⟩
theorem hd_X12_canHave__2 : yX12_canHave.cls = RX12 ∧ yX12_canHave.cls ≠ "java/lang/invoke/MethodHandle" ∧ yX12_canHave.cls ≠ "java/lang/invoke/VarHandle" ∧ (parseMethodDescriptor yX12_canHave.desc).map (fun d => d.parameters.length) = some 2 := ⟨rfl, nm_X12.1, nm_X12.2, pd_17⟩
theorem hd_X12_check__0 : yX12_check.cls = RX12 ∧ yX12_check.cls ≠ "java/lang/invoke/MethodHandle" ∧ yX12_check.cls ≠ "java/lang/invoke/VarHandle" ∧ (parseMethodDescriptor yX12_check.desc).map (fun d => d.parameters.length) = some 0 := ⟨rfl, nm_X12.1, nm_X12.2, pd_5⟩
theorem hd_X12_content__1 : yX12_content.cls = RX12 ∧ yX12_content.cls ≠ "java/lang/invoke/MethodHandle" ∧ yX12_content.cls ≠ "java/lang/invoke/VarHandle" ∧ (parseMethodDescriptor yX12_content.desc).map (fun d => d.parameters.length) = some 1 := ⟨rfl, nm_X12.1, nm_X12.2, pd_10⟩
theorem hd_X12_count__1 : yX12_count.cls = RX12 ∧ yX12_count.cls ≠ "java/lang/invoke/MethodHandle" ∧ yX12_count.cls ≠ "java/lang/invoke/VarHandle" ∧ (parseMethodDescriptor yX12_count.desc).map (fun d => d.parameters.length) = some 1 := ⟨rfl, nm_X12.1, nm_X12.2, pd_10⟩
theorem hd_X12_dues__0 : yX12_dues.cls = RX12 ∧ yX12_dues.cls ≠ "java/lang/invoke/MethodHandle" ∧ yX12_dues.cls ≠ "java/lang/invoke/VarHandle" ∧ (parseMethodDescriptor yX12_dues.desc).map (fun d => d.parameters.length) = some 0 := ⟨rfl, nm_X12.1, nm_X12.2, pd_5⟩
theorem hd_X12_duesOf__1 : yX12_duesOf.cls = RX12 ∧ yX12_duesOf.cls ≠ "java/lang/invoke/MethodHandle" ∧ yX12_duesOf.cls ≠ "java/lang/invoke/VarHandle" ∧ (parseMethodDescriptor yX12_duesOf.desc).map (fun d => d.parameters.length) = some 1 := ⟨rfl, nm_X12.1, nm_X12.2, pd_10⟩
theorem hd_X12_findMay__0 : yX12_findMay.cls = RX12 ∧ yX12_findMay.cls ≠ "java/lang/invoke/MethodHandle" ∧ yX12_findMay.cls ≠ "java/lang/invoke/VarHandle" ∧ (parseMethodDescriptor yX12_findMay.desc).map (fun d => d.parameters.length) = some 0 := ⟨rfl, nm_X12.1, nm_X12.2, pd_3⟩
theorem hd_X12_findMost__0 : yX12_findMost.cls = RX12 ∧ yX12_findMost.cls ≠ "java/lang/invoke/MethodHandle" ∧ yX12_findMost.cls ≠ "java/lang/invoke/VarHandle" ∧ (parseMethodDescriptor yX12_findMost.desc).map (fun d => d.parameters.length) = some 0 := ⟨rfl, nm_X12.1, nm_X12.2, pd_3⟩
theorem hd_X12_findRings__0 : yX12_findRings.cls = RX12 ∧ yX12_findRings.cls ≠ "java/lang/invoke/MethodHandle" ∧ yX12_findRings.cls ≠ "java/lang/invoke/VarHandle" ∧ (parseMethodDescriptor yX12_findRings.desc).map (fun d => d.parameters.length) = some 0 := ⟨rfl, nm_X12.1, nm_X12.2, pd_3⟩
theorem hd_X12_finding__1 : yX12_finding.cls = RX12 ∧ yX12_finding.cls ≠ "java/lang/invoke/MethodHandle" ∧ yX12_finding.cls ≠ "java/lang/invoke/VarHandle" ∧ (parseMethodDescriptor yX12_finding.desc).map (fun d => d.parameters.length) = some 1 := ⟨rfl, nm_X12.1, nm_X12.2, pd_10⟩
theorem hd_X12_firstTouch__4 : yX12_firstTouch.cls = RX12 ∧ yX12_firstTouch.cls ≠ "java/lang/invoke/MethodHandle" ∧ yX12_firstTouch.cls ≠ "java/lang/invoke/VarHandle" ∧ (parseMethodDescriptor yX12_firstTouch.desc).map (fun d => d.parameters.length) = some 4 := ⟨rfl, nm_X12.1, nm_X12.2, pd_16⟩
theorem hd_X12_fits__2 : yX12_fits.cls = RX12 ∧ yX12_fits.cls ≠ "java/lang/invoke/MethodHandle" ∧ yX12_fits.cls ≠ "java/lang/invoke/VarHandle" ∧ (parseMethodDescriptor yX12_fits.desc).map (fun d => d.parameters.length) = some 2 := ⟨rfl, nm_X12.1, nm_X12.2, pd_14⟩
theorem hd_X12_fled__2 : yX12_fled.cls = RX12 ∧ yX12_fled.cls ≠ "java/lang/invoke/MethodHandle" ∧ yX12_fled.cls ≠ "java/lang/invoke/VarHandle" ∧ (parseMethodDescriptor yX12_fled.desc).map (fun d => d.parameters.length) = some 2 := ⟨rfl, nm_X12.1, nm_X12.2, pd_14⟩
theorem hd_X12_flee__1 : yX12_flee.cls = RX12 ∧ yX12_flee.cls ≠ "java/lang/invoke/MethodHandle" ∧ yX12_flee.cls ≠ "java/lang/invoke/VarHandle" ∧ (parseMethodDescriptor yX12_flee.desc).map (fun d => d.parameters.length) = some 1 := ⟨rfl, nm_X12.1, nm_X12.2, pd_10⟩
theorem hd_X12_found__1 : yX12_found.cls = RX12 ∧ yX12_found.cls ≠ "java/lang/invoke/MethodHandle" ∧ yX12_found.cls ≠ "java/lang/invoke/VarHandle" ∧ (parseMethodDescriptor yX12_found.desc).map (fun d => d.parameters.length) = some 1 := ⟨rfl, nm_X12.1, nm_X12.2, pd_10⟩
theorem hd_X12_goesOff__1 : yX12_goesOff.cls = RX12 ∧ yX12_goesOff.cls ≠ "java/lang/invoke/MethodHandle" ∧ yX12_goesOff.cls ≠ "java/lang/invoke/VarHandle" ∧ (parseMethodDescriptor yX12_goesOff.desc).map (fun d => d.parameters.length) = some 1 := ⟨rfl, nm_X12.1, nm_X12.2, pd_12⟩
theorem pd_18 : (parseMethodDescriptor "(III)Z").map (fun d => d.parameters.length) = some 3 := by decide +kernel
theorem hd_X12_holds__3 : yX12_holds.cls = RX12 ∧ yX12_holds.cls ≠ "java/lang/invoke/MethodHandle" ∧ yX12_holds.cls ≠ "java/lang/invoke/VarHandle" ∧ (parseMethodDescriptor yX12_holds.desc).map (fun d => d.parameters.length) = some 3 := ⟨rfl, nm_X12.1, nm_X12.2, pd_18⟩
theorem hd_X12_isBoat__1 : yX12_isBoat.cls = RX12 ∧ yX12_isBoat.cls ≠ "java/lang/invoke/MethodHandle" ∧ yX12_isBoat.cls ≠ "java/lang/invoke/VarHandle" ∧ (parseMethodDescriptor yX12_isBoat.desc).map (fun d => d.parameters.length) = some 1 := ⟨rfl, nm_X12.1, nm_X12.2, pd_0⟩
theorem hd_X12_isBuoy__1 : yX12_isBuoy.cls = RX12 ∧ yX12_isBuoy.cls ≠ "java/lang/invoke/MethodHandle" ∧ yX12_isBuoy.cls ≠ "java/lang/invoke/VarHandle" ∧ (parseMethodDescriptor yX12_isBuoy.desc).map (fun d => d.parameters.length) = some 1 := ⟨rfl, nm_X12.1, nm_X12.2, pd_0⟩
theorem hd_X12_isParted__1 : yX12_isParted.cls = RX12 ∧ yX12_isParted.cls ≠ "java/lang/invoke/MethodHandle" ∧ yX12_isParted.cls ≠ "java/lang/invoke/VarHandle" ∧ (parseMethodDescriptor yX12_isParted.desc).map (fun d => d.parameters.length) = some 1 := ⟨rfl, nm_X12.1, nm_X12.2, pd_0⟩
theorem hd_X12_isRound__1 : yX12_isRound.cls = RX12 ∧ yX12_isRound.cls ≠ "java/lang/invoke/MethodHandle" ∧ yX12_isRound.cls ≠ "java/lang/invoke/VarHandle" ∧ (parseMethodDescriptor yX12_isRound.desc).map (fun d => d.parameters.length) = some 1 := ⟨rfl, nm_X12.1, nm_X12.2, pd_0⟩
theorem hd_X12_isThere__1 : yX12_isThere.cls = RX12 ∧ yX12_isThere.cls ≠ "java/lang/invoke/MethodHandle" ∧ yX12_isThere.cls ≠ "java/lang/invoke/VarHandle" ∧ (parseMethodDescriptor yX12_isThere.desc).map (fun d => d.parameters.length) = some 1 := ⟨rfl, nm_X12.1, nm_X12.2, pd_0⟩
theorem hd_X12_leave__1 : yX12_leave.cls = RX12 ∧ yX12_leave.cls ≠ "java/lang/invoke/MethodHandle" ∧ yX12_leave.cls ≠ "java/lang/invoke/VarHandle" ∧ (parseMethodDescriptor yX12_leave.desc).map (fun d => d.parameters.length) = some 1 := ⟨rfl, nm_X12.1, nm_X12.2, pd_10⟩
theorem hd_X12_lies__2 : yX12_lies.cls = RX12 ∧ yX12_lies.cls ≠ "java/lang/invoke/MethodHandle" ∧ yX12_lies.cls ≠ "java/lang/invoke/VarHandle" ∧ (parseMethodDescriptor yX12_lies.desc).map (fun d => d.parameters.length) = some 2 := ⟨rfl, nm_X12.1, nm_X12.2, pd_8⟩
theorem hd_X12_look__3 : yX12_look.cls = RX12 ∧ yX12_look.cls ≠ "java/lang/invoke/MethodHandle" ∧ yX12_look.cls ≠ "java/lang/invoke/VarHandle" ∧ (parseMethodDescriptor yX12_look.desc).map (fun d => d.parameters.length) = some 3 := ⟨rfl, nm_X12.1, nm_X12.2, pd_15⟩
theorem pd_19 : (parseMethodDescriptor "(II[I)Z").map (fun d => d.parameters.length) = some 3 := by decide +kernel
theorem hd_X12_mayLie__3 : yX12_mayLie.cls = RX12 ∧ yX12_mayLie.cls ≠ "java/lang/invoke/MethodHandle" ∧ yX12_mayLie.cls ≠ "java/lang/invoke/VarHandle" ∧ (parseMethodDescriptor yX12_mayLie.desc).map (fun d => d.parameters.length) = some 3 := ⟨rfl, nm_X12.1, nm_X12.2, pd_19⟩
theorem pd_20 : (parseMethodDescriptor "(IIIIII)Z").map (fun d => d.parameters.length) = some 6 := by decide +kernel
theorem hd_X12_meet__6 : yX12_meet.cls = RX12 ∧ yX12_meet.cls ≠ "java/lang/invoke/MethodHandle" ∧ yX12_meet.cls ≠ "java/lang/invoke/VarHandle" ∧ (parseMethodDescriptor yX12_meet.desc).map (fun d => d.parameters.length) = some 6 := ⟨rfl, nm_X12.1, nm_X12.2, pd_20⟩
theorem hd_X12_moor__2 : yX12_moor.cls = RX12 ∧ yX12_moor.cls ≠ "java/lang/invoke/MethodHandle" ∧ yX12_moor.cls ≠ "java/lang/invoke/VarHandle" ∧ (parseMethodDescriptor yX12_moor.desc).map (fun d => d.parameters.length) = some 2 := ⟨rfl, nm_X12.1, nm_X12.2, pd_14⟩
theorem hd_X12_most__2 : yX12_most.cls = RX12 ∧ yX12_most.cls ≠ "java/lang/invoke/MethodHandle" ∧ yX12_most.cls ≠ "java/lang/invoke/VarHandle" ∧ (parseMethodDescriptor yX12_most.desc).map (fun d => d.parameters.length) = some 2 := ⟨rfl, nm_X12.1, nm_X12.2, pd_14⟩
theorem hd_X12_next__0 : yX12_next.cls = RX12 ∧ yX12_next.cls ≠ "java/lang/invoke/MethodHandle" ∧ yX12_next.cls ≠ "java/lang/invoke/VarHandle" ∧ (parseMethodDescriptor yX12_next.desc).map (fun d => d.parameters.length) = some 0 := ⟨rfl, nm_X12.1, nm_X12.2, pd_5⟩
theorem hd_X12_of__2 : yX12_of.cls = RX12 ∧ yX12_of.cls ≠ "java/lang/invoke/MethodHandle" ∧ yX12_of.cls ≠ "java/lang/invoke/VarHandle" ∧ (parseMethodDescriptor yX12_of.desc).map (fun d => d.parameters.length) = some 2 := ⟨rfl, nm_X12.1, nm_X12.2, pd_14⟩
theorem hd_X12_offer__1 : yX12_offer.cls = RX12 ∧ yX12_offer.cls ≠ "java/lang/invoke/MethodHandle" ∧ yX12_offer.cls ≠ "java/lang/invoke/VarHandle" ∧ (parseMethodDescriptor yX12_offer.desc).map (fun d => d.parameters.length) = some 1 := ⟨rfl, nm_X12.1, nm_X12.2, pd_10⟩
theorem hd_X12_offeredTo__1 : yX12_offeredTo.cls = RX12 ∧ yX12_offeredTo.cls ≠ "java/lang/invoke/MethodHandle" ∧ yX12_offeredTo.cls ≠ "java/lang/invoke/VarHandle" ∧ (parseMethodDescriptor yX12_offeredTo.desc).map (fun d => d.parameters.length) = some 1 := ⟨rfl, nm_X12.1, nm_X12.2, pd_10⟩
theorem hd_X12_out__3 : yX12_out.cls = RX12 ∧ yX12_out.cls ≠ "java/lang/invoke/MethodHandle" ∧ yX12_out.cls ≠ "java/lang/invoke/VarHandle" ∧ (parseMethodDescriptor yX12_out.desc).map (fun d => d.parameters.length) = some 3 := ⟨rfl, nm_X12.1, nm_X12.2, pd_15⟩
theorem hd_X12_partedMany__0 : yX12_partedMany.cls = RX12 ∧ yX12_partedMany.cls ≠ "java/lang/invoke/MethodHandle" ∧ yX12_partedMany.cls ≠ "java/lang/invoke/VarHandle" ∧ (parseMethodDescriptor yX12_partedMany.desc).map (fun d => d.parameters.length) = some 0 := ⟨rfl, nm_X12.1, nm_X12.2, pd_5⟩
theorem hd_X12_placeOnList__1 : yX12_placeOnList.cls = RX12 ∧ yX12_placeOnList.cls ≠ "java/lang/invoke/MethodHandle" ∧ yX12_placeOnList.cls ≠ "java/lang/invoke/VarHandle" ∧ (parseMethodDescriptor yX12_placeOnList.desc).map (fun d => d.parameters.length) = some 1 := ⟨rfl, nm_X12.1, nm_X12.2, pd_10⟩
theorem hd_X12_pointed__1 : yX12_pointed.cls = RX12 ∧ yX12_pointed.cls ≠ "java/lang/invoke/MethodHandle" ∧ yX12_pointed.cls ≠ "java/lang/invoke/VarHandle" ∧ (parseMethodDescriptor yX12_pointed.desc).map (fun d => d.parameters.length) = some 1 := ⟨rfl, nm_X12.1, nm_X12.2, pd_10⟩
theorem hd_X12_rate__1 : yX12_rate.cls = RX12 ∧ yX12_rate.cls ≠ "java/lang/invoke/MethodHandle" ∧ yX12_rate.cls ≠ "java/lang/invoke/VarHandle" ∧ (parseMethodDescriptor yX12_rate.desc).map (fun d => d.parameters.length) = some 1 := ⟨rfl, nm_X12.1, nm_X12.2, pd_10⟩
theorem hd_X12_rather__2 : yX12_rather.cls = RX12 ∧ yX12_rather.cls ≠ "java/lang/invoke/MethodHandle" ∧ yX12_rather.cls ≠ "java/lang/invoke/VarHandle" ∧ (parseMethodDescriptor yX12_rather.desc).map (fun d => d.parameters.length) = some 2 := ⟨rfl, nm_X12.1, nm_X12.2, pd_14⟩
theorem hd_X12_reachOf__1 : yX12_reachOf.cls = RX12 ∧ yX12_reachOf.cls ≠ "java/lang/invoke/MethodHandle" ∧ yX12_reachOf.cls ≠ "java/lang/invoke/VarHandle" ∧ (parseMethodDescriptor yX12_reachOf.desc).map (fun d => d.parameters.length) = some 1 := ⟨rfl, nm_X12.1, nm_X12.2, pd_10⟩
theorem hd_X12_renew__1 : yX12_renew.cls = RX12 ∧ yX12_renew.cls ≠ "java/lang/invoke/MethodHandle" ∧ yX12_renew.cls ≠ "java/lang/invoke/VarHandle" ∧ (parseMethodDescriptor yX12_renew.desc).map (fun d => d.parameters.length) = some 1 := ⟨rfl, nm_X12.1, nm_X12.2, pd_10⟩
theorem hd_X12_ring__1 : yX12_ring.cls = RX12 ∧ yX12_ring.cls ≠ "java/lang/invoke/MethodHandle" ∧ yX12_ring.cls ≠ "java/lang/invoke/VarHandle" ∧ (parseMethodDescriptor yX12_ring.desc).map (fun d => d.parameters.length) = some 1 := ⟨rfl, nm_X12.1, nm_X12.2, pd_10⟩
theorem hd_X12_slackOf__2 : yX12_slackOf.cls = RX12 ∧ yX12_slackOf.cls ≠ "java/lang/invoke/MethodHandle" ∧ yX12_slackOf.cls ≠ "java/lang/invoke/VarHandle" ∧ (parseMethodDescriptor yX12_slackOf.desc).map (fun d => d.parameters.length) = some 2 := ⟨rfl, nm_X12.1, nm_X12.2, pd_14⟩
theorem hd_X12_stays__1 : yX12_stays.cls = RX12 ∧ yX12_stays.cls ≠ "java/lang/invoke/MethodHandle" ∧ yX12_stays.cls ≠ "java/lang/invoke/VarHandle" ∧ (parseMethodDescriptor yX12_stays.desc).map (fun d => d.parameters.length) = some 1 := ⟨rfl, nm_X12.1, nm_X12.2, pd_10⟩
theorem hd_X12_storm__1 : yX12_storm.cls = RX12 ∧ yX12_storm.cls ≠ "java/lang/invoke/MethodHandle" ∧ yX12_storm.cls ≠ "java/lang/invoke/VarHandle" ∧ (parseMethodDescriptor yX12_storm.desc).map (fun d => d.parameters.length) = some 1 := ⟨rfl, nm_X12.1, nm_X12.2, pd_10⟩
theorem hd_X12_swap__0 : yX12_swap.cls = RX12 ∧ yX12_swap.cls ≠ "java/lang/invoke/MethodHandle" ∧ yX12_swap.cls ≠ "java/lang/invoke/VarHandle" ∧ (parseMethodDescriptor yX12_swap.desc).map (fun d => d.parameters.length) = some 0 := ⟨rfl, nm_X12.1, nm_X12.2, pd_5⟩
theorem hd_X12_tell__1 : yX12_tell.cls = RX12 ∧ yX12_tell.cls ≠ "java/lang/invoke/MethodHandle" ∧ yX12_tell.cls ≠ "java/lang/invoke/VarHandle" ∧ (parseMethodDescriptor yX12_tell.desc).map (fun d => d.parameters.length) = some 1 := ⟨rfl, nm_X12.1, nm_X12.2, pd_10⟩
theorem hd_X12_tide__2 : yX12_tide.cls = RX12 ∧ yX12_tide.cls ≠ "java/lang/invoke/MethodHandle" ∧ yX12_tide.cls ≠ "java/lang/invoke/VarHandle" ∧ (parseMethodDescriptor yX12_tide.desc).map (fun d => d.parameters.length) = some 2 := ⟨rfl, nm_X12.1, nm_X12.2, pd_14⟩
theorem hd_X12_touch__4 : yX12_touch.cls = RX12 ∧ yX12_touch.cls ≠ "java/lang/invoke/MethodHandle" ∧ yX12_touch.cls ≠ "java/lang/invoke/VarHandle" ∧ (parseMethodDescriptor yX12_touch.desc).map (fun d => d.parameters.length) = some 4 := ⟨rfl, nm_X12.1, nm_X12.2, pd_16⟩
theorem pd_21 : (parseMethodDescriptor "(IIIII)Z").map (fun d => d.parameters.length) = some 5 := by decide +kernel
theorem hd_X12_touchAt__5 : yX12_touchAt.cls = RX12 ∧ yX12_touchAt.cls ≠ "java/lang/invoke/MethodHandle" ∧ yX12_touchAt.cls ≠ "java/lang/invoke/VarHandle" ∧ (parseMethodDescriptor yX12_touchAt.desc).map (fun d => d.parameters.length) = some 5 := ⟨rfl, nm_X12.1, nm_X12.2, pd_21⟩
theorem hd_X12_touchingOf__3 : yX12_touchingOf.cls = RX12 ∧ yX12_touchingOf.cls ≠ "java/lang/invoke/MethodHandle" ∧ yX12_touchingOf.cls ≠ "java/lang/invoke/VarHandle" ∧ (parseMethodDescriptor yX12_touchingOf.desc).map (fun d => d.parameters.length) = some 3 := ⟨rfl, nm_X12.1, nm_X12.2, pd_15⟩
theorem hd_X12_wait__1 : yX12_wait.cls = RX12 ∧ yX12_wait.cls ≠ "java/lang/invoke/MethodHandle" ∧ yX12_wait.cls ≠ "java/lang/invoke/VarHandle" ∧ (parseMethodDescriptor yX12_wait.desc).map (fun d => d.parameters.length) = some 1 := ⟨rfl, nm_X12.1, nm_X12.2, pd_10⟩
theorem hd_X12_winds__1 : yX12_winds.cls = RX12 ∧ yX12_winds.cls ≠ "java/lang/invoke/MethodHandle" ∧ yX12_winds.cls ≠ "java/lang/invoke/VarHandle" ∧ (parseMethodDescriptor yX12_winds.desc).map (fun d => d.parameters.length) = some 1 := ⟨rfl, nm_X12.1, nm_X12.2, pd_10⟩
theorem hd_X12_years__1 : yX12_years.cls = RX12 ∧ yX12_years.cls ≠ "java/lang/invoke/MethodHandle" ∧ yX12_years.cls ≠ "java/lang/invoke/VarHandle" ∧ (parseMethodDescriptor yX12_years.desc).map (fun d => d.parameters.length) = some 1 := ⟨rfl, nm_X12.1, nm_X12.2, pd_10⟩
theorem hd_X3_doubt__0 : yX3_doubt.cls = RX3 ∧ yX3_doubt.cls ≠ "java/lang/invoke/MethodHandle" ∧ yX3_doubt.cls ≠ "java/lang/invoke/VarHandle" ∧ (parseMethodDescriptor yX3_doubt.desc).map (fun d => d.parameters.length) = some 0 := ⟨rfl, nm_X3.1, nm_X3.2, pd_5⟩
theorem hd_X3_flood__2 : yX3_flood.cls = RX3 ∧ yX3_flood.cls ≠ "java/lang/invoke/MethodHandle" ∧ yX3_flood.cls ≠ "java/lang/invoke/VarHandle" ∧ (parseMethodDescriptor yX3_flood.desc).map (fun d => d.parameters.length) = some 2 := ⟨rfl, nm_X3.1, nm_X3.2, pd_8⟩
theorem pd_22 : (parseMethodDescriptor "(LBayMoorings$Boat;I)Z").map (fun d => d.parameters.length) = some 2 := by decide +kernel
theorem hd_X3_holds__2 : yX3_holds.cls = RX3 ∧ yX3_holds.cls ≠ "java/lang/invoke/MethodHandle" ∧ yX3_holds.cls ≠ "java/lang/invoke/VarHandle" ∧ (parseMethodDescriptor yX3_holds.desc).map (fun d => d.parameters.length) = some 2 := ⟨rfl, nm_X3.1, nm_X3.2, pd_22⟩
theorem pd_23 : (parseMethodDescriptor "()Z").map (fun d => d.parameters.length) = some 0 := by decide +kernel
theorem hd_X3_isParted__0 : yX3_isParted.cls = RX3 ∧ yX3_isParted.cls ≠ "java/lang/invoke/MethodHandle" ∧ yX3_isParted.cls ≠ "java/lang/invoke/VarHandle" ∧ (parseMethodDescriptor yX3_isParted.desc).map (fun d => d.parameters.length) = some 0 := ⟨rfl, nm_X3.1, nm_X3.2, pd_23⟩
theorem hd_X3_slackAt__1 : yX3_slackAt.cls = RX3 ∧ yX3_slackAt.cls ≠ "java/lang/invoke/MethodHandle" ∧ yX3_slackAt.cls ≠ "java/lang/invoke/VarHandle" ∧ (parseMethodDescriptor yX3_slackAt.desc).map (fun d => d.parameters.length) = some 1 := ⟨rfl, nm_X3.1, nm_X3.2, pd_10⟩
theorem pd_24 : (parseMethodDescriptor "(Z)V").map (fun d => d.parameters.length) = some 1 := by decide +kernel
theorem hd_X3_wear__1 : yX3_wear.cls = RX3 ∧ yX3_wear.cls ≠ "java/lang/invoke/MethodHandle" ∧ yX3_wear.cls ≠ "java/lang/invoke/VarHandle" ∧ (parseMethodDescriptor yX3_wear.desc).map (fun d => d.parameters.length) = some 1 := ⟨rfl, nm_X3.1, nm_X3.2, pd_24⟩
theorem hd_X5_blow__1 : yX5_blow.cls = RX5 ∧ yX5_blow.cls ≠ "java/lang/invoke/MethodHandle" ∧ yX5_blow.cls ≠ "java/lang/invoke/VarHandle" ∧ (parseMethodDescriptor yX5_blow.desc).map (fun d => d.parameters.length) = some 1 := ⟨rfl, nm_X5.1, nm_X5.2, pd_12⟩
theorem pd_25 : (parseMethodDescriptor "(LBayMoorings$Boat;I)I").map (fun d => d.parameters.length) = some 2 := by decide +kernel
theorem hd_X5_refugeOf__2 : yX5_refugeOf.cls = RX5 ∧ yX5_refugeOf.cls ≠ "java/lang/invoke/MethodHandle" ∧ yX5_refugeOf.cls ≠ "java/lang/invoke/VarHandle" ∧ (parseMethodDescriptor yX5_refugeOf.desc).map (fun d => d.parameters.length) = some 2 := ⟨rfl, nm_X5.1, nm_X5.2, pd_25⟩
theorem hd_X6_buoyFor__1 : yX6_buoyFor.cls = RX6 ∧ yX6_buoyFor.cls ≠ "java/lang/invoke/MethodHandle" ∧ yX6_buoyFor.cls ≠ "java/lang/invoke/VarHandle" ∧ (parseMethodDescriptor yX6_buoyFor.desc).map (fun d => d.parameters.length) = some 1 := ⟨rfl, nm_X6.1, nm_X6.2, pd_10⟩
theorem hd_X6_comesRound__1 : yX6_comesRound.cls = RX6 ∧ yX6_comesRound.cls ≠ "java/lang/invoke/MethodHandle" ∧ yX6_comesRound.cls ≠ "java/lang/invoke/VarHandle" ∧ (parseMethodDescriptor yX6_comesRound.desc).map (fun d => d.parameters.length) = some 1 := ⟨rfl, nm_X6.1, nm_X6.2, pd_0⟩
theorem hd_X6_draw__0 : yX6_draw.cls = RX6 ∧ yX6_draw.cls ≠ "java/lang/invoke/MethodHandle" ∧ yX6_draw.cls ≠ "java/lang/invoke/VarHandle" ∧ (parseMethodDescriptor yX6_draw.desc).map (fun d => d.parameters.length) = some 0 := ⟨rfl, nm_X6.1, nm_X6.2, pd_3⟩
theorem pd_26 : (parseMethodDescriptor "(LBayMoorings$Boat;)I").map (fun d => d.parameters.length) = some 1 := by decide +kernel
theorem hd_X6_holderOfWish__1 : yX6_holderOfWish.cls = RX6 ∧ yX6_holderOfWish.cls ≠ "java/lang/invoke/MethodHandle" ∧ yX6_holderOfWish.cls ≠ "java/lang/invoke/VarHandle" ∧ (parseMethodDescriptor yX6_holderOfWish.desc).map (fun d => d.parameters.length) = some 1 := ⟨rfl, nm_X6.1, nm_X6.2, pd_26⟩
theorem hd_X6_isLeft__1 : yX6_isLeft.cls = RX6 ∧ yX6_isLeft.cls ≠ "java/lang/invoke/MethodHandle" ∧ yX6_isLeft.cls ≠ "java/lang/invoke/VarHandle" ∧ (parseMethodDescriptor yX6_isLeft.desc).map (fun d => d.parameters.length) = some 1 := ⟨rfl, nm_X6.1, nm_X6.2, pd_0⟩
theorem hd_X6_leastInRing__0 : yX6_leastInRing.cls = RX6 ∧ yX6_leastInRing.cls ≠ "java/lang/invoke/MethodHandle" ∧ yX6_leastInRing.cls ≠ "java/lang/invoke/VarHandle" ∧ (parseMethodDescriptor yX6_leastInRing.desc).map (fun d => d.parameters.length) = some 0 := ⟨rfl, nm_X6.1, nm_X6.2, pd_5⟩
theorem hd_X6_pointAll__0 : yX6_pointAll.cls = RX6 ∧ yX6_pointAll.cls ≠ "java/lang/invoke/MethodHandle" ∧ yX6_pointAll.cls ≠ "java/lang/invoke/VarHandle" ∧ (parseMethodDescriptor yX6_pointAll.desc).map (fun d => d.parameters.length) = some 0 := ⟨rfl, nm_X6.1, nm_X6.2, pd_3⟩
theorem hd_X6_pointedAtBy__1 : yX6_pointedAtBy.cls = RX6 ∧ yX6_pointedAtBy.cls ≠ "java/lang/invoke/MethodHandle" ∧ yX6_pointedAtBy.cls ≠ "java/lang/invoke/VarHandle" ∧ (parseMethodDescriptor yX6_pointedAtBy.desc).map (fun d => d.parameters.length) = some 1 := ⟨rfl, nm_X6.1, nm_X6.2, pd_10⟩
theorem hd_X6_takeRing__1 : yX6_takeRing.cls = RX6 ∧ yX6_takeRing.cls ≠ "java/lang/invoke/MethodHandle" ∧ yX6_takeRing.cls ≠ "java/lang/invoke/VarHandle" ∧ (parseMethodDescriptor yX6_takeRing.desc).map (fun d => d.parameters.length) = some 1 := ⟨rfl, nm_X6.1, nm_X6.2, pd_12⟩
theorem hd_X7_barredBy__3 : yX7_barredBy.cls = RX7 ∧ yX7_barredBy.cls ≠ "java/lang/invoke/MethodHandle" ∧ yX7_barredBy.cls ≠ "java/lang/invoke/VarHandle" ∧ (parseMethodDescriptor yX7_barredBy.desc).map (fun d => d.parameters.length) = some 3 := ⟨rfl, nm_X7.1, nm_X7.2, pd_15⟩
theorem hd_X7_buoyFor__1 : yX7_buoyFor.cls = RX7 ∧ yX7_buoyFor.cls ≠ "java/lang/invoke/MethodHandle" ∧ yX7_buoyFor.cls ≠ "java/lang/invoke/VarHandle" ∧ (parseMethodDescriptor yX7_buoyFor.desc).map (fun d => d.parameters.length) = some 1 := ⟨rfl, nm_X7.1, nm_X7.2, pd_10⟩
theorem hd_X7_hopefulFrom__1 : yX7_hopefulFrom.cls = RX7 ∧ yX7_hopefulFrom.cls ≠ "java/lang/invoke/MethodHandle" ∧ yX7_hopefulFrom.cls ≠ "java/lang/invoke/VarHandle" ∧ (parseMethodDescriptor yX7_hopefulFrom.desc).map (fun d => d.parameters.length) = some 1 := ⟨rfl, nm_X7.1, nm_X7.2, pd_10⟩
theorem hd_X7_keepIfBetter__1 : yX7_keepIfBetter.cls = RX7 ∧ yX7_keepIfBetter.cls ≠ "java/lang/invoke/MethodHandle" ∧ yX7_keepIfBetter.cls ≠ "java/lang/invoke/VarHandle" ∧ (parseMethodDescriptor yX7_keepIfBetter.desc).map (fun d => d.parameters.length) = some 1 := ⟨rfl, nm_X7.1, nm_X7.2, pd_12⟩
theorem hd_X7_narrow__2 : yX7_narrow.cls = RX7 ∧ yX7_narrow.cls ≠ "java/lang/invoke/MethodHandle" ∧ yX7_narrow.cls ≠ "java/lang/invoke/VarHandle" ∧ (parseMethodDescriptor yX7_narrow.desc).map (fun d => d.parameters.length) = some 2 := ⟨rfl, nm_X7.1, nm_X7.2, pd_8⟩
theorem hd_X7_openAtFirst__1 : yX7_openAtFirst.cls = RX7 ∧ yX7_openAtFirst.cls ≠ "java/lang/invoke/MethodHandle" ∧ yX7_openAtFirst.cls ≠ "java/lang/invoke/VarHandle" ∧ (parseMethodDescriptor yX7_openAtFirst.desc).map (fun d => d.parameters.length) = some 1 := ⟨rfl, nm_X7.1, nm_X7.2, pd_26⟩
theorem hd_X7_run__1 : yX7_run.cls = RX7 ∧ yX7_run.cls ≠ "java/lang/invoke/MethodHandle" ∧ yX7_run.cls ≠ "java/lang/invoke/VarHandle" ∧ (parseMethodDescriptor yX7_run.desc).map (fun d => d.parameters.length) = some 1 := ⟨rfl, nm_X7.1, nm_X7.2, pd_12⟩
theorem hd_X7_settle__2 : yX7_settle.cls = RX7 ∧ yX7_settle.cls ≠ "java/lang/invoke/MethodHandle" ∧ yX7_settle.cls ≠ "java/lang/invoke/VarHandle" ∧ (parseMethodDescriptor yX7_settle.desc).map (fun d => d.parameters.length) = some 2 := ⟨rfl, nm_X7.1, nm_X7.2, pd_8⟩
theorem thE_1 (cA : Nat → ClassId) (f : Nat → Int32) (r : Nat → Option Nat) : th_E cA 1 f r = .inr (0, [va_rf (r 0), va_rf (r 1), va_rf (r 2), va_rf (r 3), va_rf (r 4), .int (f 5), .int (f 6), .int (f 7), .int (f 8)]) := rfl
theorem thE_2 (cA : Nat → ClassId) (f : Nat → Int32) (r : Nat → Option Nat) : th_E cA 2 f r = .inr (1, [va_rf (r 0), va_rf (r 1)]) := rfl
theorem thE_3 (cA : Nat → ClassId) (f : Nat → Int32) (r : Nat → Option Nat) : th_E cA 3 f r = .inr (2, [.int (f 0), .int (f 1), .int (f 2), .int (f 3), .int (f 4), va_rf (r 5), .int (f 6), .int (f 7)]) := rfl
theorem thE_4 (cA : Nat → ClassId) (f : Nat → Int32) (r : Nat → Option Nat) : th_E cA 4 f r = .inr (3, [.int (f 0), .int (f 1), .int (f 2), va_rf (r 3), .int (f 4), .int (f 5)]) := rfl
theorem thE_5 (cA : Nat → ClassId) (f : Nat → Int32) (r : Nat → Option Nat) : th_E cA 5 f r = .inr (4, [va_rf (r 0), va_rf (r 1), .int (f 2)]) := rfl
theorem thE_6 (cA : Nat → ClassId) (f : Nat → Int32) (r : Nat → Option Nat) : th_E cA 6 f r = .inr (5, [va_rf (r 0), va_rf (r 1), va_rf (r 2), .int (f 3)]) := rfl
theorem thE_7 (cA : Nat → ClassId) (f : Nat → Int32) (r : Nat → Option Nat) : th_E cA 7 f r = .inr (6, [va_rf (r 0), va_rf (r 1), .int (f 2), va_rf (r 3), va_rf (r 4), va_rf (r 5), va_rf (r 6), .int (f 7)]) := rfl
theorem thE_8 (cA : Nat → ClassId) (f : Nat → Int32) (r : Nat → Option Nat) : th_E cA 8 f r = .inr (7, [.int (f 0), .int (f 1), .int (f 2), va_rf (r 3), .int (f 4), .int (f 5)]) := rfl
theorem thE_9 (cA : Nat → ClassId) (f : Nat → Int32) (r : Nat → Option Nat) : th_E cA 9 f r = .inr (8, [.int (f 0), .int (f 1), .int (f 2), va_rf (r 3), .int (f 4), .int (f 5)]) := rfl
theorem thE_10 (cA : Nat → ClassId) (f : Nat → Int32) (r : Nat → Option Nat) : th_E cA 10 f r = .inr (9, [va_rf (r 0), va_rf (r 1), .int (f 2)]) := rfl
theorem thE_11 (cA : Nat → ClassId) (f : Nat → Int32) (r : Nat → Option Nat) : th_E cA 11 f r = .inr (10, [va_rf (r 0), va_rf (r 1), va_rf (r 2), va_rf (r 3), va_rf (r 4), va_rf (r 5), va_rf (r 6), .int (f 7), .int (f 8), .int (f 9)]) := rfl
theorem thE_12 (cA : Nat → ClassId) (f : Nat → Int32) (r : Nat → Option Nat) : th_E cA 12 f r = .inr (11, [.int (f 0), va_rf (r 1), va_rf (r 2), va_rf (r 3), va_rf (r 4), va_rf (r 5), va_rf (r 6), va_rf (r 7), .int (f 8), va_rf (r 9), va_rf (r 10), va_rf (r 11), va_rf (r 12), va_rf (r 13), .int (f 14), va_rf (r 15), va_rf (r 16), .int (f 17), va_rf (r 18), va_rf (r 19), .int (f 20), va_rf (r 21), va_rf (r 22), .int (f 23), .int (f 24), va_rf (r 25), va_rf (r 26), .int (f 27), va_rf (r 28), va_rf (r 29), va_rf (r 30), va_rf (r 31), va_rf (r 32), .int (f 33), va_rf (r 34), va_rf (r 35), va_rf (r 36), va_rf (r 37)]) := rfl
theorem thE_20 (cA : Nat → ClassId) (f : Nat → Int32) (r : Nat → Option Nat) : th_E cA 20 f r = .inl (cA 2, 12, .inr (.inr (.inr (.inr r)))) := rfl
theorem thE_21 (cA : Nat → ClassId) (f : Nat → Int32) (r : Nat → Option Nat) : th_E cA 21 f r = .inl (cA 3, 16, .inr (.inr (.inr (.inr r)))) := rfl
theorem thE_22 (cA : Nat → ClassId) (f : Nat → Int32) (r : Nat → Option Nat) : th_E cA 22 f r = .inl (cA 0, 24, .inl f) := rfl
theorem thE_23 (cA : Nat → ClassId) (f : Nat → Int32) (r : Nat → Option Nat) : th_E cA 23 f r = .inl (cA 1, 24, .inl f) := rfl
theorem thE_24 (cA : Nat → ClassId) (f : Nat → Int32) (r : Nat → Option Nat) : th_E cA 24 f r = .inl (cA 0, 16, .inl f) := rfl
theorem thE_25 (cA : Nat → ClassId) (f : Nat → Int32) (r : Nat → Option Nat) : th_E cA 25 f r = .inl (cA 0, 12, .inl f) := rfl
theorem thE_26 (cA : Nat → ClassId) (f : Nat → Int32) (r : Nat → Option Nat) : th_E cA 26 f r = .inl (cA 0, 24, .inl f) := rfl
theorem thE_27 (cA : Nat → ClassId) (f : Nat → Int32) (r : Nat → Option Nat) : th_E cA 27 f r = .inl (cA 0, 4, .inl f) := rfl
theorem thE_28 (cA : Nat → ClassId) (f : Nat → Int32) (r : Nat → Option Nat) : th_E cA 28 f r = .inl (cA 0, 16, .inl f) := rfl
theorem thE_29 (cA : Nat → ClassId) (f : Nat → Int32) (r : Nat → Option Nat) : th_E cA 29 f r = .inl (cA 0, 16, .inl f) := rfl
theorem thE_30 (cA : Nat → ClassId) (f : Nat → Int32) (r : Nat → Option Nat) : th_E cA 30 f r = .inl (cA 3, 5, .inr (.inr (.inr (.inr r)))) := rfl
theorem thE_31 (cA : Nat → ClassId) (f : Nat → Int32) (r : Nat → Option Nat) : th_E cA 31 f r = .inl (cA 0, 30, .inl f) := rfl
theorem thE_32 (cA : Nat → ClassId) (f : Nat → Int32) (r : Nat → Option Nat) : th_E cA 32 f r = .inl (cA 0, 300, .inl f) := rfl
theorem thE_33 (cA : Nat → ClassId) (f : Nat → Int32) (r : Nat → Option Nat) : th_E cA 33 f r = .inl (cA 0, 5, .inl f) := rfl
theorem thE_34 (cA : Nat → ClassId) (f : Nat → Int32) (r : Nat → Option Nat) : th_E cA 34 f r = .inl (cA 0, 5, .inl f) := rfl
theorem thE_35 (cA : Nat → ClassId) (f : Nat → Int32) (r : Nat → Option Nat) : th_E cA 35 f r = .inl (cA 0, 10, .inl f) := rfl
theorem thE_36 (cA : Nat → ClassId) (f : Nat → Int32) (r : Nat → Option Nat) : th_E cA 36 f r = .inl (cA 0, 6, .inl f) := rfl
theorem thE_37 (cA : Nat → ClassId) (f : Nat → Int32) (r : Nat → Option Nat) : th_E cA 37 f r = .inl (cA 0, 24, .inl f) := rfl
theorem thE_40 (cA : Nat → ClassId) (f : Nat → Int32) (r : Nat → Option Nat) : th_E cA 40 f r = .inl (cA 0, 12, .inl f) := rfl
theorem thE_41 (cA : Nat → ClassId) (f : Nat → Int32) (r : Nat → Option Nat) : th_E cA 41 f r = .inl (cA 0, 12, .inl f) := rfl
theorem thE_42 (cA : Nat → ClassId) (f : Nat → Int32) (r : Nat → Option Nat) : th_E cA 42 f r = .inl (cA 0, 12, .inl f) := rfl
theorem thE_43 (cA : Nat → ClassId) (f : Nat → Int32) (r : Nat → Option Nat) : th_E cA 43 f r = .inl (cA 0, 12, .inl f) := rfl
theorem thE_44 (cA : Nat → ClassId) (f : Nat → Int32) (r : Nat → Option Nat) : th_E cA 44 f r = .inl (cA 0, 12, .inl f) := rfl
theorem thE_45 (cA : Nat → ClassId) (f : Nat → Int32) (r : Nat → Option Nat) : th_E cA 45 f r = .inl (cA 0, 12, .inl f) := rfl
theorem thE_46 (cA : Nat → ClassId) (f : Nat → Int32) (r : Nat → Option Nat) : th_E cA 46 f r = .inl (cA 0, 12, .inl f) := rfl
theorem thE_47 (cA : Nat → ClassId) (f : Nat → Int32) (r : Nat → Option Nat) : th_E cA 47 f r = .inl (cA 0, 16, .inl f) := rfl
theorem thE_48 (cA : Nat → ClassId) (f : Nat → Int32) (r : Nat → Option Nat) : th_E cA 48 f r = .inl (cA 0, 16, .inl f) := rfl
theorem thE_49 (cA : Nat → ClassId) (f : Nat → Int32) (r : Nat → Option Nat) : th_E cA 49 f r = .inl (cA 0, 16, .inl f) := rfl
theorem thE_50 (cA : Nat → ClassId) (f : Nat → Int32) (r : Nat → Option Nat) : th_E cA 50 f r = .inl (cA 0, 16, .inl f) := rfl
theorem thE_51 (cA : Nat → ClassId) (f : Nat → Int32) (r : Nat → Option Nat) : th_E cA 51 f r = .inl (cA 0, 24, .inl f) := rfl
theorem thE_52 (cA : Nat → ClassId) (f : Nat → Int32) (r : Nat → Option Nat) : th_E cA 52 f r = .inl (cA 0, 8, .inl f) := rfl
theorem thE_53 (cA : Nat → ClassId) (f : Nat → Int32) (r : Nat → Option Nat) : th_E cA 53 f r = .inl (cA 0, 8, .inl f) := rfl
theorem thE_54 (cA : Nat → ClassId) (f : Nat → Int32) (r : Nat → Option Nat) : th_E cA 54 f r = .inl (cA 0, 10, .inl f) := rfl
theorem thE_55 (cA : Nat → ClassId) (f : Nat → Int32) (r : Nat → Option Nat) : th_E cA 55 f r = .inl (cA 0, 16, .inl f) := rfl
theorem thE_56 (cA : Nat → ClassId) (f : Nat → Int32) (r : Nat → Option Nat) : th_E cA 56 f r = .inl (cA 0, 16, .inl f) := rfl
theorem thE_57 (cA : Nat → ClassId) (f : Nat → Int32) (r : Nat → Option Nat) : th_E cA 57 f r = .inl (cA 0, 64, .inl f) := rfl
theorem thE_58 (cA : Nat → ClassId) (f : Nat → Int32) (r : Nat → Option Nat) : th_E cA 58 f r = .inl (cA 0, 24, .inl f) := rfl
theorem thE_59 (cA : Nat → ClassId) (f : Nat → Int32) (r : Nat → Option Nat) : th_E cA 59 f r = .inl (cA 0, 6, .inl f) := rfl
theorem thE_60 (cA : Nat → ClassId) (f : Nat → Int32) (r : Nat → Option Nat) : th_E cA 60 f r = .inl (cA 0, 5, .inl f) := rfl
theorem thE_61 (cA : Nat → ClassId) (f : Nat → Int32) (r : Nat → Option Nat) : th_E cA 61 f r = .inl (cA 0, 5, .inl f) := rfl
theorem thE_62 (cA : Nat → ClassId) (f : Nat → Int32) (r : Nat → Option Nat) : th_E cA 62 f r = .inl (cA 0, 6, .inl f) := rfl
theorem thE_63 (cA : Nat → ClassId) (f : Nat → Int32) (r : Nat → Option Nat) : th_E cA 63 f r = .inl (cA 0, 5, .inl f) := rfl
theorem thE_64 (cA : Nat → ClassId) (f : Nat → Int32) (r : Nat → Option Nat) : th_E cA 64 f r = .inl (cA 0, 300, .inl f) := rfl
theorem thE_65 (cA : Nat → ClassId) (f : Nat → Int32) (r : Nat → Option Nat) : th_E cA 65 f r = .inl (cA 0, 16, .inl f) := rfl
theorem thE_66 (cA : Nat → ClassId) (f : Nat → Int32) (r : Nat → Option Nat) : th_E cA 66 f r = .inl (cA 1, 16, .inl f) := rfl
theorem thE_67 (cA : Nat → ClassId) (f : Nat → Int32) (r : Nat → Option Nat) : th_E cA 67 f r = .inl (cA 0, 16, .inl f) := rfl
theorem thE_68 (cA : Nat → ClassId) (f : Nat → Int32) (r : Nat → Option Nat) : th_E cA 68 f r = .inl (cA 0, 16, .inl f) := rfl
theorem thI_1 {D : va_G} {cA : Nat → ClassId} {τ : th_t} {gi : th_i} {gr : th_r} {H : Heap} {a : Nat} (hH : th_H D cA τ gi gr H) (ht : τ a = 1) : (fun (f : Nat → Int32) (r : Nat → Option Nat) => (∃ q, r 0 = some q ∧ τ q = 20) ∧ (∃ q, r 1 = some q ∧ τ q = 21) ∧ (∃ q, r 2 = some q ∧ τ q = 22) ∧ (∃ q, r 3 = some q ∧ τ q = 23) ∧ (∃ q, r 4 = some q ∧ τ q = 2) ∧ rg 0 12 (f 5) ∧ rg 0 16 (f 6)) (gi a) (gr a) := (hH.at ht (th_nz rfl)).2
theorem thI_2 {D : va_G} {cA : Nat → ClassId} {τ : th_t} {gi : th_i} {gr : th_r} {H : Heap} {a : Nat} (hH : th_H D cA τ gi gr H) (ht : τ a = 2) : (fun (f : Nat → Int32) (r : Nat → Option Nat) => (∃ q, r 0 = some q ∧ τ q = 24) ∧ (∃ q, r 1 = some q ∧ τ q = 25)) (gi a) (gr a) := (hH.at ht (th_nz rfl)).2
theorem thI_3 {D : va_G} {cA : Nat → ClassId} {τ : th_t} {gi : th_i} {gr : th_r} {H : Heap} {a : Nat} (hH : th_H D cA τ gi gr H) (ht : τ a = 3) : (fun (f : Nat → Int32) (r : Nat → Option Nat) => (∃ q, r 5 = some q ∧ τ q = 26)) (gi a) (gr a) := (hH.at ht (th_nz rfl)).2
theorem thI_4 {D : va_G} {cA : Nat → ClassId} {τ : th_t} {gi : th_i} {gr : th_r} {H : Heap} {a : Nat} (hH : th_H D cA τ gi gr H) (ht : τ a = 4) : (fun (f : Nat → Int32) (r : Nat → Option Nat) => (∃ q, r 3 = some q ∧ τ q = 27) ∧ rg 0 4 (f 4)) (gi a) (gr a) := (hH.at ht (th_nz rfl)).2
theorem thI_5 {D : va_G} {cA : Nat → ClassId} {τ : th_t} {gi : th_i} {gr : th_r} {H : Heap} {a : Nat} (hH : th_H D cA τ gi gr H) (ht : τ a = 5) : (fun (f : Nat → Int32) (r : Nat → Option Nat) => (∃ q, r 0 = some q ∧ τ q = 1) ∧ (∃ q, r 1 = some q ∧ τ q = 2)) (gi a) (gr a) := (hH.at ht (th_nz rfl)).2
theorem thI_6 {D : va_G} {cA : Nat → ClassId} {τ : th_t} {gi : th_i} {gr : th_r} {H : Heap} {a : Nat} (hH : th_H D cA τ gi gr H) (ht : τ a = 6) : (fun (f : Nat → Int32) (r : Nat → Option Nat) => (∃ q, r 0 = some q ∧ τ q = 1) ∧ (∃ q, r 1 = some q ∧ τ q = 28) ∧ (∃ q, r 2 = some q ∧ τ q = 29)) (gi a) (gr a) := (hH.at ht (th_nz rfl)).2
theorem thI_7 {D : va_G} {cA : Nat → ClassId} {τ : th_t} {gi : th_i} {gr : th_r} {H : Heap} {a : Nat} (hH : th_H D cA τ gi gr H) (ht : τ a = 7) : (fun (f : Nat → Int32) (r : Nat → Option Nat) => (∃ q, r 0 = some q ∧ τ q = 1) ∧ (∃ q, r 1 = some q ∧ τ q = 30) ∧ rg 0 5 (f 2) ∧ (∃ q, r 3 = some q ∧ τ q = 31) ∧ (∃ q, r 4 = some q ∧ τ q = 32) ∧ (∃ q, r 5 = some q ∧ τ q = 33) ∧ (∃ q, r 6 = some q ∧ τ q = 34)) (gi a) (gr a) := (hH.at ht (th_nz rfl)).2
theorem thI_8 {D : va_G} {cA : Nat → ClassId} {τ : th_t} {gi : th_i} {gr : th_r} {H : Heap} {a : Nat} (hH : th_H D cA τ gi gr H) (ht : τ a = 8) : (fun (f : Nat → Int32) (r : Nat → Option Nat) => (∃ q, r 3 = some q ∧ τ q = 27) ∧ rg 0 4 (f 4)) (gi a) (gr a) := (hH.at ht (th_nz rfl)).2
theorem thI_9 {D : va_G} {cA : Nat → ClassId} {τ : th_t} {gi : th_i} {gr : th_r} {H : Heap} {a : Nat} (hH : th_H D cA τ gi gr H) (ht : τ a = 9) : (fun (f : Nat → Int32) (r : Nat → Option Nat) => (∃ q, r 3 = some q ∧ τ q = 27) ∧ rg 0 4 (f 4)) (gi a) (gr a) := (hH.at ht (th_nz rfl)).2
theorem thI_10 {D : va_G} {cA : Nat → ClassId} {τ : th_t} {gi : th_i} {gr : th_r} {H : Heap} {a : Nat} (hH : th_H D cA τ gi gr H) (ht : τ a = 10) : (fun (f : Nat → Int32) (r : Nat → Option Nat) => (∃ q, r 0 = some q ∧ τ q = 1) ∧ (∃ q, r 1 = some q ∧ τ q = 35) ∧ rg 0 10 (f 2)) (gi a) (gr a) := (hH.at ht (th_nz rfl)).2
theorem thI_11 {D : va_G} {cA : Nat → ClassId} {τ : th_t} {gi : th_i} {gr : th_r} {H : Heap} {a : Nat} (hH : th_H D cA τ gi gr H) (ht : τ a = 11) : (fun (f : Nat → Int32) (r : Nat → Option Nat) => (∃ q, r 0 = some q ∧ τ q = 1) ∧ (∃ q, r 1 = some q ∧ τ q = 10) ∧ (∃ q, r 2 = some q ∧ τ q = 7) ∧ (∃ q, r 3 = some q ∧ τ q = 6) ∧ (∃ q, r 4 = some q ∧ τ q = 5) ∧ (∃ q, r 5 = some q ∧ τ q = 36) ∧ (∃ q, r 6 = some q ∧ τ q = 37) ∧ rg 0 24 (f 7) ∧ rg 0 1 (f 9)) (gi a) (gr a) := (hH.at ht (th_nz rfl)).2
theorem thI_12 {D : va_G} {cA : Nat → ClassId} {τ : th_t} {gi : th_i} {gr : th_r} {H : Heap} {a : Nat} (hH : th_H D cA τ gi gr H) (ht : τ a = 12) : (fun (f : Nat → Int32) (r : Nat → Option Nat) => rg 0 12 (f 0) ∧ (∃ q, r 1 = some q ∧ τ q = 40) ∧ (∃ q, r 2 = some q ∧ τ q = 41) ∧ (∃ q, r 3 = some q ∧ τ q = 42) ∧ (∃ q, r 4 = some q ∧ τ q = 43) ∧ (∃ q, r 5 = some q ∧ τ q = 44) ∧ (∃ q, r 6 = some q ∧ τ q = 45) ∧ (∃ q, r 7 = some q ∧ τ q = 46) ∧ rg 0 16 (f 8) ∧ (∃ q, r 9 = some q ∧ τ q = 47) ∧ (∃ q, r 10 = some q ∧ τ q = 48) ∧ (∃ q, r 11 = some q ∧ τ q = 49) ∧ (∃ q, r 12 = some q ∧ τ q = 50) ∧ (∃ q, r 13 = some q ∧ τ q = 51) ∧ (∃ q, r 15 = some q ∧ τ q = 52) ∧ (∃ q, r 16 = some q ∧ τ q = 53) ∧ rg 0 10 (f 17) ∧ (∃ q, r 18 = some q ∧ τ q = 54) ∧ (∃ q, r 19 = some q ∧ τ q = 55) ∧ (∃ q, r 21 = some q ∧ τ q = 56) ∧ (∃ q, r 22 = some q ∧ τ q = 57) ∧ rg 0 24 (f 24) ∧ (∃ q, r 25 = some q ∧ τ q = 58) ∧ (∃ q, r 26 = some q ∧ τ q = 59) ∧ rg 0 5 (f 27) ∧ (∃ q, r 28 = some q ∧ τ q = 60) ∧ (∃ q, r 29 = some q ∧ τ q = 61) ∧ (∃ q, r 30 = some q ∧ τ q = 62) ∧ (∃ q, r 31 = some q ∧ τ q = 63) ∧ (∃ q, r 32 = some q ∧ τ q = 64) ∧ (∃ q, r 34 = some q ∧ τ q = 65) ∧ (∃ q, r 35 = some q ∧ τ q = 66) ∧ (∃ q, r 36 = some q ∧ τ q = 67) ∧ (∃ q, r 37 = some q ∧ τ q = 68)) (gi a) (gr a) := (hH.at ht (th_nz rfl)).2
theorem thI_20 {D : va_G} {cA : Nat → ClassId} {τ : th_t} {gi : th_i} {gr : th_r} {H : Heap} {a : Nat} (hH : th_H D cA τ gi gr H) (ht : τ a = 20) : (fun (f : Nat → Int32) (r : Nat → Option Nat) => ∀ j, j < 12 → ∀ q, r j = some q → τ q = 3) (gi a) (gr a) := (hH.at ht (th_nz rfl)).2
theorem thI_21 {D : va_G} {cA : Nat → ClassId} {τ : th_t} {gi : th_i} {gr : th_r} {H : Heap} {a : Nat} (hH : th_H D cA τ gi gr H) (ht : τ a = 21) : (fun (f : Nat → Int32) (r : Nat → Option Nat) => ∀ j, j < 16 → ∀ q, r j = some q → τ q = 8 ∨ τ q = 9 ∨ τ q = 4) (gi a) (gr a) := (hH.at ht (th_nz rfl)).2
theorem thI_23 {D : va_G} {cA : Nat → ClassId} {τ : th_t} {gi : th_i} {gr : th_r} {H : Heap} {a : Nat} (hH : th_H D cA τ gi gr H) (ht : τ a = 23) : (fun (f : Nat → Int32) (r : Nat → Option Nat) => ∀ j, j < 24 → rg 0 1 (f j)) (gi a) (gr a) := (hH.at ht (th_nz rfl)).2
theorem thI_30 {D : va_G} {cA : Nat → ClassId} {τ : th_t} {gi : th_i} {gr : th_r} {H : Heap} {a : Nat} (hH : th_H D cA τ gi gr H) (ht : τ a = 30) : (fun (f : Nat → Int32) (r : Nat → Option Nat) => ∀ j, j < 5 → ∀ q, r j = some q → τ q = 8 ∨ τ q = 9 ∨ τ q = 4) (gi a) (gr a) := (hH.at ht (th_nz rfl)).2
theorem thI_42 {D : va_G} {cA : Nat → ClassId} {τ : th_t} {gi : th_i} {gr : th_r} {H : Heap} {a : Nat} (hH : th_H D cA τ gi gr H) (ht : τ a = 42) : (fun (f : Nat → Int32) (r : Nat → Option Nat) => ∀ j, j < 12 → rg 0 300 (f j)) (gi a) (gr a) := (hH.at ht (th_nz rfl)).2
theorem thI_43 {D : va_G} {cA : Nat → ClassId} {τ : th_t} {gi : th_i} {gr : th_r} {H : Heap} {a : Nat} (hH : th_H D cA τ gi gr H) (ht : τ a = 43) : (fun (f : Nat → Int32) (r : Nat → Option Nat) => ∀ j, j < 12 → rg 0 400 (f j)) (gi a) (gr a) := (hH.at ht (th_nz rfl)).2
theorem thI_46 {D : va_G} {cA : Nat → ClassId} {τ : th_t} {gi : th_i} {gr : th_r} {H : Heap} {a : Nat} (hH : th_H D cA τ gi gr H) (ht : τ a = 46) : (fun (f : Nat → Int32) (r : Nat → Option Nat) => ∀ j, j < 12 → rg (-1) 15 (f j)) (gi a) (gr a) := (hH.at ht (th_nz rfl)).2
theorem thI_50 {D : va_G} {cA : Nat → ClassId} {τ : th_t} {gi : th_i} {gr : th_r} {H : Heap} {a : Nat} (hH : th_H D cA τ gi gr H) (ht : τ a = 50) : (fun (f : Nat → Int32) (r : Nat → Option Nat) => ∀ j, j < 16 → rg (-1) 11 (f j)) (gi a) (gr a) := (hH.at ht (th_nz rfl)).2
theorem thI_51 {D : va_G} {cA : Nat → ClassId} {τ : th_t} {gi : th_i} {gr : th_r} {H : Heap} {a : Nat} (hH : th_H D cA τ gi gr H) (ht : τ a = 51) : (fun (f : Nat → Int32) (r : Nat → Option Nat) => ∀ j, j < 24 → rg 0 200 (f j)) (gi a) (gr a) := (hH.at ht (th_nz rfl)).2
theorem thI_54 {D : va_G} {cA : Nat → ClassId} {τ : th_t} {gi : th_i} {gr : th_r} {H : Heap} {a : Nat} (hH : th_H D cA τ gi gr H) (ht : τ a = 54) : (fun (f : Nat → Int32) (r : Nat → Option Nat) => ∀ j, j < 10 → rg 0 15 (f j)) (gi a) (gr a) := (hH.at ht (th_nz rfl)).2
theorem thI_56 {D : va_G} {cA : Nat → ClassId} {τ : th_t} {gi : th_i} {gr : th_r} {H : Heap} {a : Nat} (hH : th_H D cA τ gi gr H) (ht : τ a = 56) : (fun (f : Nat → Int32) (r : Nat → Option Nat) => ∀ j, j < 16 → rg 0 4 (f j)) (gi a) (gr a) := (hH.at ht (th_nz rfl)).2
theorem thI_57 {D : va_G} {cA : Nat → ClassId} {τ : th_t} {gi : th_i} {gr : th_r} {H : Heap} {a : Nat} (hH : th_H D cA τ gi gr H) (ht : τ a = 57) : (fun (f : Nat → Int32) (r : Nat → Option Nat) => ∀ j, j < 64 → rg 0 11 (f j)) (gi a) (gr a) := (hH.at ht (th_nz rfl)).2
theorem thI_60 {D : va_G} {cA : Nat → ClassId} {τ : th_t} {gi : th_i} {gr : th_r} {H : Heap} {a : Nat} (hH : th_H D cA τ gi gr H) (ht : τ a = 60) : (fun (f : Nat → Int32) (r : Nat → Option Nat) => ∀ j, j < 5 → rg 0 15 (f j)) (gi a) (gr a) := (hH.at ht (th_nz rfl)).2
theorem thI_62 {D : va_G} {cA : Nat → ClassId} {τ : th_t} {gi : th_i} {gr : th_r} {H : Heap} {a : Nat} (hH : th_H D cA τ gi gr H) (ht : τ a = 62) : (fun (f : Nat → Int32) (r : Nat → Option Nat) => ∀ j, j < 6 → rg (-1) 13 (f j)) (gi a) (gr a) := (hH.at ht (th_nz rfl)).2
theorem thI_65 {D : va_G} {cA : Nat → ClassId} {τ : th_t} {gi : th_i} {gr : th_r} {H : Heap} {a : Nat} (hH : th_H D cA τ gi gr H) (ht : τ a = 65) : (fun (f : Nat → Int32) (r : Nat → Option Nat) => ∀ j, j < 16 → rg (-1) 11 (f j)) (gi a) (gr a) := (hH.at ht (th_nz rfl)).2
theorem thI_66 {D : va_G} {cA : Nat → ClassId} {τ : th_t} {gi : th_i} {gr : th_r} {H : Heap} {a : Nat} (hH : th_H D cA τ gi gr H) (ht : τ a = 66) : (fun (f : Nat → Int32) (r : Nat → Option Nat) => ∀ j, j < 16 → rg 0 1 (f j)) (gi a) (gr a) := (hH.at ht (th_nz rfl)).2
theorem thI_67 {D : va_G} {cA : Nat → ClassId} {τ : th_t} {gi : th_i} {gr : th_r} {H : Heap} {a : Nat} (hH : th_H D cA τ gi gr H) (ht : τ a = 67) : (fun (f : Nat → Int32) (r : Nat → Option Nat) => ∀ j, j < 16 → rg 0 15 (f j)) (gi a) (gr a) := (hH.at ht (th_nz rfl)).2
theorem thI_68 {D : va_G} {cA : Nat → ClassId} {τ : th_t} {gi : th_i} {gr : th_r} {H : Heap} {a : Nat} (hH : th_H D cA τ gi gr H) (ht : τ a = 68) : (fun (f : Nat → Int32) (r : Nat → Option Nat) => ∀ j, j < 16 → rg (-1) 11 (f j)) (gi a) (gr a) := (hH.at ht (th_nz rfl)).2
theorem tr_1 {D : va_G} {cA : Nat → ClassId} {τ : th_t} {gi : th_i} {gr : th_r} {s : State} {H : Heap} {tys : List (ClassId × FieldType)} {b : Nat} (hK : va_K D vwCl tys s) (hH : th_H D cA τ gi gr H) (ht : τ b = 1) : ∃ cell : Cell, H[b]? = some cell ∧ cell.vm.isStatics = false ∧ s.vm.findClass RX0 = some cell.cls := th_recv (q := (RX0, TX0, 9)) hK hH ht (ci := 0) (th_nz rfl) rfl rfl
theorem tr_2 {D : va_G} {cA : Nat → ClassId} {τ : th_t} {gi : th_i} {gr : th_r} {s : State} {H : Heap} {tys : List (ClassId × FieldType)} {b : Nat} (hK : va_K D vwCl tys s) (hH : th_H D cA τ gi gr H) (ht : τ b = 2) : ∃ cell : Cell, H[b]? = some cell ∧ cell.vm.isStatics = false ∧ s.vm.findClass RX1 = some cell.cls := th_recv (q := (RX1, TX1, 2)) hK hH ht (ci := 1) (th_nz rfl) rfl rfl
theorem tr_3 {D : va_G} {cA : Nat → ClassId} {τ : th_t} {gi : th_i} {gr : th_r} {s : State} {H : Heap} {tys : List (ClassId × FieldType)} {b : Nat} (hK : va_K D vwCl tys s) (hH : th_H D cA τ gi gr H) (ht : τ b = 3) : ∃ cell : Cell, H[b]? = some cell ∧ cell.vm.isStatics = false ∧ s.vm.findClass RX3 = some cell.cls := th_recv (q := (RX3, TX3, 8)) hK hH ht (ci := 2) (th_nz rfl) rfl rfl
theorem tr_4 {D : va_G} {cA : Nat → ClassId} {τ : th_t} {gi : th_i} {gr : th_r} {s : State} {H : Heap} {tys : List (ClassId × FieldType)} {b : Nat} (hK : va_K D vwCl tys s) (hH : th_H D cA τ gi gr H) (ht : τ b = 4) : ∃ cell : Cell, H[b]? = some cell ∧ cell.vm.isStatics = false ∧ s.vm.findClass RX4 = some cell.cls := th_recv (q := (RX4, TX4, 6)) hK hH ht (ci := 3) (th_nz rfl) rfl rfl
theorem tr_5 {D : va_G} {cA : Nat → ClassId} {τ : th_t} {gi : th_i} {gr : th_r} {s : State} {H : Heap} {tys : List (ClassId × FieldType)} {b : Nat} (hK : va_K D vwCl tys s) (hH : th_H D cA τ gi gr H) (ht : τ b = 5) : ∃ cell : Cell, H[b]? = some cell ∧ cell.vm.isStatics = false ∧ s.vm.findClass RX5 = some cell.cls := th_recv (q := (RX5, TX5, 3)) hK hH ht (ci := 4) (th_nz rfl) rfl rfl
theorem tr_6 {D : va_G} {cA : Nat → ClassId} {τ : th_t} {gi : th_i} {gr : th_r} {s : State} {H : Heap} {tys : List (ClassId × FieldType)} {b : Nat} (hK : va_K D vwCl tys s) (hH : th_H D cA τ gi gr H) (ht : τ b = 6) : ∃ cell : Cell, H[b]? = some cell ∧ cell.vm.isStatics = false ∧ s.vm.findClass RX6 = some cell.cls := th_recv (q := (RX6, TX6, 4)) hK hH ht (ci := 5) (th_nz rfl) rfl rfl
theorem tr_7 {D : va_G} {cA : Nat → ClassId} {τ : th_t} {gi : th_i} {gr : th_r} {s : State} {H : Heap} {tys : List (ClassId × FieldType)} {b : Nat} (hK : va_K D vwCl tys s) (hH : th_H D cA τ gi gr H) (ht : τ b = 7) : ∃ cell : Cell, H[b]? = some cell ∧ cell.vm.isStatics = false ∧ s.vm.findClass RX7 = some cell.cls := th_recv (q := (RX7, TX7, 8)) hK hH ht (ci := 6) (th_nz rfl) rfl rfl
theorem tr_8 {D : va_G} {cA : Nat → ClassId} {τ : th_t} {gi : th_i} {gr : th_r} {s : State} {H : Heap} {tys : List (ClassId × FieldType)} {b : Nat} (hK : va_K D vwCl tys s) (hH : th_H D cA τ gi gr H) (ht : τ b = 8) : ∃ cell : Cell, H[b]? = some cell ∧ cell.vm.isStatics = false ∧ s.vm.findClass RX8 = some cell.cls := th_recv (q := (RX8, TX8, 6)) hK hH ht (ci := 7) (th_nz rfl) rfl rfl
theorem tr_9 {D : va_G} {cA : Nat → ClassId} {τ : th_t} {gi : th_i} {gr : th_r} {s : State} {H : Heap} {tys : List (ClassId × FieldType)} {b : Nat} (hK : va_K D vwCl tys s) (hH : th_H D cA τ gi gr H) (ht : τ b = 9) : ∃ cell : Cell, H[b]? = some cell ∧ cell.vm.isStatics = false ∧ s.vm.findClass RX9 = some cell.cls := th_recv (q := (RX9, TX9, 6)) hK hH ht (ci := 8) (th_nz rfl) rfl rfl
theorem tr_10 {D : va_G} {cA : Nat → ClassId} {τ : th_t} {gi : th_i} {gr : th_r} {s : State} {H : Heap} {tys : List (ClassId × FieldType)} {b : Nat} (hK : va_K D vwCl tys s) (hH : th_H D cA τ gi gr H) (ht : τ b = 10) : ∃ cell : Cell, H[b]? = some cell ∧ cell.vm.isStatics = false ∧ s.vm.findClass RX10 = some cell.cls := th_recv (q := (RX10, TX10, 3)) hK hH ht (ci := 9) (th_nz rfl) rfl rfl
theorem tr_11 {D : va_G} {cA : Nat → ClassId} {τ : th_t} {gi : th_i} {gr : th_r} {s : State} {H : Heap} {tys : List (ClassId × FieldType)} {b : Nat} (hK : va_K D vwCl tys s) (hH : th_H D cA τ gi gr H) (ht : τ b = 11) : ∃ cell : Cell, H[b]? = some cell ∧ cell.vm.isStatics = false ∧ s.vm.findClass RX11 = some cell.cls := th_recv (q := (RX11, TX11, 10)) hK hH ht (ci := 10) (th_nz rfl) rfl rfl
theorem tr_12 {D : va_G} {cA : Nat → ClassId} {τ : th_t} {gi : th_i} {gr : th_r} {s : State} {H : Heap} {tys : List (ClassId × FieldType)} {b : Nat} (hK : va_K D vwCl tys s) (hH : th_H D cA τ gi gr H) (ht : τ b = 12) : ∃ cell : Cell, H[b]? = some cell ∧ cell.vm.isStatics = false ∧ s.vm.findClass RX12 = some cell.cls := th_recv (q := (RX12, TX12, 38)) hK hH ht (ci := 11) (th_nz rfl) rfl rfl
