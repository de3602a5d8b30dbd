theorem th_tkE {τ τ' : th_t} {e q c k0 : Nat} (ht : τ' = va_up τ q k0) (h : τ e = c) (hc : Nat.beq c 0 = false) (hq : τ q = 0) : τ' e = c := by
  subst ht
  exact th_tk h (fun z => by rw [z] at hc; exact absurd hc (by decide)) hq
theorem th_tzE {τ τ' : th_t} {e q k0 : Nat} (ht : τ' = va_up τ q k0) (h : τ e = 0) (hq : e ≠ q) : τ' e = 0 := by
  subst ht
  exact th_tz h hq
theorem th_ltE {a b q : Nat} (hs : a = q) (h : b < a) : b < q := by
  rw [← hs]; exact h
theorem th_leE {a b q : Nat} (hs : a = q) (h : b ≤ a) : b ≤ q := by
  rw [← hs]; exact h
theorem th_neE {τ : th_t} {a b c d : Nat} (h1 : τ b = c) (h2 : τ a = d) (h : Nat.beq c d = false) : b ≠ a := th_ne h1 h2 (fun z => by rw [z, Nat.beq_refl] at h; cases h)
theorem th_upS {α : Type} {g f : Nat → α} {q : Nat} {x : α} (e : f = va_up g q x) : f q = x := by
  rw [e]; exact va_up_self _ _ _
theorem th_upO {α : Type} {g f : Nat → α} {q : Nat} {x : α} (e : f = va_up g q x) : ∀ b, b ≠ q → f b = g b := fun b hb => by
  rw [e]; exact va_up_ne _ _ hb
def th_bleI : Int → Int → Bool
  | .ofNat m, .ofNat n => Nat.ble m n
  | .negSucc _, .ofNat _ => true
  | .ofNat _, .negSucc _ => false
  | .negSucc m, .negSucc n => Nat.ble n m
def th_beI : Int → Int → Bool
  | .ofNat m, .ofNat n => Nat.beq m n
  | .negSucc m, .negSucc n => Nat.beq m n
  | _, _ => false
theorem th_leI {a b : Int} (h : th_bleI a b = true) : a ≤ b := by
  cases a with
  | ofNat m =>
    cases b with
    | ofNat n => exact Int.ofNat_le.mpr (Nat.le_of_ble_eq_true h)
    | negSucc n => cases h
  | negSucc m =>
    cases b with
    | ofNat n => exact Int.le_trans (Int.le_of_lt (Int.negSucc_lt_zero m)) (Int.natCast_nonneg n)
    | negSucc n =>
      have h1 : n ≤ m := Nat.le_of_ble_eq_true h
      rw [Int.negSucc_eq, Int.negSucc_eq]
      omega
theorem th_ltI {a b : Int} (h : th_bleI (a + 1) b = true) : a < b := by
  have h1 := th_leI h
  omega
theorem th_eqI {a b : Int} (h : th_beI a b = true) : a = b := by
  cases a with
  | ofNat m =>
    cases b with
    | ofNat n => rw [Nat.eq_of_beq_eq_true h]
    | negSucc n => cases h
  | negSucc m =>
    cases b with
    | ofNat n => cases h
    | negSucc n => rw [Nat.eq_of_beq_eq_true h]
theorem th_nz {c d : Nat} (h : Nat.beq c d = false) : c ≠ d := fun e => by
  rw [e, Nat.beq_refl] at h
  cases h
theorem th_nzE {x c d : Nat} (t : x = c) (h : Nat.beq c d = false) : x ≠ d := by
  rw [t]; exact th_nz h
theorem th_ltN {i n : Nat} (h : Nat.ble (i + 1) n = true) : i < n := Nat.le_of_ble_eq_true h
theorem th_leN {i n : Nat} (h : Nat.ble i n = true) : i ≤ n := Nat.le_of_ble_eq_true h
theorem rg_e {lo hi : Int} {x y : Int32} (e : x = y) (h : rg lo hi y) : rg lo hi x := by
  rw [e]; exact h
theorem th_fI {fs : List Value} {k : Nat} {x y : Int32} (e : x = y) (h : fs[k]? = some (.int y)) : fs[k]? = some (.int x) := by
  rw [e]; exact h
theorem th_fR {fs : List Value} {k q : Nat} {r : Option Nat} (e : r = some q) (h : fs[k]? = some (va_rf r)) : fs[k]? = some (.ref q) := by
  rw [e] at h; exact h
theorem th_uI {g g2 : th_i} {a k : Nat} {v : Int32} (e : g2 = va_up g a (upd (g a) k v)) : g2 a k = v ∧ ∀ b j, b ≠ a ∨ j ≠ k → g2 b j = g b j := by
  subst e
  exact th_upI
def th_el (a : Nat) : List Nat → Bool
  | [] => false
  | b :: r => Nat.beq a b || th_el a r
theorem th_mem {a : Nat} {l : List Nat} (h : th_el a l = true) : a ∈ l := by
  induction l with
  | nil => cases h
  | cons b r ih =>
    rw [th_el, Bool.or_eq_true] at h
    cases h with
    | inl h => rw [Nat.eq_of_beq_eq_true h]; exact List.Mem.head _
    | inr h => exact List.Mem.tail _ (ih h)
theorem th_elT {a : Nat} {l : List Nat} (h : a ∈ l) : th_el a l = true := by
  induction h with
  | head r => rw [th_el, Nat.beq_refl]; rfl
  | tail b h ih => rw [th_el, ih, Bool.or_true]
theorem th_nm {a : Nat} {l : List Nat} (h : th_el a l = false) : a ∉ l := fun q => by
  rw [th_elT q] at h
  cases h
theorem th_nmE {x c j key : Nat} {M : List Nat} (t : x = c) (e : th_key c j = key) (h : th_el key M = false) : th_key x j ∉ M := by
  rw [t, e]; exact th_nm h
def th_sb : List Nat → List Nat → Bool
  | [], _ => true
  | a :: r, l => th_el a l && th_sb r l
theorem th_sub {M2 M : List Nat} (h : th_sb M2 M = true) : ∀ x ∈ M2, x ∈ M := by
  induction M2 with
  | nil => intro x hx; cases hx
  | cons a r ih =>
    rw [th_sb, Bool.and_eq_true] at h
    intro x hx
    cases hx with
    | head => exact th_mem h.1
    | tail _ hx => exact ih h.2 x hx
theorem bp_10 : (Int8.ofInt 10).toInt32 = (10 : Int32) := by decide
theorem bp_100 : (Int8.ofInt 100).toInt32 = (100 : Int32) := by decide
theorem bp_11 : (Int8.ofInt 11).toInt32 = (11 : Int32) := by decide
theorem bp_12 : (Int8.ofInt 12).toInt32 = (12 : Int32) := by decide
theorem bp_15 : (Int8.ofInt 15).toInt32 = (15 : Int32) := by decide
theorem bp_16 : (Int8.ofInt 16).toInt32 = (16 : Int32) := by decide
theorem bp_20 : (Int8.ofInt 20).toInt32 = (20 : Int32) := by decide
theorem bp_23 : (Int8.ofInt 23).toInt32 = (23 : Int32) := by decide
theorem bp_24 : (Int8.ofInt 24).toInt32 = (24 : Int32) := by decide
theorem bp_30 : (Int8.ofInt 30).toInt32 = (30 : Int32) := by decide
theorem bp_6 : (Int8.ofInt 6).toInt32 = (6 : Int32) := by decide
theorem bp_60 : (Int8.ofInt 60).toInt32 = (60 : Int32) := by decide
theorem bp_63 : (Int8.ofInt 63).toInt32 = (63 : Int32) := by decide
theorem bp_64 : (Int8.ofInt 64).toInt32 = (64 : Int32) := by decide
theorem bp_7 : (Int8.ofInt 7).toInt32 = (7 : Int32) := by decide
theorem bp_8 : (Int8.ofInt 8).toInt32 = (8 : Int32) := by decide
theorem bp_9 : (Int8.ofInt 9).toInt32 = (9 : Int32) := by decide
theorem bp_m20 : (Int8.ofInt (-20)).toInt32 = ((-20) : Int32) := by decide
theorem ic_0 : Int32.ofInt 0 = (0 : Int32) := by decide
theorem ic_1 : Int32.ofInt 1 = (1 : Int32) := by decide
theorem ic_2 : Int32.ofInt 2 = (2 : Int32) := by decide
theorem ic_3 : Int32.ofInt 3 = (3 : Int32) := by decide
theorem ic_4 : Int32.ofInt 4 = (4 : Int32) := by decide
theorem ic_5 : Int32.ofInt 5 = (5 : Int32) := by decide
theorem ic_m1 : Int32.ofInt (-1) = ((-1) : Int32) := by decide
theorem rgc_0 : rg 0 0 (0 : Int32) := ⟨by decide, by decide⟩
theorem rgc_1 : rg 1 1 (1 : Int32) := ⟨by decide, by decide⟩
theorem rgc_10 : rg 10 10 (10 : Int32) := ⟨by decide, by decide⟩
theorem rgc_100 : rg 100 100 (100 : Int32) := ⟨by decide, by decide⟩
theorem rgc_11 : rg 11 11 (11 : Int32) := ⟨by decide, by decide⟩
theorem rgc_12 : rg 12 12 (12 : Int32) := ⟨by decide, by decide⟩
theorem rgc_15 : rg 15 15 (15 : Int32) := ⟨by decide, by decide⟩
theorem rgc_150 : rg 150 150 (150 : Int32) := ⟨by decide, by decide⟩
theorem rgc_16 : rg 16 16 (16 : Int32) := ⟨by decide, by decide⟩
theorem rgc_2 : rg 2 2 (2 : Int32) := ⟨by decide, by decide⟩
theorem rgc_20 : rg 20 20 (20 : Int32) := ⟨by decide, by decide⟩
theorem rgc_200 : rg 200 200 (200 : Int32) := ⟨by decide, by decide⟩
theorem rgc_23 : rg 23 23 (23 : Int32) := ⟨by decide, by decide⟩
theorem rgc_24 : rg 24 24 (24 : Int32) := ⟨by decide, by decide⟩
theorem rgc_255 : rg 255 255 (255 : Int32) := ⟨by decide, by decide⟩
theorem rgc_256 : rg 256 256 (256 : Int32) := ⟨by decide, by decide⟩
theorem rgc_3 : rg 3 3 (3 : Int32) := ⟨by decide, by decide⟩
theorem rgc_30 : rg 30 30 (30 : Int32) := ⟨by decide, by decide⟩
theorem rgc_300 : rg 300 300 (300 : Int32) := ⟨by decide, by decide⟩
theorem rgc_4 : rg 4 4 (4 : Int32) := ⟨by decide, by decide⟩
theorem rgc_400 : rg 400 400 (400 : Int32) := ⟨by decide, by decide⟩
theorem rgc_5 : rg 5 5 (5 : Int32) := ⟨by decide, by decide⟩
theorem rgc_6 : rg 6 6 (6 : Int32) := ⟨by decide, by decide⟩
theorem rgc_60 : rg 60 60 (60 : Int32) := ⟨by decide, by decide⟩
theorem rgc_7 : rg 7 7 (7 : Int32) := ⟨by decide, by decide⟩
theorem rgc_8 : rg 8 8 (8 : Int32) := ⟨by decide, by decide⟩
theorem rgc_9 : rg 9 9 (9 : Int32) := ⟨by decide, by decide⟩
theorem rgc_999 : rg 999 999 (999 : Int32) := ⟨by decide, by decide⟩
theorem rgc_m1 : rg (-1) (-1) ((-1) : Int32) := ⟨by decide, by decide⟩
theorem rgc_m1000000 : rg (-1000000) (-1000000) ((-1000000) : Int32) := ⟨by decide, by decide⟩
theorem rgc_m1000001 : rg (-1000001) (-1000001) ((-1000001) : Int32) := ⟨by decide, by decide⟩
theorem rgc_m1000002 : rg (-1000002) (-1000002) ((-1000002) : Int32) := ⟨by decide, by decide⟩
theorem rgc_m1000003 : rg (-1000003) (-1000003) ((-1000003) : Int32) := ⟨by decide, by decide⟩
theorem rgc_m1000004 : rg (-1000004) (-1000004) ((-1000004) : Int32) := ⟨by decide, by decide⟩
theorem rgc_m1000005 : rg (-1000005) (-1000005) ((-1000005) : Int32) := ⟨by decide, by decide⟩
theorem rgc_m20 : rg (-20) (-20) ((-20) : Int32) := ⟨by decide, by decide⟩
theorem sp_150 : (Int16.ofInt 150).toInt32 = (150 : Int32) := by decide
theorem sp_200 : (Int16.ofInt 200).toInt32 = (200 : Int32) := by decide
theorem sp_255 : (Int16.ofInt 255).toInt32 = (255 : Int32) := by decide
theorem sp_256 : (Int16.ofInt 256).toInt32 = (256 : Int32) := by decide
theorem sp_300 : (Int16.ofInt 300).toInt32 = (300 : Int32) := by decide
theorem sp_400 : (Int16.ofInt 400).toInt32 = (400 : Int32) := by decide
theorem sp_999 : (Int16.ofInt 999).toInt32 = (999 : Int32) := by decide
theorem hd_X0_anyLies__1 : yX0_anyLies.cls = RX0 ∧ yX0_anyLies.cls ≠ "java/lang/invoke/MethodHandle" ∧ yX0_anyLies.cls ≠ "java/lang/invoke/VarHandle" ∧ (parseMethodDescriptor yX0_anyLies.desc).map (fun d => d.parameters.length) = some 1 := by decide +kernel
theorem hd_X0_blows__1 : yX0_blows.cls = RX0 ∧ yX0_blows.cls ≠ "java/lang/invoke/MethodHandle" ∧ yX0_blows.cls ≠ "java/lang/invoke/VarHandle" ∧ (parseMethodDescriptor yX0_blows.desc).map (fun d => d.parameters.length) = some 1 := by decide +kernel
theorem hd_X0_boatAt__1 : yX0_boatAt.cls = RX0 ∧ yX0_boatAt.cls ≠ "java/lang/invoke/MethodHandle" ∧ yX0_boatAt.cls ≠ "java/lang/invoke/VarHandle" ∧ (parseMethodDescriptor yX0_boatAt.desc).map (fun d => d.parameters.length) = some 1 := by decide +kernel
theorem hd_X0_buoyAt__1 : yX0_buoyAt.cls = RX0 ∧ yX0_buoyAt.cls ≠ "java/lang/invoke/MethodHandle" ∧ yX0_buoyAt.cls ≠ "java/lang/invoke/VarHandle" ∧ (parseMethodDescriptor yX0_buoyAt.desc).map (fun d => d.parameters.length) = some 1 := by decide +kernel
theorem hd_X0_dropWishes__0 : yX0_dropWishes.cls = RX0 ∧ yX0_dropWishes.cls ≠ "java/lang/invoke/MethodHandle" ∧ yX0_dropWishes.cls ≠ "java/lang/invoke/VarHandle" ∧ (parseMethodDescriptor yX0_dropWishes.desc).map (fun d => d.parameters.length) = some 0 := by decide +kernel
theorem hd_X0_firstTouch__4 : yX0_firstTouch.cls = RX0 ∧ yX0_firstTouch.cls ≠ "java/lang/invoke/MethodHandle" ∧ yX0_firstTouch.cls ≠ "java/lang/invoke/VarHandle" ∧ (parseMethodDescriptor yX0_firstTouch.desc).map (fun d => d.parameters.length) = some 4 := by decide +kernel
theorem hd_X0_isEarlierTide__1 : yX0_isEarlierTide.cls = RX0 ∧ yX0_isEarlierTide.cls ≠ "java/lang/invoke/MethodHandle" ∧ yX0_isEarlierTide.cls ≠ "java/lang/invoke/VarHandle" ∧ (parseMethodDescriptor yX0_isEarlierTide.desc).map (fun d => d.parameters.length) = some 1 := by decide +kernel
theorem hd_X0_leastKnown__0 : yX0_leastKnown.cls = RX0 ∧ yX0_leastKnown.cls ≠ "java/lang/invoke/MethodHandle" ∧ yX0_leastKnown.cls ≠ "java/lang/invoke/VarHandle" ∧ (parseMethodDescriptor yX0_leastKnown.desc).map (fun d => d.parameters.length) = some 0 := by decide +kernel
theorem hd_X0_lyingBoats__0 : yX0_lyingBoats.cls = RX0 ∧ yX0_lyingBoats.cls ≠ "java/lang/invoke/MethodHandle" ∧ yX0_lyingBoats.cls ≠ "java/lang/invoke/VarHandle" ∧ (parseMethodDescriptor yX0_lyingBoats.desc).map (fun d => d.parameters.length) = some 0 := by decide +kernel
theorem hd_X0_mayLie__3 : yX0_mayLie.cls = RX0 ∧ yX0_mayLie.cls ≠ "java/lang/invoke/MethodHandle" ∧ yX0_mayLie.cls ≠ "java/lang/invoke/VarHandle" ∧ (parseMethodDescriptor yX0_mayLie.desc).map (fun d => d.parameters.length) = some 3 := by decide +kernel
theorem hd_X0_mayMeet__4 : yX0_mayMeet.cls = RX0 ∧ yX0_mayMeet.cls ≠ "java/lang/invoke/MethodHandle" ∧ yX0_mayMeet.cls ≠ "java/lang/invoke/VarHandle" ∧ (parseMethodDescriptor yX0_mayMeet.desc).map (fun d => d.parameters.length) = some 4 := by decide +kernel
theorem hd_X0_partedChains__0 : yX0_partedChains.cls = RX0 ∧ yX0_partedChains.cls ≠ "java/lang/invoke/MethodHandle" ∧ yX0_partedChains.cls ≠ "java/lang/invoke/VarHandle" ∧ (parseMethodDescriptor yX0_partedChains.desc).map (fun d => d.parameters.length) = some 0 := by decide +kernel
theorem hd_X0_passYear__0 : yX0_passYear.cls = RX0 ∧ yX0_passYear.cls ≠ "java/lang/invoke/MethodHandle" ∧ yX0_passYear.cls ≠ "java/lang/invoke/VarHandle" ∧ (parseMethodDescriptor yX0_passYear.desc).map (fun d => d.parameters.length) = some 0 := by decide +kernel
theorem hd_X0_setTide__2 : yX0_setTide.cls = RX0 ∧ yX0_setTide.cls ≠ "java/lang/invoke/MethodHandle" ∧ yX0_setTide.cls ≠ "java/lang/invoke/VarHandle" ∧ (parseMethodDescriptor yX0_setTide.desc).map (fun d => d.parameters.length) = some 2 := by decide +kernel
theorem hd_X0_suits__2 : yX0_suits.cls = RX0 ∧ yX0_suits.cls ≠ "java/lang/invoke/MethodHandle" ∧ yX0_suits.cls ≠ "java/lang/invoke/VarHandle" ∧ (parseMethodDescriptor yX0_suits.desc).map (fun d => d.parameters.length) = some 2 := by decide +kernel
theorem hd_X1_boatOf__1 : yX1_boatOf.cls = RX1 ∧ yX1_boatOf.cls ≠ "java/lang/invoke/MethodHandle" ∧ yX1_boatOf.cls ≠ "java/lang/invoke/VarHandle" ∧ (parseMethodDescriptor yX1_boatOf.desc).map (fun d => d.parameters.length) = some 1 := by decide +kernel
theorem hd_X1_buoyOf__1 : yX1_buoyOf.cls = RX1 ∧ yX1_buoyOf.cls ≠ "java/lang/invoke/MethodHandle" ∧ yX1_buoyOf.cls ≠ "java/lang/invoke/VarHandle" ∧ (parseMethodDescriptor yX1_buoyOf.desc).map (fun d => d.parameters.length) = some 1 := by decide +kernel
theorem hd_X1_copyFrom__1 : yX1_copyFrom.cls = RX1 ∧ yX1_copyFrom.cls ≠ "java/lang/invoke/MethodHandle" ∧ yX1_copyFrom.cls ≠ "java/lang/invoke/VarHandle" ∧ (parseMethodDescriptor yX1_copyFrom.desc).map (fun d => d.parameters.length) = some 1 := by decide +kernel
theorem hd_X1_lift__1 : yX1_lift.cls = RX1 ∧ yX1_lift.cls ≠ "java/lang/invoke/MethodHandle" ∧ yX1_lift.cls ≠ "java/lang/invoke/VarHandle" ∧ (parseMethodDescriptor yX1_lift.desc).map (fun d => d.parameters.length) = some 1 := by decide +kernel
theorem hd_X1_put__2 : yX1_put.cls = RX1 ∧ yX1_put.cls ≠ "java/lang/invoke/MethodHandle" ∧ yX1_put.cls ≠ "java/lang/invoke/VarHandle" ∧ (parseMethodDescriptor yX1_put.desc).map (fun d => d.parameters.length) = some 2 := by decide +kernel
theorem hd_X10_append__1 : yX10_append.cls = RX10 ∧ yX10_append.cls ≠ "java/lang/invoke/MethodHandle" ∧ yX10_append.cls ≠ "java/lang/invoke/VarHandle" ∧ (parseMethodDescriptor yX10_append.desc).map (fun d => d.parameters.length) = some 1 := by decide +kernel
theorem hd_X10_drop__1 : yX10_drop.cls = RX10 ∧ yX10_drop.cls ≠ "java/lang/invoke/MethodHandle" ∧ yX10_drop.cls ≠ "java/lang/invoke/VarHandle" ∧ (parseMethodDescriptor yX10_drop.desc).map (fun d => d.parameters.length) = some 1 := by decide +kernel
theorem hd_X10_firstFor__1 : yX10_firstFor.cls = RX10 ∧ yX10_firstFor.cls ≠ "java/lang/invoke/MethodHandle" ∧ yX10_firstFor.cls ≠ "java/lang/invoke/VarHandle" ∧ (parseMethodDescriptor yX10_firstFor.desc).map (fun d => d.parameters.length) = some 1 := by decide +kernel
theorem hd_X10_placeOf__1 : yX10_placeOf.cls = RX10 ∧ yX10_placeOf.cls ≠ "java/lang/invoke/MethodHandle" ∧ yX10_placeOf.cls ≠ "java/lang/invoke/VarHandle" ∧ (parseMethodDescriptor yX10_placeOf.desc).map (fun d => d.parameters.length) = some 1 := by decide +kernel
theorem hd_X11_finding__1 : yX11_finding.cls = RX11 ∧ yX11_finding.cls ≠ "java/lang/invoke/MethodHandle" ∧ yX11_finding.cls ≠ "java/lang/invoke/VarHandle" ∧ (parseMethodDescriptor yX11_finding.desc).map (fun d => d.parameters.length) = some 1 := by decide +kernel
theorem hd_X11_offeredBoat__1 : yX11_offeredBoat.cls = RX11 ∧ yX11_offeredBoat.cls ≠ "java/lang/invoke/MethodHandle" ∧ yX11_offeredBoat.cls ≠ "java/lang/invoke/VarHandle" ∧ (parseMethodDescriptor yX11_offeredBoat.desc).map (fun d => d.parameters.length) = some 1 := by decide +kernel
theorem hd_X12_canFit__2 : yX12_canFit.cls = RX12 ∧ yX12_canFit.cls ≠ "java/lang/invoke/MethodHandle" ∧ yX12_canFit.cls ≠ "java/lang/invoke/VarHandle" ∧ (parseMethodDescriptor yX12_canFit.desc).map (fun d => d.parameters.length) = some 2 := by decide +kernel
theorem hd_X12_canHave__2 : yX12_canHave.cls = RX12 ∧ yX12_canHave.cls ≠ "java/lang/invoke/MethodHandle" ∧ yX12_canHave.cls ≠ "java/lang/invoke/VarHandle" ∧ (parseMethodDescriptor yX12_canHave.desc).map (fun d => d.parameters.length) = some 2 := by decide +kernel
theorem hd_X12_duesOf__1 : yX12_duesOf.cls = RX12 ∧ yX12_duesOf.cls ≠ "java/lang/invoke/MethodHandle" ∧ yX12_duesOf.cls ≠ "java/lang/invoke/VarHandle" ∧ (parseMethodDescriptor yX12_duesOf.desc).map (fun d => d.parameters.length) = some 1 := by decide +kernel
theorem hd_X12_findMay__0 : yX12_findMay.cls = RX12 ∧ yX12_findMay.cls ≠ "java/lang/invoke/MethodHandle" ∧ yX12_findMay.cls ≠ "java/lang/invoke/VarHandle" ∧ (parseMethodDescriptor yX12_findMay.desc).map (fun d => d.parameters.length) = some 0 := by decide +kernel
theorem hd_X12_findMost__0 : yX12_findMost.cls = RX12 ∧ yX12_findMost.cls ≠ "java/lang/invoke/MethodHandle" ∧ yX12_findMost.cls ≠ "java/lang/invoke/VarHandle" ∧ (parseMethodDescriptor yX12_findMost.desc).map (fun d => d.parameters.length) = some 0 := by decide +kernel
theorem hd_X12_findRings__0 : yX12_findRings.cls = RX12 ∧ yX12_findRings.cls ≠ "java/lang/invoke/MethodHandle" ∧ yX12_findRings.cls ≠ "java/lang/invoke/VarHandle" ∧ (parseMethodDescriptor yX12_findRings.desc).map (fun d => d.parameters.length) = some 0 := by decide +kernel
theorem hd_X12_finding__1 : yX12_finding.cls = RX12 ∧ yX12_finding.cls ≠ "java/lang/invoke/MethodHandle" ∧ yX12_finding.cls ≠ "java/lang/invoke/VarHandle" ∧ (parseMethodDescriptor yX12_finding.desc).map (fun d => d.parameters.length) = some 1 := by decide +kernel
theorem hd_X12_firstTouch__4 : yX12_firstTouch.cls = RX12 ∧ yX12_firstTouch.cls ≠ "java/lang/invoke/MethodHandle" ∧ yX12_firstTouch.cls ≠ "java/lang/invoke/VarHandle" ∧ (parseMethodDescriptor yX12_firstTouch.desc).map (fun d => d.parameters.length) = some 4 := by decide +kernel
theorem hd_X12_flee__1 : yX12_flee.cls = RX12 ∧ yX12_flee.cls ≠ "java/lang/invoke/MethodHandle" ∧ yX12_flee.cls ≠ "java/lang/invoke/VarHandle" ∧ (parseMethodDescriptor yX12_flee.desc).map (fun d => d.parameters.length) = some 1 := by decide +kernel
theorem hd_X12_goesOff__1 : yX12_goesOff.cls = RX12 ∧ yX12_goesOff.cls ≠ "java/lang/invoke/MethodHandle" ∧ yX12_goesOff.cls ≠ "java/lang/invoke/VarHandle" ∧ (parseMethodDescriptor yX12_goesOff.desc).map (fun d => d.parameters.length) = some 1 := by decide +kernel
theorem hd_X12_holds__3 : yX12_holds.cls = RX12 ∧ yX12_holds.cls ≠ "java/lang/invoke/MethodHandle" ∧ yX12_holds.cls ≠ "java/lang/invoke/VarHandle" ∧ (parseMethodDescriptor yX12_holds.desc).map (fun d => d.parameters.length) = some 3 := by decide +kernel
theorem hd_X12_isBoat__1 : yX12_isBoat.cls = RX12 ∧ yX12_isBoat.cls ≠ "java/lang/invoke/MethodHandle" ∧ yX12_isBoat.cls ≠ "java/lang/invoke/VarHandle" ∧ (parseMethodDescriptor yX12_isBoat.desc).map (fun d => d.parameters.length) = some 1 := by decide +kernel
theorem hd_X12_isBuoy__1 : yX12_isBuoy.cls = RX12 ∧ yX12_isBuoy.cls ≠ "java/lang/invoke/MethodHandle" ∧ yX12_isBuoy.cls ≠ "java/lang/invoke/VarHandle" ∧ (parseMethodDescriptor yX12_isBuoy.desc).map (fun d => d.parameters.length) = some 1 := by decide +kernel
theorem hd_X12_isParted__1 : yX12_isParted.cls = RX12 ∧ yX12_isParted.cls ≠ "java/lang/invoke/MethodHandle" ∧ yX12_isParted.cls ≠ "java/lang/invoke/VarHandle" ∧ (parseMethodDescriptor yX12_isParted.desc).map (fun d => d.parameters.length) = some 1 := by decide +kernel
theorem hd_X12_isRound__1 : yX12_isRound.cls = RX12 ∧ yX12_isRound.cls ≠ "java/lang/invoke/MethodHandle" ∧ yX12_isRound.cls ≠ "java/lang/invoke/VarHandle" ∧ (parseMethodDescriptor yX12_isRound.desc).map (fun d => d.parameters.length) = some 1 := by decide +kernel
theorem hd_X12_isThere__1 : yX12_isThere.cls = RX12 ∧ yX12_isThere.cls ≠ "java/lang/invoke/MethodHandle" ∧ yX12_isThere.cls ≠ "java/lang/invoke/VarHandle" ∧ (parseMethodDescriptor yX12_isThere.desc).map (fun d => d.parameters.length) = some 1 := by decide +kernel
theorem hd_X12_lies__2 : yX12_lies.cls = RX12 ∧ yX12_lies.cls ≠ "java/lang/invoke/MethodHandle" ∧ yX12_lies.cls ≠ "java/lang/invoke/VarHandle" ∧ (parseMethodDescriptor yX12_lies.desc).map (fun d => d.parameters.length) = some 2 := by decide +kernel
theorem hd_X12_mayLie__3 : yX12_mayLie.cls = RX12 ∧ yX12_mayLie.cls ≠ "java/lang/invoke/MethodHandle" ∧ yX12_mayLie.cls ≠ "java/lang/invoke/VarHandle" ∧ (parseMethodDescriptor yX12_mayLie.desc).map (fun d => d.parameters.length) = some 3 := by decide +kernel
theorem hd_X12_meet__6 : yX12_meet.cls = RX12 ∧ yX12_meet.cls ≠ "java/lang/invoke/MethodHandle" ∧ yX12_meet.cls ≠ "java/lang/invoke/VarHandle" ∧ (parseMethodDescriptor yX12_meet.desc).map (fun d => d.parameters.length) = some 6 := by decide +kernel
theorem hd_X12_offeredTo__1 : yX12_offeredTo.cls = RX12 ∧ yX12_offeredTo.cls ≠ "java/lang/invoke/MethodHandle" ∧ yX12_offeredTo.cls ≠ "java/lang/invoke/VarHandle" ∧ (parseMethodDescriptor yX12_offeredTo.desc).map (fun d => d.parameters.length) = some 1 := by decide +kernel
theorem hd_X12_partedMany__0 : yX12_partedMany.cls = RX12 ∧ yX12_partedMany.cls ≠ "java/lang/invoke/MethodHandle" ∧ yX12_partedMany.cls ≠ "java/lang/invoke/VarHandle" ∧ (parseMethodDescriptor yX12_partedMany.desc).map (fun d => d.parameters.length) = some 0 := by decide +kernel
theorem hd_X12_placeOnList__1 : yX12_placeOnList.cls = RX12 ∧ yX12_placeOnList.cls ≠ "java/lang/invoke/MethodHandle" ∧ yX12_placeOnList.cls ≠ "java/lang/invoke/VarHandle" ∧ (parseMethodDescriptor yX12_placeOnList.desc).map (fun d => d.parameters.length) = some 1 := by decide +kernel
theorem hd_X12_pointed__1 : yX12_pointed.cls = RX12 ∧ yX12_pointed.cls ≠ "java/lang/invoke/MethodHandle" ∧ yX12_pointed.cls ≠ "java/lang/invoke/VarHandle" ∧ (parseMethodDescriptor yX12_pointed.desc).map (fun d => d.parameters.length) = some 1 := by decide +kernel
theorem hd_X12_reachOf__1 : yX12_reachOf.cls = RX12 ∧ yX12_reachOf.cls ≠ "java/lang/invoke/MethodHandle" ∧ yX12_reachOf.cls ≠ "java/lang/invoke/VarHandle" ∧ (parseMethodDescriptor yX12_reachOf.desc).map (fun d => d.parameters.length) = some 1 := by decide +kernel
theorem hd_X12_slackOf__2 : yX12_slackOf.cls = RX12 ∧ yX12_slackOf.cls ≠ "java/lang/invoke/MethodHandle" ∧ yX12_slackOf.cls ≠ "java/lang/invoke/VarHandle" ∧ (parseMethodDescriptor yX12_slackOf.desc).map (fun d => d.parameters.length) = some 2 := by decide +kernel
theorem hd_X12_touchAt__5 : yX12_touchAt.cls = RX12 ∧ yX12_touchAt.cls ≠ "java/lang/invoke/MethodHandle" ∧ yX12_touchAt.cls ≠ "java/lang/invoke/VarHandle" ∧ (parseMethodDescriptor yX12_touchAt.desc).map (fun d => d.parameters.length) = some 5 := by decide +kernel
theorem hd_X12_touchingOf__3 : yX12_touchingOf.cls = RX12 ∧ yX12_touchingOf.cls ≠ "java/lang/invoke/MethodHandle" ∧ yX12_touchingOf.cls ≠ "java/lang/invoke/VarHandle" ∧ (parseMethodDescriptor yX12_touchingOf.desc).map (fun d => d.parameters.length) = some 3 := by decide +kernel
theorem hd_X3_doubt__0 : yX3_doubt.cls = RX3 ∧ yX3_doubt.cls ≠ "java/lang/invoke/MethodHandle" ∧ yX3_doubt.cls ≠ "java/lang/invoke/VarHandle" ∧ (parseMethodDescriptor yX3_doubt.desc).map (fun d => d.parameters.length) = some 0 := by decide +kernel
theorem hd_X3_flood__2 : yX3_flood.cls = RX3 ∧ yX3_flood.cls ≠ "java/lang/invoke/MethodHandle" ∧ yX3_flood.cls ≠ "java/lang/invoke/VarHandle" ∧ (parseMethodDescriptor yX3_flood.desc).map (fun d => d.parameters.length) = some 2 := by decide +kernel
theorem hd_X3_holds__2 : yX3_holds.cls = RX3 ∧ yX3_holds.cls ≠ "java/lang/invoke/MethodHandle" ∧ yX3_holds.cls ≠ "java/lang/invoke/VarHandle" ∧ (parseMethodDescriptor yX3_holds.desc).map (fun d => d.parameters.length) = some 2 := by decide +kernel
theorem hd_X3_isParted__0 : yX3_isParted.cls = RX3 ∧ yX3_isParted.cls ≠ "java/lang/invoke/MethodHandle" ∧ yX3_isParted.cls ≠ "java/lang/invoke/VarHandle" ∧ (parseMethodDescriptor yX3_isParted.desc).map (fun d => d.parameters.length) = some 0 := by decide +kernel
theorem hd_X3_slackAt__1 : yX3_slackAt.cls = RX3 ∧ yX3_slackAt.cls ≠ "java/lang/invoke/MethodHandle" ∧ yX3_slackAt.cls ≠ "java/lang/invoke/VarHandle" ∧ (parseMethodDescriptor yX3_slackAt.desc).map (fun d => d.parameters.length) = some 1 := by decide +kernel
theorem hd_X3_wear__1 : yX3_wear.cls = RX3 ∧ yX3_wear.cls ≠ "java/lang/invoke/MethodHandle" ∧ yX3_wear.cls ≠ "java/lang/invoke/VarHandle" ∧ (parseMethodDescriptor yX3_wear.desc).map (fun d => d.parameters.length) = some 1 := by decide +kernel
theorem hd_X5_blow__1 : yX5_blow.cls = RX5 ∧ yX5_blow.cls ≠ "java/lang/invoke/MethodHandle" ∧ yX5_blow.cls ≠ "java/lang/invoke/VarHandle" ∧ (parseMethodDescriptor yX5_blow.desc).map (fun d => d.parameters.length) = some 1 := by decide +kernel
theorem hd_X5_refugeOf__2 : yX5_refugeOf.cls = RX5 ∧ yX5_refugeOf.cls ≠ "java/lang/invoke/MethodHandle" ∧ yX5_refugeOf.cls ≠ "java/lang/invoke/VarHandle" ∧ (parseMethodDescriptor yX5_refugeOf.desc).map (fun d => d.parameters.length) = some 2 := by decide +kernel
theorem hd_X6_buoyFor__1 : yX6_buoyFor.cls = RX6 ∧ yX6_buoyFor.cls ≠ "java/lang/invoke/MethodHandle" ∧ yX6_buoyFor.cls ≠ "java/lang/invoke/VarHandle" ∧ (parseMethodDescriptor yX6_buoyFor.desc).map (fun d => d.parameters.length) = some 1 := by decide +kernel
theorem hd_X6_comesRound__1 : yX6_comesRound.cls = RX6 ∧ yX6_comesRound.cls ≠ "java/lang/invoke/MethodHandle" ∧ yX6_comesRound.cls ≠ "java/lang/invoke/VarHandle" ∧ (parseMethodDescriptor yX6_comesRound.desc).map (fun d => d.parameters.length) = some 1 := by decide +kernel
theorem hd_X6_draw__0 : yX6_draw.cls = RX6 ∧ yX6_draw.cls ≠ "java/lang/invoke/MethodHandle" ∧ yX6_draw.cls ≠ "java/lang/invoke/VarHandle" ∧ (parseMethodDescriptor yX6_draw.desc).map (fun d => d.parameters.length) = some 0 := by decide +kernel
theorem hd_X6_holderOfWish__1 : yX6_holderOfWish.cls = RX6 ∧ yX6_holderOfWish.cls ≠ "java/lang/invoke/MethodHandle" ∧ yX6_holderOfWish.cls ≠ "java/lang/invoke/VarHandle" ∧ (parseMethodDescriptor yX6_holderOfWish.desc).map (fun d => d.parameters.length) = some 1 := by decide +kernel
theorem hd_X6_isLeft__1 : yX6_isLeft.cls = RX6 ∧ yX6_isLeft.cls ≠ "java/lang/invoke/MethodHandle" ∧ yX6_isLeft.cls ≠ "java/lang/invoke/VarHandle" ∧ (parseMethodDescriptor yX6_isLeft.desc).map (fun d => d.parameters.length) = some 1 := by decide +kernel
theorem hd_X6_leastInRing__0 : yX6_leastInRing.cls = RX6 ∧ yX6_leastInRing.cls ≠ "java/lang/invoke/MethodHandle" ∧ yX6_leastInRing.cls ≠ "java/lang/invoke/VarHandle" ∧ (parseMethodDescriptor yX6_leastInRing.desc).map (fun d => d.parameters.length) = some 0 := by decide +kernel
theorem hd_X6_pointAll__0 : yX6_pointAll.cls = RX6 ∧ yX6_pointAll.cls ≠ "java/lang/invoke/MethodHandle" ∧ yX6_pointAll.cls ≠ "java/lang/invoke/VarHandle" ∧ (parseMethodDescriptor yX6_pointAll.desc).map (fun d => d.parameters.length) = some 0 := by decide +kernel
theorem hd_X6_pointedAtBy__1 : yX6_pointedAtBy.cls = RX6 ∧ yX6_pointedAtBy.cls ≠ "java/lang/invoke/MethodHandle" ∧ yX6_pointedAtBy.cls ≠ "java/lang/invoke/VarHandle" ∧ (parseMethodDescriptor yX6_pointedAtBy.desc).map (fun d => d.parameters.length) = some 1 := by decide +kernel
theorem hd_X6_takeRing__1 : yX6_takeRing.cls = RX6 ∧ yX6_takeRing.cls ≠ "java/lang/invoke/MethodHandle" ∧ yX6_takeRing.cls ≠ "java/lang/invoke/VarHandle" ∧ (parseMethodDescriptor yX6_takeRing.desc).map (fun d => d.parameters.length) = some 1 := by decide +kernel
theorem hd_X7_barredBy__3 : yX7_barredBy.cls = RX7 ∧ yX7_barredBy.cls ≠ "java/lang/invoke/MethodHandle" ∧ yX7_barredBy.cls ≠ "java/lang/invoke/VarHandle" ∧ (parseMethodDescriptor yX7_barredBy.desc).map (fun d => d.parameters.length) = some 3 := by decide +kernel
theorem hd_X7_buoyFor__1 : yX7_buoyFor.cls = RX7 ∧ yX7_buoyFor.cls ≠ "java/lang/invoke/MethodHandle" ∧ yX7_buoyFor.cls ≠ "java/lang/invoke/VarHandle" ∧ (parseMethodDescriptor yX7_buoyFor.desc).map (fun d => d.parameters.length) = some 1 := by decide +kernel
theorem hd_X7_hopefulFrom__1 : yX7_hopefulFrom.cls = RX7 ∧ yX7_hopefulFrom.cls ≠ "java/lang/invoke/MethodHandle" ∧ yX7_hopefulFrom.cls ≠ "java/lang/invoke/VarHandle" ∧ (parseMethodDescriptor yX7_hopefulFrom.desc).map (fun d => d.parameters.length) = some 1 := by decide +kernel
theorem hd_X7_keepIfBetter__1 : yX7_keepIfBetter.cls = RX7 ∧ yX7_keepIfBetter.cls ≠ "java/lang/invoke/MethodHandle" ∧ yX7_keepIfBetter.cls ≠ "java/lang/invoke/VarHandle" ∧ (parseMethodDescriptor yX7_keepIfBetter.desc).map (fun d => d.parameters.length) = some 1 := by decide +kernel
theorem hd_X7_narrow__2 : yX7_narrow.cls = RX7 ∧ yX7_narrow.cls ≠ "java/lang/invoke/MethodHandle" ∧ yX7_narrow.cls ≠ "java/lang/invoke/VarHandle" ∧ (parseMethodDescriptor yX7_narrow.desc).map (fun d => d.parameters.length) = some 2 := by decide +kernel
theorem hd_X7_openAtFirst__1 : yX7_openAtFirst.cls = RX7 ∧ yX7_openAtFirst.cls ≠ "java/lang/invoke/MethodHandle" ∧ yX7_openAtFirst.cls ≠ "java/lang/invoke/VarHandle" ∧ (parseMethodDescriptor yX7_openAtFirst.desc).map (fun d => d.parameters.length) = some 1 := by decide +kernel
theorem hd_X7_run__1 : yX7_run.cls = RX7 ∧ yX7_run.cls ≠ "java/lang/invoke/MethodHandle" ∧ yX7_run.cls ≠ "java/lang/invoke/VarHandle" ∧ (parseMethodDescriptor yX7_run.desc).map (fun d => d.parameters.length) = some 1 := by decide +kernel
theorem hd_X7_settle__2 : yX7_settle.cls = RX7 ∧ yX7_settle.cls ≠ "java/lang/invoke/MethodHandle" ∧ yX7_settle.cls ≠ "java/lang/invoke/VarHandle" ∧ (parseMethodDescriptor yX7_settle.desc).map (fun d => d.parameters.length) = some 2 := by decide +kernel
