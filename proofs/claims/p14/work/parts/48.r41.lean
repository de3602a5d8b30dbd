/-! ===== THE MOST, as a plain search: BUOYS by numbers, none (12) last; the first of the best ===== -/
section SX
def su (t : Nat → Nat) (i c : Nat) : Nat → Nat := fun j => if j = i then c else t j
theorem su_s {t : Nat → Nat} {i c : Nat} : su t i c i = c := if_pos rfl
theorem su_n {t : Nat → Nat} {i c j : Nat} (h : j ≠ i) : su t i c j = t j := if_neg h
def lf (s : Int × (Nat → Nat)) (cnt : Int) (t : Nat → Nat) : Int × (Nat → Nat) := if s.1 < cnt then (cnt, t) else s
/-- at level i, k BUOYS are left to try -/
def exC (E : (Nat → Nat) → Int → Int × (Nat → Nat) → Int × (Nat → Nat)) (o : Nat → Bool) (t : Nat → Nat) (i : Nat) (cnt : Int) : Nat → Int × (Nat → Nat) → Int × (Nat → Nat)
  | 0, s => E (su t i 12) cnt s
  | k + 1, s => exC E o t i cnt k (if o (11 - k) = true then E (su t i (11 - k)) (cnt + 1) s else s)
def ex (ok : (Nat → Nat) → Nat → Nat → Bool) : Nat → Nat → (Nat → Nat) → Int → Int × (Nat → Nat) → Int × (Nat → Nat)
  | 0 => fun _ t cnt s => lf s cnt t
  | r + 1 => fun i t cnt s => exC (ex ok r (i + 1)) (ok t i) t i cnt 12 s
def cH (h : Nat → Bool) : Nat → Nat → Nat
  | _, 0 => 0
  | j, r + 1 => (if h j = true then 1 else 0) + cH h (j + 1) r
theorem cH_mono {h h' : Nat → Bool} : ∀ (r j : Nat), (∀ k, j ≤ k → h' k = true → h k = true) → cH h' j r ≤ cH h j r := by
  intro r
  induction r with
  | zero => intro j _; exact Nat.le_refl _
  | succ r ih =>
    intro j hm
    have := ih (j + 1) (fun k hk => hm k (by omega))
    show (if h' j = true then 1 else 0) + cH h' (j + 1) r ≤ (if h j = true then 1 else 0) + cH h (j + 1) r
    by_cases c : h' j = true
    · rw [if_pos c, if_pos (hm j (Nat.le_refl _) c)]
      omega
    · rw [if_neg c]
      omega
theorem cH_all : ∀ (r j : Nat), cH (fun _ => true) j r = r := by
  intro r
  induction r with
  | zero => intro j; rfl
  | succ r ih =>
    intro j
    show 1 + cH (fun _ => true) (j + 1) r = r + 1
    rw [ih]
    omega
/-- nothing better is to be had -/
theorem ex_no {ok : (Nat → Nat) → Nat → Nat → Bool} {h : Nat → (Nat → Nat) → Nat → Bool} (hm : ∀ i t c j, i < j → h (i + 1) (su t i c) j = true → h i t j = true) (ho : ∀ i t p, p < 12 → ok t i p = true → h i t i = true) : ∀ (r i : Nat) (t : Nat → Nat) (cnt : Int) (s : Int × (Nat → Nat)), (cnt + (cH (h i t) i r : Int) ≤ s.1 → ex ok r i t cnt s = s) ∧ (∀ r', r = r' + 1 → ∀ k, k ≤ 12 → cnt + (cH (h i t) i r : Int) ≤ s.1 → exC (ex ok r' (i + 1)) (ok t i) t i cnt k s = s) := by
  intro r
  induction r with
  | zero =>
    intro i t cnt s
    refine ⟨fun q => ?_, fun r' e => by omega⟩
    show (if s.1 < cnt then (cnt, t) else s) = s
    have q' : cnt + ((0 : Nat) : Int) ≤ s.1 := q
    rw [if_neg (by omega)]
  | succ r ih =>
    intro i t cnt s
    have C : ∀ k, k ≤ 12 → cnt + (cH (h i t) i (r + 1) : Int) ≤ s.1 → exC (ex ok r (i + 1)) (ok t i) t i cnt k s = s := by
      intro k
      have q0 : cH (h i t) i (r + 1) = (if h i t i = true then 1 else 0) + cH (h i t) (i + 1) r := rfl
      have lt : ∀ c, cH (h (i + 1) (su t i c)) (i + 1) r ≤ cH (h i t) (i + 1) r := fun c => cH_mono r (i + 1) (fun j hj => hm i t c j (by omega))
      induction k with
      | zero =>
        intro _ q
        refine (ih (i + 1) (su t i 12) cnt s).1 ?_
        have := lt 12
        omega
      | succ k ihk =>
        intro hk q
        show exC (ex ok r (i + 1)) (ok t i) t i cnt k (if ok t i (11 - k) = true then ex ok r (i + 1) (su t i (11 - k)) (cnt + 1) s else s) = s
        by_cases c : ok t i (11 - k) = true
        · rw [if_pos c]
          have := lt (11 - k)
          rw [if_pos (ho i t _ (by omega) c)] at q0
          rw [(ih (i + 1) (su t i (11 - k)) (cnt + 1) s).1 (by omega)]
          exact ihk (by omega) q
        · rw [if_neg c]
          exact ihk (by omega) q
    exact ⟨fun q => C 12 (Nat.le_refl _) q, fun r' e k hk q => by
      have : r = r' := by omega
      subst this
      exact C k hk q⟩
theorem ex_no1 {ok : (Nat → Nat) → Nat → Nat → Bool} {r i : Nat} {t : Nat → Nat} {cnt : Int} {s : Int × (Nat → Nat)} (q : cnt + (r : Int) ≤ s.1) : ex ok r i t cnt s = s := by
  refine (ex_no (ok := ok) (h := fun _ _ _ => true) (fun _ _ _ _ _ _ => rfl) (fun _ _ _ _ _ => rfl) r i t cnt s).1 ?_
  rw [cH_all]
  exact q
theorem ex_no2 {ok : (Nat → Nat) → Nat → Nat → Bool} {r i k : Nat} {t : Nat → Nat} {cnt : Int} {s : Int × (Nat → Nat)} (hk : k ≤ 12) (q : cnt + ((r + 1 : Nat) : Int) ≤ s.1) : exC (ex ok r (i + 1)) (ok t i) t i cnt k s = s := by
  refine (ex_no (ok := ok) (h := fun _ _ _ => true) (fun _ _ _ _ _ _ => rfl) (fun _ _ _ _ _ => rfl) (r + 1) i t cnt s).2 r rfl k hk ?_
  rw [cH_all]
  exact q
/-- the best count grows, and reaches what was settled -/
theorem ex_ge {ok : (Nat → Nat) → Nat → Nat → Bool} : ∀ (r i : Nat) (t : Nat → Nat) (cnt : Int) (s : Int × (Nat → Nat)), cnt ≤ (ex ok r i t cnt s).1 := by
  intro r
  induction r with
  | zero =>
    intro i t cnt s
    show cnt ≤ (if s.1 < cnt then (cnt, t) else s).1
    by_cases c : s.1 < cnt
    · rw [if_pos c]
      exact Int.le_refl _
    · rw [if_neg c]
      omega
  | succ r ih =>
    intro i t cnt s
    show cnt ≤ (exC (ex ok r (i + 1)) (ok t i) t i cnt 12 s).1
    generalize 12 = k
    induction k generalizing s with
    | zero => exact ih _ _ _ _
    | succ k ihk => exact ihk _
theorem ex_in {ok : (Nat → Nat) → Nat → Nat → Bool} : ∀ (r i : Nat) (t : Nat → Nat) (cnt : Int) (s : Int × (Nat → Nat)) (m : Int), s.1 ≤ m → cnt + (r : Int) ≤ m → (ex ok r i t cnt s).1 ≤ m := by
  intro r
  induction r with
  | zero =>
    intro i t cnt s m h1 h2
    show (if s.1 < cnt then (cnt, t) else s).1 ≤ m
    by_cases c : s.1 < cnt
    · rw [if_pos c]
      show cnt ≤ m
      have h2' : cnt + ((0 : Nat) : Int) ≤ m := h2
      omega
    · rw [if_neg c]
      exact h1
  | succ r ih =>
    intro i t cnt s m h1 h2
    have h3 : cnt + ((r : Int) + 1) ≤ m := h2
    show (exC (ex ok r (i + 1)) (ok t i) t i cnt 12 s).1 ≤ m
    generalize 12 = k
    induction k generalizing s with
    | zero => exact ih _ _ _ _ _ h1 (by omega)
    | succ k ihk =>
      refine ihk _ ?_
      by_cases c : ok t i (11 - k) = true
      · rw [if_pos c]
        exact ih _ _ _ _ _ h1 (by omega)
      · rw [if_neg c]
        exact h1
end SX
