/-! sheets, years, the dam: answers by the model's cells -/
def itm (N : Ints) (s i : Int) : Int := N 138 (40 * s + i)
def notv (N : Ints) (s t : Int) : Int := if N 136 s < 0 then -11 else if N 136 s = t then 0 else -13
/-- the first k of g together, if each is a number of thanks -/
def thk (g : Int → Int) : Nat → Option Int
  | 0 => some 0
  | k + 1 => match thk g k with
    | some s => if -9999 ≤ g k ∧ g k ≤ 9999 then some (s + g k) else none
    | none => none
theorem thk_bd {g : Int → Int} : ∀ (k : Nat) {s : Int}, thk g k = some s → -9999 * k ≤ s ∧ s ≤ 9999 * k ∧ ∀ i : Int, 0 ≤ i → i < k → -9999 ≤ g i ∧ g i ≤ 9999
  | 0, s, h => by
    have : some (0 : Int) = some s := h
    injection this with this
    exact ⟨by omega, by omega, fun i x y => by omega⟩
  | k + 1, s, h => by
    have e : thk g (k + 1) = match thk g k with | some s => if -9999 ≤ g k ∧ g k ≤ 9999 then some (s + g k) else none | none => none := rfl
    rw [e] at h
    cases hk : thk g k with
    | none => rw [hk] at h; cases h
    | some s0 =>
      rw [hk] at h
      by_cases c : -9999 ≤ g k ∧ g k ≤ 9999
      · simp only [c, and_self, if_true] at h
        injection h with h
        have ih := thk_bd k hk
        refine ⟨by omega, by omega, fun i x y => ?_⟩
        by_cases z : i = k
        · rw [z]; exact c
        · exact ih.2.2 i x (by omega)
      · simp only [c, if_false] at h
        cases h
theorem thk_step {g : Int → Int} {k : Nat} {s : Int} (h : thk g k = some s) : thk g (k + 1) = if -9999 ≤ g k ∧ g k ≤ 9999 then some (s + g k) else none := by
  have e : thk g (k + 1) = match thk g k with | some s => if -9999 ≤ g k ∧ g k ≤ 9999 then some (s + g k) else none | none => none := rfl
  rw [e, h]
theorem thk_none {g : Int → Int} {k : Nat} (h : thk g k = none) : ∀ m : Nat, thk g (k + m) = none
  | 0 => h
  | m + 1 => by
    have e : thk g (k + m + 1) = match thk g (k + m) with | some s => if -9999 ≤ g ((k + m : Nat) : Int) ∧ g ((k + m : Nat) : Int) ≤ 9999 then some (s + g ((k + m : Nat) : Int)) else none | none => none := rfl
    show thk g (k + m + 1) = none
    rw [e, thk_none h m]
def F_lawful (N : Ints) (s : Int) : Int := if 0 ≤ s ∧ s ≤ 3 then (if notv N s 2 = 0 then (if N 137 s = N 112 0 then (match thk (itm N s) (N 112 0).toNat with
  | none => -4
  | some z => if z = 0 then brk (N 112) (fun v => bM (N 112) v + itm N s v) else 300) else -4) else notv N s 2) else -1
def F_year (N : Ints) (w : Int) : Int := if 0 ≤ w ∧ w ≤ 20 then (if N 112 1 = 6 then -2 else N 112 1) else -1
abbrev yearP (N : Ints) (w : Int) : Prop := (0 ≤ w ∧ w ≤ 20) ∧ N 112 1 ≠ 6
def G_year (N : Ints) (w : Int) : Ints := if yearP N w then upI (upI N 112 (118 + N 112 1) w) 112 1 (N 112 1 + 1) else N
abbrev yofP (N : Ints) (y w : Int) : Prop := (0 ≤ y ∧ y < N 112 1) ∧ (0 ≤ w ∧ w ≤ 20)
def F_yearOf (N : Ints) (y w : Int) : Int := if yofP N y w then N 112 (118 + y) else -1
def G_yearOf (N : Ints) (y w : Int) : Ints := if yofP N y w then upI N 112 (118 + y) w else N
abbrev damP (N : Ints) (v h : Int) : Prop := (v = -1 ∨ (0 ≤ v ∧ v < N 112 0)) ∧ (0 ≤ h ∧ h ≤ 4)
def F_dam (N : Ints) (v h : Int) : Int := if damP N v h then 1 else -1
def G_dam (N : Ints) (v h : Int) : Ints := if damP N v h then upI (upI N 112 4 v) 112 5 h else N
