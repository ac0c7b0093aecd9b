/-! rows and sheets: answers by the model's cells -/
def prow (f old : Int → Int) : Int → Int := fun j => if 0 ≤ j ∧ j < 3 * f 0 then (if j % 3 = 0 then j / 3 else if j % 3 = 1 then bU f (j / 3) else bP f (j / 3)) else old j
def F_prove (N : Ints) : Int := N 112 0
def G_prove (N : Ints) : Ints := upI (rowI N 135 (prow (N 112) (N 135))) 111 31 (N 112 0)
abbrev rowP (N : Ints) (i w : Int) : Prop := (0 ≤ i ∧ i < N 111 31) ∧ (0 ≤ w ∧ w ≤ 2)
def F_row (N : Ints) (i w : Int) : Int := if rowP N i w then N 135 (3 * i + w) else -9
def G_alterRow (N : Ints) (i w v : Int) : Ints := if rowP N i w then upI N 135 (3 * i + w) v else N
abbrev jdP (N : Ints) (i ab : Int) : Prop := (i < N 112 0 ∧ N 135 (3 * i) = i) ∧ (0 ≤ N 135 (3 * i + 1) ∧ N 135 (3 * i + 1) ≤ 12) ∧ N 135 (3 * i + 1) ≤ ab + N 112 (10 + 18 * i + 0) ∧ N 135 (3 * i + 2) = ab + N 112 (10 + 18 * i + 0) - N 135 (3 * i + 1)
def jdg (N : Ints) : Nat → Int → Int → Int → Int
  | 0, _, _, s => if N 111 31 = N 112 0 then (if s < bestv (N 112) 10 then 22 else 0) else 21
  | m + 1, i, ab, s => if jdP N i ab then jdg N m (i + 1) (N 135 (3 * i + 2)) (s + mde (N 112) i (N 135 (3 * i + 1)) (N 135 (3 * i + 2))) else i + 1
def F_judge (N : Ints) : Int := jdg N (N 111 31).toNat 0 0 0
abbrev shtP (t n : Int) : Prop := 0 ≤ t → n ≤ 40
def F_sheet (s t n : Int) : Int := if (0 ≤ s ∧ s ≤ 3) ∧ (-1 ≤ t ∧ t ≤ 3) ∧ (0 ≤ t → n ≤ 40) then (if 0 ≤ t ∧ n < 0 then -14 else 1) else -1
def G_sheet (N : Ints) (s t n : Int) : Ints := if ((0 ≤ s ∧ s ≤ 3) ∧ (-1 ≤ t ∧ t ≤ 3) ∧ (0 ≤ t → n ≤ 40)) ∧ ¬(0 ≤ t ∧ n < 0) then rowI (upI (upI N 136 s t) 137 s (if t < 0 then 0 else n)) 138 (fun j => if 40 * s ≤ j ∧ j < 40 * s + 40 then 0 else N 138 j) else N
def nrw (t v : Int) : Int := if t = 0 then (i32 v).toInt8.toInt32.toInt else if t = 1 then (i32 v).toInt16.toInt32.toInt else v
abbrev putP (N : Ints) (s i : Int) : Prop := (0 ≤ s ∧ s ≤ 3) ∧ 0 ≤ N 136 s ∧ (0 ≤ i ∧ i < N 137 s)
def F_put (N : Ints) (s i : Int) : Int := if 0 ≤ s ∧ s ≤ 3 then (if N 136 s < 0 then -11 else if 0 ≤ i ∧ i < N 137 s then 1 else -12) else -1
def G_put (N : Ints) (s i v : Int) : Ints := if putP N s i then upI N 138 (40 * s + i) (nrw (N 136 s) v) else N
def F_item (N : Ints) (s t i : Int) : Int := if (0 ≤ s ∧ s ≤ 3) ∧ (0 ≤ t ∧ t ≤ 3) then (if notv N s t = 0 then (if 0 ≤ i ∧ i < N 137 s then itm N s i else -12) else notv N s t) else -1
def wok (g : Int → Int) : Nat → Option Int
  | 0 => some 99
  | k + 1 => match wok g k with
    | some a => if 0 ≤ g k ∧ g k ≤ a then some (g k) else none
    | none => none
theorem wok_step {g : Int → Int} {k : Nat} {a : Int} (h : wok g k = some a) : wok g (k + 1) = if 0 ≤ g k ∧ g k ≤ a then some (g k) else none := by
  have e : wok g (k + 1) = match wok g k with | some a => if 0 ≤ g k ∧ g k ≤ a then some (g k) else none | none => none := rfl
  rw [e, h]
theorem wok_none {g : Int → Int} {k : Nat} (h : wok g k = none) : ∀ m : Nat, wok g (k + m) = none
  | 0 => h
  | m + 1 => by
    have e : wok g (k + m + 1) = match wok g (k + m) with | some a => if 0 ≤ g ((k + m : Nat) : Int) ∧ g ((k + m : Nat) : Int) ≤ a then some (g ((k + m : Nat) : Int)) else none | none => none := rfl
    show wok g (k + m + 1) = none
    rw [e, wok_none h m]
theorem wok_bd {g : Int → Int} : ∀ (k : Nat) {a : Int}, wok g k = some a → (0 ≤ a ∧ a ≤ 99) ∧ ∀ i : Int, 0 ≤ i → i < k → 0 ≤ g i ∧ g i ≤ 99
  | 0, a, h => by
    have : some (99 : Int) = some a := h
    injection this with this
    exact ⟨by omega, fun i x y => by omega⟩
  | k + 1, a, h => by
    cases hk : wok g k with
    | none => rw [wok_none hk 1] at h; cases h
    | some a0 =>
      rw [wok_step hk] at h
      have ih := wok_bd k hk
      by_cases c : 0 ≤ g k ∧ g k ≤ a0
      · rw [if_pos c] at h
        injection h with h
        refine ⟨by omega, fun i x y => ?_⟩
        by_cases z : i = k
        · rw [z]; omega
        · exact ih.2 i x (by omega)
      · rw [if_neg c] at h
        cases h
def F_worths (N : Ints) (v s : Int) : Int := if (0 ≤ v ∧ v < N 112 0) ∧ (0 ≤ s ∧ s ≤ 3) then (if notv N s 0 = 0 then (if N 137 s = 12 ∧ (wok (itm N s) 12).isSome = true then 1 else -4) else notv N s 0) else -1
abbrev wthP (N : Ints) (v s : Int) : Prop := ((0 ≤ v ∧ v < N 112 0) ∧ (0 ≤ s ∧ s ≤ 3)) ∧ notv N s 0 = 0 ∧ N 137 s = 12 ∧ (wok (itm N s) 12).isSome = true
def G_worths (N : Ints) (v s : Int) : Ints := if wthP N v s then rowI N 112 (fun j => if 10 + 18 * v + 6 ≤ j ∧ j < 10 + 18 * v + 18 then itm N s (j - (10 + 18 * v + 6)) else N 112 j) else N
def flo (v s i : Int) : Nat → Int → Ints → Int → Int × Ints
  | 0, _, N, c => (c, N)
  | m + 1, k, N, c => if i < 0 ∨ N 137 s - 1 - k < i then (-12, N) else if (0 ≤ v + k ∧ v + k < N 112 0) ∧ (0 ≤ itm N s (i + k) ∧ itm N s (i + k) ≤ 12) then flo v s i m (k + 1) (upI N 112 (10 + 18 * (v + k) + 0) (itm N s (i + k))) (c + 1) else flo v s i m (k + 1) N c
abbrev flwP (N : Ints) (v s n : Int) : Prop := (0 ≤ v ∧ v < N 112 0) ∧ (0 ≤ s ∧ s ≤ 3) ∧ (0 ≤ n ∧ n ≤ 6)
def F_flows (N : Ints) (v s i n : Int) : Int := if flwP N v s n then (if notv N s 1 = 0 then (flo v s i n.toNat 0 N 0).1 else notv N s 1) else -1
def G_flows (N : Ints) (v s i n : Int) : Ints := if flwP N v s n ∧ notv N s 1 = 0 then (flo v s i n.toNat 0 N 0).2 else N
abbrev shfP (N : Ints) (s w n : Int) : Prop := (0 ≤ s ∧ s ≤ 3) ∧ (0 ≤ w ∧ w ≤ 8) ∧ (w < 7 → 0 ≤ n ∧ n < N 112 0) ∧ (w = 7 → 0 ≤ n ∧ n ≤ 3)
def F_shelf (N : Ints) (s w n : Int) : Int := if shfP N s w n then 1 else -1
def G_shelf (N : Ints) (s w n : Int) : Ints := if shfP N s w n then upI (upI (upI N 139 s (if w < 7 then 1 else if w = 7 ∧ 0 ≤ N 136 n then 2 else 0)) 140 s (if w = 7 then N 136 n else w)) 141 s (if w = 7 then N 137 n else n) else N
abbrev thgP (N : Ints) (s : Int) : Prop := N 139 s = 1 ∧ (0 ≤ N 141 s ∧ N 141 s < N 112 0)
def abv (k : Int) : Int := if k = 1 ∨ k = 2 then 0 else if k = 3 ∨ k = 4 then 2 else if k = 5 then 3 else -1
def unw (a : Int) : Nat → Int → Int
  | 0, k => k
  | m + 1, k => if 0 ≤ k ∧ k ≠ a then unw a m (abv k) else k
def F_taken (N : Ints) (s a : Int) : Int := if (0 ≤ s ∧ s ≤ 3) ∧ ((0 ≤ a ∧ a ≤ 6) ∨ (10 ≤ a ∧ a ≤ 13)) then (if N 139 s = 2 then (if a - 10 = N 140 s then N 141 s else -13) else if thgP N s then (if unw a 8 (N 140 s) = a then N 141 s else -13) else -11) else -1
def F_trace (N : Ints) (i : Int) : Int := if 0 ≤ i ∧ i < N 111 39 then N 142 i else -3
def F_many (N : Ints) (w : Int) : Int := if w = 0 then N 112 0 else if w = 1 then N 112 1 else if w = 2 then N 112 2 else if w = 3 then N 111 31 else if w = 4 then N 111 17 else if w = 5 then N 111 39 else if w = 6 then N 112 5 else if w = 7 then N 112 4 else -1
def G_keep (N : Ints) : Ints := upI (rowI N 113 (fun j => if 0 ≤ j ∧ j < 356 then N 112 j else N 113 j)) 111 2 1
def F_again (N : Ints) : Int := if N 111 2 = 0 then -3 else 1
def G_again (N : Ints) : Ints := if N 111 2 = 0 then N else rowI N 112 (fun j => if 0 ≤ j ∧ j < 356 then N 113 j else N 112 j)
/-- the sheets and shelves are as told -/
def WS (N : Ints) : Prop := (0 ≤ N 111 31 ∧ N 111 31 ≤ 6) ∧ (∀ s, 0 ≤ s → s < 4 → (-1 ≤ N 136 s ∧ N 136 s ≤ 3) ∧ (0 ≤ N 137 s ∧ N 137 s ≤ 40) ∧ (N 139 s = 1 → 0 ≤ N 140 s ∧ N 140 s ≤ 6)) ∧ (0 ≤ N 111 39 ∧ N 111 39 ≤ 30) ∧ (0 ≤ N 111 17 ∧ N 111 17 ≤ 200)
