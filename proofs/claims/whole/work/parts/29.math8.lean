/-! acts: what they answer, which bodies run, whether one parts by 0; k the kind, a and n its numbers -/
def xr (x y : Int) : Int := (i32 x ^^^ i32 y).toInt
def bod (k j : Int) : Int := ([10, 11, 12, 13, 10, 20, 12, 13, 30, 11, 12, 13, 30, 40, 12, 41, 30, 11, 50, 13, 60, 40, 61, 41, 70, 71, 72, 73] : List Int).getD (4 * k + j).toNat 0
abbrev AR : Type := Int × List Int × Bool
def o10 (a x : Int) : AR := (wr (x + a), [10], false)
def o30 (a x : Int) : AR := (wr ((o10 a x).1 * 3), 30 :: (o10 a x).2.1, (o10 a x).2.2)
def o60 (a x : Int) : AR := (xr (o30 a x).1 a, 60 :: (o30 a x).2.1, (o30 a x).2.2)
def o70 (a x : Int) : AR := (wr (x - a), [70], false)
def oA0 (k a x : Int) : AR := if k = 2 ∨ k = 3 ∨ k = 4 then o30 a x else if k = 5 then o60 a x else if k = 6 then o70 a x else o10 a x
def o11 (k a x : Int) : AR := (wr ((oA0 k a x).1 * 2), 11 :: (oA0 k a x).2.1, (oA0 k a x).2.2)
def o71 (k a n x : Int) : AR := (wr ((oA0 k a x).1 * n), 71 :: (oA0 k a x).2.1, (oA0 k a x).2.2)
def o20 (k a x : Int) : AR := (wr (0 - (o11 k a x).1), 20 :: (o11 k a x).2.1, (o11 k a x).2.2)
def o40 (k a x : Int) : AR := (wr ((o11 k a x).1 + a), 40 :: (o11 k a x).2.1, (o11 k a x).2.2)
def oA1 (k a n x : Int) : AR := if k = 1 then o20 k a x else if k = 3 ∨ k = 5 then o40 k a x else if k = 6 then o71 k a n x else o11 k a x
def o12 (a n x : Int) : AR := if a = n then (0, [12], true) else (wr (x.tdiv (a - n)), [12], false)
def o50 (a n x : Int) : AR := ((o12 a n (wr (x - 1))).1, 50 :: (o12 a n (wr (x - 1))).2.1, (o12 a n (wr (x - 1))).2.2)
def o61 (a n x : Int) : AR := ((o12 a n (wr (x + 2))).1, 61 :: (o12 a n (wr (x + 2))).2.1, (o12 a n (wr (x + 2))).2.2)
def o72 (a x : Int) : AR := (xr x a, [72], false)
def oA2 (k a n x : Int) : AR := if k = 4 then o50 a n x else if k = 5 then o61 a n x else if k = 6 then o72 a x else o12 a n x
def o13 (k a n x : Int) : AR := (xr (oA1 k a n x).1 n, 13 :: (oA1 k a n x).2.1, (oA1 k a n x).2.2)
def o41 (k a n x : Int) : AR := (wr ((o13 k a n x).1 + (oA2 k a n (n + 1)).1), 41 :: ((o13 k a n x).2.1 ++ (oA2 k a n (n + 1)).2.1), (o13 k a n x).2.2 || (oA2 k a n (n + 1)).2.2)
def o73 (k a n x : Int) : AR := (wr ((oA1 k a n x).1 + (oA2 k a n n).1), 73 :: ((oA1 k a n x).2.1 ++ (oA2 k a n n).2.1), (oA1 k a n x).2.2 || (oA2 k a n n).2.2)
def oA3 (k a n x : Int) : AR := if k = 3 ∨ k = 5 then o41 k a n x else if k = 6 then o73 k a n x else o13 k a n x
def oA (k a n j x : Int) : AR := if j = 0 then oA0 k a x else if j = 1 then oA1 k a n x else if j = 2 then oA2 k a n x else oA3 k a n x
/-- the trace, and how many bodies it tells, after the bodies of L ran too -/
def ap : (Int → Int) × Int → List Int → (Int → Int) × Int
  | s, [] => s
  | s, w :: L => ap (if s.2 < 30 then (fun j => if j = s.2 then w else s.1 j, s.2 + 1) else s) L
theorem ap_append (L' : List Int) : ∀ (L : List Int) (s : (Int → Int) × Int), ap s (L ++ L') = ap (ap s L) L'
  | [], _ => rfl
  | _ :: L, _ => ap_append L' L _
theorem ap_bd : ∀ (L : List Int) (s : (Int → Int) × Int), 0 ≤ s.2 → s.2 ≤ 30 → 0 ≤ (ap s L).2 ∧ (ap s L).2 ≤ 30
  | [], s, h0, h1 => ⟨h0, h1⟩
  | w :: L, s, h0, h1 => by
    show 0 ≤ (ap (if s.2 < 30 then (fun j => if j = s.2 then w else s.1 j, s.2 + 1) else s) L).2 ∧ (ap (if s.2 < 30 then (fun j => if j = s.2 then w else s.1 j, s.2 + 1) else s) L).2 ≤ 30
    by_cases c : s.2 < 30
    · rw [if_pos c]
      exact ap_bd L _ (by show 0 ≤ s.2 + 1; omega) (by show s.2 + 1 ≤ 30; omega)
    · rw [if_neg c]
      exact ap_bd L s h0 h1
/-- the number a of a thing of a kind, of village v -/
def itsv (f : Int → Int) (k v : Int) : Int := if k = 6 then f (10 + 18 * v + 0) else if k = 0 ∨ k = 2 then bM f v else shv f (if k = 1 then 0 else if k = 3 then 1 else if k = 4 then 2 else 3) v
abbrev actP (N : Ints) (s j : Int) : Prop := (0 ≤ s ∧ s ≤ 3) ∧ (0 ≤ j ∧ j ≤ 3) ∧ thgP N s
def actR (N : Ints) (s j x : Int) : AR := oA (N 140 s) (itsv (N 112) (N 140 s) (N 141 s)) (N 141 s) j x
def F_act (N : Ints) (s j x : Int) : Int := if actP N s j then (if (actR N s j x).2.2 = true then -15 else (actR N s j x).1) else 0
def actL (N : Ints) (s j x : Int) : List Int := if actP N s j then (actR N s j x).2.1 else []
def G_act (N : Ints) (s j x : Int) : Ints := upI (rowI N 142 (ap (N 142, 0) (actL N s j x)).1) 111 39 (ap (N 142, 0) (actL N s j x)).2
theorem itsv_bd {f : Int → Int} (h : WN f) (k : Int) {v : Int} (h0 : 0 ≤ v) (h1 : v < f 0) : -30000 ≤ itsv f k v ∧ itsv f k v ≤ 30000 := by
  have hn := h.nv
  have a := (h.fact h0 (show v < 6 by omega)).1
  have b := bM_bd h h0 h1
  have c := shv_bd h (if k = 1 then 0 else if k = 3 then 1 else if k = 4 then 2 else 3) h0 h1
  unfold itsv
  split
  · omega
  · split <;> omega
