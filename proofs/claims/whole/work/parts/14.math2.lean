/-! the answers, by the model's cells N -/
def F_villageOf (N : Ints) (v w : Int) : Int := if (0 ≤ v ∧ v < N 112 0) ∧ (0 ≤ w ∧ w ≤ 5) then N 112 (10 + 18 * v + w) else -1
def F_worth (N : Ints) (v n : Int) : Int := if (0 ≤ v ∧ v < N 112 0) ∧ (0 ≤ n ∧ n ≤ 12) then fst (N 112) v n.toNat else -1
def F_best (N : Ints) (w : Int) : Int := if 0 ≤ w ∧ w ≤ 20 then bestv (N 112) w else -1000001
/-- what v uses, what passes it, what it makes when all do their best -/
def bU (f : Int → Int) (v : Int) : Int := puse f (infl f 10) (f 0 - 1) v.toNat
def bP (f : Int → Int) (v : Int) : Int := pab f (infl f 10) (f 0 - 1) (v.toNat + 1)
def bM (f : Int → Int) (v : Int) : Int := mde f v (bU f v) (bP f v)
def F_use (N : Ints) (v w : Int) : Int := if (0 ≤ v ∧ v < N 112 0) ∧ (0 ≤ w ∧ w ≤ 2) then (if w = 0 then bU (N 112) v else if w = 1 then bP (N 112) v else bM (N 112) v) else -1000001
def F_price (N : Ints) (v : Int) : Int := if 0 ≤ v ∧ v < N 112 0 then (bb (N 112) (fun i => if i = v then infl (N 112) 10 v + 1 else infl (N 112) 10 i) (N 112 0 - 1).toNat 0 (if 0 = v then infl (N 112) 10 v + 1 else infl (N 112) 10 0)).1 - bestv (N 112) 10 else -1000001
def F_run (N : Ints) (a l : Int) : Int := if (0 ≤ a ∧ a < N 112 0) ∧ (0 ≤ l ∧ l < N 112 0) ∧ a ≤ l then runv (N 112) a l else -1000001
def F_most (N : Ints) (v : Int) : Int := if 0 ≤ v ∧ v < N 112 0 then mostv (N 112) v else -1
abbrev setP (N : Ints) (v w n : Int) : Prop := (0 ≤ v ∧ v < N 112 0) ∧ (0 ≤ w ∧ w ≤ 5) ∧ ((if w = 5 then 1 else 0) ≤ n ∧ n ≤ (if w = 0 then 12 else if w = 1 ∨ w = 4 then 99 else if w = 2 then 9 else if w = 3 then 20 else 9))
theorem bestv_bd {f : Int → Int} (h : WN f) {w : Int} (hw : 0 ≤ w) (hw2 : w ≤ 20) : -10800 ≤ bestv f w ∧ bestv f w ≤ 7128 := by
  have hn := h.nv
  unfold bestv
  split
  · omega
  · have hs := sg_infl h hw hw2 (a := 0) (l := f 0 - 1) (by omega) (by omega) (by omega)
    have hr := sg_rest (q := infl f w) (a := 0) (w := 0) (l := f 0 - 1) (by omega) (by omega)
    rw [sg_at] at hr
    have := bb_bd (q := infl f w) h (f 0 - 1).toNat 0 (infl f w 0) (by omega) (by omega) (infl_bd h (by omega) (by omega) hw hw2).1 (fun i x y => (infl_bd h (by omega) (by omega) hw hw2).1) (by rw [show f 0 - 1 - 0 = f 0 - 1 by omega] at hr; omega)
    omega
