/-! the dam -/
def qd (f : Int → Int) (w more : Int) : Int → Int := fun i => if i = f 4 ∧ 0 ≤ infl f w i + more then infl f w i + more else infl f w i
def bestq (f q : Int → Int) : Int := if f 0 = 0 then 0 else (bb f q (f 0 - 1).toNat 0 (q 0)).1
def yb (f : Int → Int) (w more : Int) : Int := bestq f (qd f w more)
abbrev okm (f : Int → Int) (w more : Int) : Prop := f 4 < 0 ∨ 0 ≤ infl f w (f 4) + more
def scc (h : Int → Int) (ok : Nat → Bool) : Nat → Int × Int
  | 0 => (h 0, 0)
  | n + 1 => if ok (n + 1) = true ∧ (scc h ok n).1 < h (n + 1) then (h (n + 1), n + 1) else scc h ok n
theorem scc_mem (h : Int → Int) (ok : Nat → Bool) : ∀ n : Nat, ∃ u : Nat, u ≤ n ∧ scc h ok n = (h u, (u : Int))
  | 0 => ⟨0, by omega, rfl⟩
  | n + 1 => by
    obtain ⟨u, h2, h3⟩ := scc_mem h ok n
    show ∃ u : Nat, u ≤ n + 1 ∧ (if ok (n + 1) = true ∧ (scc h ok n).1 < h (n + 1) then (h (n + 1), ((n : Int) + 1)) else scc h ok n) = (h u, (u : Int))
    by_cases c : ok (n + 1) = true ∧ (scc h ok n).1 < h (n + 1)
    · rw [if_pos c]
      exact ⟨n + 1, by omega, by rw [show ((n + 1 : Nat) : Int) = (n : Int) + 1 by omega]⟩
    · rw [if_neg c]
      exact ⟨u, by omega, h3⟩
/-- what n years make at most when h is held ahead of them, and what is held behind the first -/
def kt (f : Int → Int) : Nat → Int → Int × Int
  | 0, _ => (0, 0)
  | n + 1, h => scc (fun i => yb f (f (118 + (f 1 - 1 - n))) (h - i) + (kt f n i).1) (fun i => decide (okm f (f (118 + (f 1 - 1 - n))) (h - i))) (f 5).toNat
/-- what is held ahead of year y -/
def hh (f : Int → Int) : Nat → Int
  | 0 => 0
  | y + 1 => (kt f (f 1 - y).toNat (hh f y)).2
def F_kept (N : Ints) (y : Int) : Int := if -1 ≤ y ∧ y < N 112 1 then (if y < 0 then (kt (N 112) (N 112 1).toNat 0).1 else hh (N 112) (y.toNat + 1)) else -1000001
theorem qd_bd {f : Int → Int} (h : WN f) {w more : Int} (hw : 0 ≤ w) (hw2 : w ≤ 20) (hm : -4 ≤ more) (hm2 : more ≤ 4) {i : Int} (i0 : 0 ≤ i) (i1 : i < f 0) : 0 ≤ qd f w more i ∧ qd f w more i ≤ 28 := by
  have hn := h.nv
  have := infl_bd h (v := i) (w := w) i0 (by omega) hw hw2
  unfold qd
  split <;> omega
theorem sg_bump {q q' : Int → Int} {d more : Int} (hm : 0 ≤ more) (h : ∀ i, q' i ≤ if i = d then q i + more else q i) : ∀ n : Nat, sq q' 0 n ≤ sq q 0 n + (if d < n then (if 0 ≤ d then more else 0) else 0)
  | 0 => by
    show (0 : Int) ≤ 0 + _
    repeat' split
    all_goals omega
  | n + 1 => by
    have a := sg_bump hm h n
    have b := h (0 + (n : Int))
    have e1 : sq q' 0 (n + 1) = sq q' 0 n + q' (0 + (n : Int)) := rfl
    have e2 : sq q 0 (n + 1) = sq q 0 n + q (0 + (n : Int)) := rfl
    rw [e1, e2]
    repeat' split at a
    all_goals repeat' split at b
    all_goals repeat' split
    all_goals omega
theorem qd_sum {f : Int → Int} (h : WN f) {w more : Int} (hw : 0 ≤ w) (hw2 : w ≤ 20) (hm : -4 ≤ more) (hm2 : more ≤ 4) (h1 : 0 < f 0) : sg (qd f w more) 0 (f 0 - 1) ≤ 148 := by
  have hn := h.nv
  have a := sg_bump (q := infl f w) (q' := qd f w more) (d := f 4) (more := 4) (by omega) (fun i => by
    unfold qd
    repeat' split
    all_goals omega) (f 0 - 1 - 0 + 1).toNat
  have b := sg_infl h hw hw2 (a := 0) (l := f 0 - 1) (by omega) (by omega) (by omega)
  have e1 : sg (qd f w more) 0 (f 0 - 1) = sq (qd f w more) 0 (f 0 - 1 - 0 + 1).toNat := rfl
  have e2 : sg (infl f w) 0 (f 0 - 1) = sq (infl f w) 0 (f 0 - 1 - 0 + 1).toNat := rfl
  repeat' split at a
  all_goals omega
theorem yb_bd {f : Int → Int} (h : WN f) {w more : Int} (hw : 0 ≤ w) (hw2 : w ≤ 20) (hm : -4 ≤ more) (hm2 : more ≤ 4) : -10800 ≤ yb f w more ∧ yb f w more ≤ 7128 := by
  have hn := h.nv
  unfold yb bestq
  split
  · omega
  · have hs := qd_sum h hw hw2 hm hm2 (by omega)
    have hr := sg_rest (q := qd f w more) (a := 0) (w := 0) (l := f 0 - 1) (by omega) (by omega)
    rw [sg_at] at hr
    have := bb_bd (q := qd f w more) h (f 0 - 1).toNat 0 (qd f w more 0) (by omega) (by omega) (qd_bd h hw hw2 hm hm2 (by omega) (by omega)).1 (fun i x y => (qd_bd h hw hw2 hm hm2 (by omega) (by omega)).1) (by rw [show f 0 - 1 - 0 = f 0 - 1 by omega] at hr; omega)
    omega
theorem kt_bd {f : Int → Int} (h : WN f) : ∀ (n : Nat) (k : Int), (n : Int) ≤ f 1 → 0 ≤ k → k ≤ f 5 → (-10800 * n ≤ (kt f n k).1 ∧ (kt f n k).1 ≤ 7128 * n) ∧ 0 ≤ (kt f n k).2 ∧ (kt f n k).2 ≤ f 5
  | 0, _, _, _, _ => by
    have := h.dm
    show (-10800 * ((0 : Nat) : Int) ≤ 0 ∧ (0 : Int) ≤ 7128 * ((0 : Nat) : Int)) ∧ (0 : Int) ≤ 0 ∧ 0 ≤ f 5
    omega
  | n + 1, k, hn, h0, h1 => by
    have hd := h.dm
    have hy := h.ny
    have hw := h.wet (y := f 1 - 1 - n) (by omega) (by omega)
    obtain ⟨u, u1, eu⟩ := scc_mem (fun i => yb f (f (118 + (f 1 - 1 - n))) (k - i) + (kt f n i).1) (fun i => decide (okm f (f (118 + (f 1 - 1 - n))) (k - i))) (f 5).toNat
    have e : kt f (n + 1) k = scc (fun i => yb f (f (118 + (f 1 - 1 - n))) (k - i) + (kt f n i).1) (fun i => decide (okm f (f (118 + (f 1 - 1 - n))) (k - i))) (f 5).toNat := rfl
    have r := kt_bd h n u (by omega) (by omega) (by omega)
    have y := yb_bd h (w := f (118 + (f 1 - 1 - n))) (more := k - u) hw.1 hw.2 (by omega) (by omega)
    rw [e, eu]
    refine ⟨⟨?_, ?_⟩, ?_, ?_⟩ <;> simp only [] <;> omega
theorem scc_dec {h : Int → Int} {P : Nat → Prop} [DecidablePred P] {n : Nat} : scc h (fun i => decide (P i)) (n + 1) = if P (n + 1) ∧ (scc h (fun i => decide (P i)) n).1 < h ((n + 1 : Nat) : Int) then (h ((n + 1 : Nat) : Int), ((n + 1 : Nat) : Int)) else scc h (fun i => decide (P i)) n := by
  by_cases c : P (n + 1) ∧ (scc h (fun i => decide (P i)) n).1 < h ((n + 1 : Nat) : Int)
  · rw [if_pos c]
    exact if_pos ⟨decide_eq_true c.1, c.2⟩
  · rw [if_neg c]
    exact if_neg (fun q => c ⟨of_decide_eq_true q.1, q.2⟩)
