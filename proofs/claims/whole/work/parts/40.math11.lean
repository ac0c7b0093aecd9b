/-! what the text tells: a parse by places; g the bytes, n how many -/
def nmv (g : Int → Int) : Nat → Int → Int → Int
  | 0, _, a => a
  | m + 1, p, a => nmv g m (p + 1) (10 * a + g p - 48)
abbrev isn (g : Int → Int) (n p : Int) : Prop := dgt g n p ∧ tend g n p - p ≤ 3
def nv (g : Int → Int) (n p : Int) : Int := nmv g (tend g n p - p).toNat p 0
/-- the part at p is the word L -/
abbrev wdp (g : Int → Int) (n p : Int) (L : List Int) : Prop := wdb g p (tend g n p) L = true
abbrev PR : Type := Bool × Int × List St
def pval (g : Int → Int) (n p : Int) : Option Int := if wdp g n p [119, 101, 116] then some 1000 else if wdp g n p [99, 111, 109, 101, 115] then some 1001 else if wdp g n p [102, 108, 111, 119] then some 1002 else if isn g n p then some (nv g n p) else none
def psg (g : Int → Int) (n p : Int) : Option Int := if wdp g n p [60] then some 0 else if wdp g n p [61] then some 1 else if wdp g n p [62] then some 2 else none
def pcmp (g : Int → Int) (n p : Int) : PR :=
  match pval g n p with
  | none => (false, p, [])
  | some l => match psg g n (nxp g n p) with
    | none => (false, nxp g n p, [])
    | some s => match pval g n (nxp g n (nxp g n p)) with
      | none => (false, nxp g n (nxp g n p), [])
      | some r => (true, nxp g n (nxp g n (nxp g n p)), [(l, s, r)])
def pnot (g : Int → Int) (n : Int) : Nat → Int → Bool → Bool × Int
  | 0, p, t => (t, p)
  | m + 1, p, t => if wdp g n p [110, 111, 116] then pnot g n m (nxp g n p) (!t) else (t, p)
def pone (g : Int → Int) (n : Int) (po : Int → PR) (p : Int) : PR :=
  if (if wdp g n (pnot g n (n - p).toNat p false).2 [40] then po (pnot g n (n - p).toNat p false).2 else pcmp g n (pnot g n (n - p).toNat p false).2).1 = true then
    (true, (if wdp g n (pnot g n (n - p).toNat p false).2 [40] then po (pnot g n (n - p).toNat p false).2 else pcmp g n (pnot g n (n - p).toNat p false).2).2.1, (if wdp g n (pnot g n (n - p).toNat p false).2 [40] then po (pnot g n (n - p).toNat p false).2 else pcmp g n (pnot g n (n - p).toNat p false).2).2.2 ++ (if (pnot g n (n - p).toNat p false).1 = true then [(0, -1, 0)] else []))
  else (if wdp g n (pnot g n (n - p).toNat p false).2 [40] then po (pnot g n (n - p).toNat p false).2 else pcmp g n (pnot g n (n - p).toNat p false).2)
def palL (g : Int → Int) (n : Int) (po : Int → PR) : Nat → PR → PR
  | 0, r => r
  | m + 1, r => if r.1 = true ∧ wdp g n r.2.1 [97, 110, 100] then palL g n po m ((pone g n po (nxp g n r.2.1)).1, (pone g n po (nxp g n r.2.1)).2.1, r.2.2 ++ ((pone g n po (nxp g n r.2.1)).2.2 ++ [(0, -2, 0)])) else r
def pall (g : Int → Int) (n : Int) (po : Int → PR) (p : Int) : PR := palL g n po (n - p).toNat (pone g n po p)
def pcoL (g : Int → Int) (n : Int) (po : Int → PR) : Nat → PR → PR
  | 0, r => r
  | m + 1, r => if r.1 = true ∧ wdp g n r.2.1 [111, 114] then pcoL g n po m ((pall g n po (nxp g n r.2.1)).1, (pall g n po (nxp g n r.2.1)).2.1, r.2.2 ++ ((pall g n po (nxp g n r.2.1)).2.2 ++ [(0, -3, 0)])) else r
def pcon (g : Int → Int) (n : Int) (po : Int → PR) (p : Int) : PR := pcoL g n po (n - p).toNat (pall g n po p)
/-- what stands in brackets that open at p, when lv of them may stand open from here on -/
def popen (g : Int → Int) (n : Int) : Nat → Int → PR
  | 0, p => (false, p, [])
  | lv + 1, p => if (pcon g n (popen g n lv) (nxp g n p)).1 = true then
      (if wdp g n (pcon g n (popen g n lv) (nxp g n p)).2.1 [41] then (true, nxp g n (pcon g n (popen g n lv) (nxp g n p)).2.1, (pcon g n (popen g n lv) (nxp g n p)).2.2) else (false, (pcon g n (popen g n lv) (nxp g n p)).2.1, (pcon g n (popen g n lv) (nxp g n p)).2.2))
    else pcon g n (popen g n lv) (nxp g n p)
/-- the condition of a line, if there is one -/
def pif (g : Int → Int) (n p : Int) : PR := if wdp g n p [105, 102] then pcon g n (popen g n 3) (nxp g n p) else (true, p, [])
/-- line k that begins at p -/
def pln (g : Int → Int) (n k p : Int) : Bool × Int × Ln :=
  if wdp g n p [108, 101, 116] ∧ k < 8 then
    if isn g n (nxp g n p) ∧ nv g n (nxp g n p) ≤ 5 then
      if isn g n (nxp g n (nxp g n p)) ∧ nv g n (nxp g n (nxp g n p)) ≤ 99 then
        if (pif g n (nxp g n (nxp g n (nxp g n p)))).1 = true ∧ wdp g n (pif g n (nxp g n (nxp g n (nxp g n p)))).2.1 [59] then
          (true, nxp g n (pif g n (nxp g n (nxp g n (nxp g n p)))).2.1, (nv g n (nxp g n p), nv g n (nxp g n (nxp g n p)), (pif g n (nxp g n (nxp g n (nxp g n p)))).2.2))
        else (false, (pif g n (nxp g n (nxp g n (nxp g n p)))).2.1, (0, 0, []))
      else (false, nxp g n (nxp g n p), (0, 0, []))
    else (false, nxp g n p, (0, 0, []))
  else (false, p, (0, 0, []))
def plns (g : Int → Int) (n : Int) : Nat → Int → List Ln → Bool × Int × List Ln
  | 0, p, A => (true, p, A)
  | m + 1, p, A => if p < n then (if (pln g n A.length p).1 = true then plns g n m (pln g n A.length p).2.1 (A ++ [(pln g n A.length p).2.2]) else (false, (pln g n A.length p).2.1, A)) else (true, p, A)
/-- all that the tape tells: whether it is right, the fault's place, the lines -/
def ptext (g : Int → Int) (n : Int) : Bool × Int × List Ln := plns g n (n + 1).toNat (skp g n 0) []
theorem nmv_bd {g : Int → Int} : ∀ (m : Nat) (p a : Int), (∀ j, p ≤ j → j < p + m → 48 ≤ g j ∧ g j ≤ 57) → 0 ≤ a → 0 ≤ nmv g m p a
  | 0, _, _, _, h => h
  | m + 1, p, a, h, h0 => by
    have := h p (by omega) (by omega)
    exact nmv_bd m (p + 1) _ (fun j x y => h j (by omega) (by omega)) (by omega)
theorem ten_dg {g : Int → Int} {n p : Int} (hd : dgt g n p) : ∀ (m : Nat) (q : Int), (∀ j, p ≤ j → j < q → 48 ≤ g j ∧ g j ≤ 57) → ∀ j, p ≤ j → j < ten g n p m q → 48 ≤ g j ∧ g j ≤ 57
  | 0, q, h, j, x, y => h j x y
  | m + 1, q, h, j, x, y => by
    have y2 : j < (if tog g n p q then ten g n p m (q + 1) else q) := y
    by_cases c : tog g n p q
    · rw [if_pos c] at y2
      refine ten_dg hd m (q + 1) (fun i a b => ?_) j x y2
      by_cases e : i = q
      · subst e
        rcases c with c | c
        · have := c.1.2; have := hd.2; omega
        · exact c.2.2
      · exact h i a (by omega)
    · rw [if_neg c] at y2
      exact h j x y2
theorem tend_dg {g : Int → Int} {n p : Int} (hd : dgt g n p) {j : Int} (h0 : p ≤ j) (h1 : j < tend g n p) : 48 ≤ g j ∧ g j ≤ 57 := by
  unfold tend at h1
  rw [if_pos hd.1] at h1
  refine ten_dg hd _ (p + 1) (fun i a b => ?_) j h0 h1
  rw [show i = p by omega]
  exact hd.2
theorem nmv_le {g : Int → Int} : ∀ (m : Nat) (p a : Int), (∀ j, p ≤ j → j < p + m → 48 ≤ g j ∧ g j ≤ 57) → 0 ≤ a → m ≤ 3 → ((m = 3 → a = 0) ∧ (m = 2 → a ≤ 9) ∧ (m = 1 → a ≤ 99) ∧ a ≤ 999) → nmv g m p a ≤ 999
  | 0, _, a, _, _, _, h => h.2.2.2
  | m + 1, p, a, hd, h0, h3, h => by
    have d := hd p (by omega) (by omega)
    exact nmv_le m (p + 1) (10 * a + g p - 48) (fun j x y => hd j (by omega) (by omega)) (by omega) (by omega) (by omega)
theorem nv_le {g : Int → Int} {n p : Int} (h : isn g n p) : nv g n p ≤ 999 := by
  have hp : p < n := h.1.1
  have tb := tend_bd (g := g) (n := n) (p := p) (by omega)
  exact nmv_le _ p 0 (fun j x y => tend_dg h.1 x (by omega)) (by omega) (by have := h.2; omega) (by omega)
