/-! the tape: g its bytes, n how many -/
def byt (e : Int64) (k : Int) : Int := ((e >>> ((i32 (8 * k)).toInt64 &&& 63)) &&& 255).toInt32.toInt
abbrev feedP (N : Ints) (n : Int) : Prop := (1 ≤ n ∧ n ≤ 8) ∧ N 111 17 + n ≤ 200
def F_feed (N : Ints) (n : Int) : Int := if 1 ≤ n ∧ n ≤ 8 then (if N 111 17 + n ≤ 200 then N 111 17 + n else -2) else -1
def G_feed (N : Ints) (e : Int64) (n : Int) : Ints := if feedP N n then upI (rowI N 127 (fun j => if N 111 17 ≤ j ∧ j < N 111 17 + n then byt e (j - N 111 17) else N 127 j)) 111 17 (N 111 17 + n) else N
abbrev ltr (g : Int → Int) (n p : Int) : Prop := p < n ∧ (97 ≤ g p ∧ g p ≤ 122)
abbrev dgt (g : Int → Int) (n p : Int) : Prop := p < n ∧ (48 ≤ g p ∧ g p ≤ 57)
/-- the first place from p on that is no space -/
def skq (g : Int → Int) (n : Int) : Nat → Int → Int
  | 0, p => p
  | m + 1, p => if p < n ∧ g p = 32 then skq g n m (p + 1) else p
def skp (g : Int → Int) (n p : Int) : Int := skq g n (n - p).toNat p
abbrev tog (g : Int → Int) (n p q : Int) : Prop := (ltr g n p ∧ ltr g n q) ∨ (dgt g n p ∧ dgt g n q)
/-- the end of what stands together with p, looked for from q on -/
def ten (g : Int → Int) (n p : Int) : Nat → Int → Int
  | 0, q => q
  | m + 1, q => if tog g n p q then ten g n p m (q + 1) else q
def tend (g : Int → Int) (n p : Int) : Int := if p < n then ten g n p (n - (p + 1)).toNat (p + 1) else p
def nxp (g : Int → Int) (n p : Int) : Int := skp g n (tend g n p)
theorem skq_bd {g : Int → Int} {n : Int} : ∀ (m : Nat) (p : Int), p ≤ n → p ≤ skq g n m p ∧ skq g n m p ≤ n
  | 0, p, h => ⟨Int.le_refl _, h⟩
  | m + 1, p, h => by
    show p ≤ (if p < n ∧ g p = 32 then skq g n m (p + 1) else p) ∧ (if p < n ∧ g p = 32 then skq g n m (p + 1) else p) ≤ n
    split
    · have := skq_bd (g := g) (n := n) m (p + 1) (by omega)
      omega
    · exact ⟨Int.le_refl _, h⟩
theorem ten_bd {g : Int → Int} {n p : Int} : ∀ (m : Nat) (q : Int), q ≤ n → q ≤ ten g n p m q ∧ ten g n p m q ≤ n
  | 0, q, h => ⟨Int.le_refl _, h⟩
  | m + 1, q, h => by
    show q ≤ (if tog g n p q then ten g n p m (q + 1) else q) ∧ (if tog g n p q then ten g n p m (q + 1) else q) ≤ n
    split
    · next c =>
      have : q < n := by rcases c with c | c <;> exact c.2.1
      have := ten_bd (g := g) (p := p) (n := n) m (q + 1) (by omega)
      omega
    · exact ⟨Int.le_refl _, h⟩
theorem skp_bd {g : Int → Int} {n p : Int} (h : p ≤ n) : p ≤ skp g n p ∧ skp g n p ≤ n := skq_bd _ _ h
theorem tend_bd {g : Int → Int} {n p : Int} (h : p ≤ n) : p ≤ tend g n p ∧ tend g n p ≤ n ∧ (p < n → p < tend g n p) := by
  unfold tend
  split
  · have := ten_bd (g := g) (p := p) (n := n) (n - (p + 1)).toNat (p + 1) (by omega)
    omega
  · omega
/-- from p on stand the bytes L -/
def mtc (g : Int → Int) : Int → List Int → Bool
  | _, [] => true
  | p, x :: L => decide (g p = x) && mtc g (p + 1) L
/-- the part from p to e is the word L -/
def wdb (g : Int → Int) (p e : Int) (L : List Int) : Bool := decide (e - p = L.length) && mtc g p L
