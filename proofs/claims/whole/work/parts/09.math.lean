/-! what both sides reckon: f is the model's row 'now' (village v: from 10 + 18 v on), q what comes in at each village -/
/-- the first n worths together -/
def fst (f : Int → Int) (v : Int) : Nat → Int
  | 0 => 0
  | n + 1 => fst f v n + f (10 + 18 * v + (6 + n))
def hrm (f : Int → Int) (v p : Int) : Int := if 0 < p - f (10 + 18 * v + 1) then (p - f (10 + 18 * v + 1)) * f (10 + 18 * v + 2) else 0
def mde (f : Int → Int) (v u p : Int) : Int := fst f v u.toNat - hrm f v p
/-- the numbers of the row 'now' are as told -/
def WN (f : Int → Int) : Prop :=
  (0 ≤ f 0 ∧ f 0 ≤ 6) ∧ (0 ≤ f 1 ∧ f 1 ≤ 6) ∧ (0 ≤ f 2 ∧ f 2 ≤ 8) ∧ (0 ≤ f 3 ∧ f 3 ≤ 200) ∧ (-1 ≤ f 4 ∧ f 4 < f 0 ∧ 0 ≤ f 5 ∧ f 5 ≤ 4) ∧
  (∀ v, 0 ≤ v → v < 6 → (0 ≤ f (10 + 18 * v + 0) ∧ f (10 + 18 * v + 0) ≤ 12) ∧ (0 ≤ f (10 + 18 * v + 1) ∧ f (10 + 18 * v + 1) ≤ 99) ∧ (0 ≤ f (10 + 18 * v + 2) ∧ f (10 + 18 * v + 2) ≤ 9) ∧ (0 ≤ f (10 + 18 * v + 3) ∧ f (10 + 18 * v + 3) ≤ 20) ∧ (0 ≤ f (10 + 18 * v + 4) ∧ f (10 + 18 * v + 4) ≤ 99) ∧ (0 ≤ f (10 + 18 * v + 5) ∧ f (10 + 18 * v + 5) ≤ 9)) ∧
  (∀ v k, 0 ≤ v → v < 6 → 0 ≤ k → k < 12 → 0 ≤ f (10 + 18 * v + (6 + k)) ∧ f (10 + 18 * v + (6 + k)) ≤ 99) ∧
  (∀ y, 0 ≤ y → y < 6 → 0 ≤ f (118 + y) ∧ f (118 + y) ≤ 20)
theorem WN.nv {f : Int → Int} (h : WN f) : 0 ≤ f 0 ∧ f 0 ≤ 6 := h.1
theorem WN.ny {f : Int → Int} (h : WN f) : 0 ≤ f 1 ∧ f 1 ≤ 6 := h.2.1
theorem WN.dm {f : Int → Int} (h : WN f) : -1 ≤ f 4 ∧ f 4 < f 0 ∧ 0 ≤ f 5 ∧ f 5 ≤ 4 := h.2.2.2.2.1
theorem WN.fact {f : Int → Int} (h : WN f) {v : Int} (h0 : 0 ≤ v) (h1 : v < 6) : (0 ≤ f (10 + 18 * v + 0) ∧ f (10 + 18 * v + 0) ≤ 12) ∧ (0 ≤ f (10 + 18 * v + 1) ∧ f (10 + 18 * v + 1) ≤ 99) ∧ (0 ≤ f (10 + 18 * v + 2) ∧ f (10 + 18 * v + 2) ≤ 9) ∧ (0 ≤ f (10 + 18 * v + 3) ∧ f (10 + 18 * v + 3) ≤ 20) ∧ (0 ≤ f (10 + 18 * v + 4) ∧ f (10 + 18 * v + 4) ≤ 99) ∧ (0 ≤ f (10 + 18 * v + 5) ∧ f (10 + 18 * v + 5) ≤ 9) := h.2.2.2.2.2.1 v h0 h1
theorem WN.worth {f : Int → Int} (h : WN f) {v k : Int} (h0 : 0 ≤ v) (h1 : v < 6) (h2 : 0 ≤ k) (h3 : k < 12) : 0 ≤ f (10 + 18 * v + (6 + k)) ∧ f (10 + 18 * v + (6 + k)) ≤ 99 := h.2.2.2.2.2.2.1 v k h0 h1 h2 h3
theorem WN.wet {f : Int → Int} (h : WN f) {y : Int} (h0 : 0 ≤ y) (h1 : y < 6) : 0 ≤ f (118 + y) ∧ f (118 + y) ≤ 20 := h.2.2.2.2.2.2.2 y h0 h1
theorem mul_bd {a b A B : Int} (h0 : 0 ≤ a) (h1 : a ≤ A) (h2 : 0 ≤ b) (h3 : b ≤ B) : 0 ≤ a * b ∧ a * b ≤ A * B := ⟨Int.mul_nonneg h0 h2, Int.mul_le_mul h1 h3 h2 (by omega)⟩
theorem fst_bd {f : Int → Int} (h : WN f) {v : Int} (h0 : 0 ≤ v) (h1 : v < 6) : ∀ n : Nat, n ≤ 12 → 0 ≤ fst f v n ∧ fst f v n ≤ 99 * n
  | 0, _ => ⟨Int.le_refl _, Int.le_refl _⟩
  | n + 1, hn => by
    have a := fst_bd h h0 h1 n (by omega)
    have b := h.worth h0 h1 (k := n) (by omega) (by omega)
    have e : fst f v (n + 1) = fst f v n + f (10 + 18 * v + (6 + n)) := rfl
    omega
theorem hrm_bd {f : Int → Int} (h : WN f) {v : Int} (h0 : 0 ≤ v) (h1 : v < 6) {p : Int} (hp : 0 ≤ p) (hp2 : p ≤ 200) : 0 ≤ hrm f v p ∧ hrm f v p ≤ 1800 := by
  have a := h.fact h0 h1
  unfold hrm
  split
  · have := mul_bd (a := p - f (10 + 18 * v + 1)) (A := 200) (B := 9) (by omega) (by omega) a.2.2.1.1 a.2.2.1.2
    omega
  · omega
theorem mde_bd {f : Int → Int} (h : WN f) {v : Int} (h0 : 0 ≤ v) (h1 : v < 6) {u p : Int} (hu : u ≤ 12) (hp : 0 ≤ p) (hp2 : p ≤ 200) : -1800 ≤ mde f v u p ∧ mde f v u p ≤ 1188 := by
  have a := fst_bd h h0 h1 u.toNat (by omega)
  have b := hrm_bd h h0 h1 hp hp2
  unfold mde
  omega
/-- the greatest of h 0 .. h n, and the first place that has it -/
def scan (h : Int → Int) : Nat → Int × Int
  | 0 => (h 0, 0)
  | n + 1 => if (scan h n).1 < h (n + 1) then (h (n + 1), n + 1) else scan h n
theorem scan_mem (h : Int → Int) : ∀ n : Nat, ∃ u : Int, 0 ≤ u ∧ u ≤ n ∧ scan h n = (h u, u)
  | 0 => ⟨0, by omega, by omega, rfl⟩
  | n + 1 => by
    obtain ⟨u, h1, h2, h3⟩ := scan_mem h n
    show ∃ u : Int, 0 ≤ u ∧ u ≤ ((n + 1 : Nat) : Int) ∧ (if (scan h n).1 < h (n + 1) then (h (n + 1), ((n : Int) + 1)) else scan h n) = (h u, u)
    by_cases c : (scan h n).1 < h (n + 1)
    · rw [if_pos c]
      exact ⟨n + 1, by omega, by omega, rfl⟩
    · rw [if_neg c]
      exact ⟨u, h1, by omega, h3⟩
theorem scan_congr {h g : Int → Int} : ∀ n : Nat, (∀ u : Int, 0 ≤ u → u ≤ n → h u = g u) → scan h n = scan g n
  | 0, e => by show (h 0, (0 : Int)) = (g 0, 0); rw [e 0 (by omega) (by omega)]
  | n + 1, e => by
    have a := scan_congr n (fun u h0 h1 => e u h0 (by omega))
    have b := e (n + 1) (by omega) (by omega)
    show (if (scan h n).1 < h (n + 1) then (h (n + 1), ((n : Int) + 1)) else scan h n) = if (scan g n).1 < g (n + 1) then (g (n + 1), ((n : Int) + 1)) else scan g n
    rw [a, b]
/-- what can be used of c -/
def cap (c : Int) : Nat := (if c ≤ 12 then c else 12).toNat
theorem cap_le {c : Int} (h : 0 ≤ c) : (cap c : Int) ≤ c ∧ cap c ≤ 12 := by
  unfold cap
  split <;> omega
/-- village v and the n below it: the most they make of c that comes to v, and v's least best use -/
def bb (f q : Int → Int) : Nat → Int → Int → Int × Int
  | 0, v, c => scan (fun u => mde f v u (c - u)) (cap c)
  | n + 1, v, c => scan (fun u => mde f v u (c - u) + (bb f q n (v + 1) (c - u + q (v + 1))).1) (cap c)
/-- q v + .. + q (v + n - 1) -/
def sq (q : Int → Int) (v : Int) : Nat → Int
  | 0 => 0
  | n + 1 => sq q v n + q (v + n)
theorem sq_front (q : Int → Int) (v : Int) : ∀ n : Nat, sq q v (n + 1) = q v + sq q (v + 1) n
  | 0 => by simp [sq]
  | n + 1 => by
    have a := sq_front q v n
    have e1 : sq q v (n + 1 + 1) = sq q v (n + 1) + q (v + ((n + 1 : Nat) : Int)) := rfl
    have e2 : sq q (v + 1) (n + 1) = sq q (v + 1) n + q (v + 1 + (n : Int)) := rfl
    rw [e1, e2, a, show v + ((n + 1 : Nat) : Int) = v + 1 + (n : Int) by omega]
    omega
theorem sq_nn {q : Int → Int} {v : Int} : ∀ n : Nat, (∀ i : Int, v ≤ i → i < v + n → 0 ≤ q i) → 0 ≤ sq q v n
  | 0, _ => Int.le_refl _
  | n + 1, h => by
    have a := sq_nn n (fun i h1 h2 => h i h1 (by omega))
    have b := h (v + n) (by omega) (by omega)
    have e : sq q v (n + 1) = sq q v n + q (v + n) := rfl
    omega
theorem bb_bd {f q : Int → Int} (h : WN f) : ∀ (n : Nat) (v c : Int), 0 ≤ v → v + n < 6 → 0 ≤ c → (∀ i : Int, v < i → i ≤ v + n → 0 ≤ q i) → c + sq q (v + 1) n ≤ 148 →
    (-1800 * (n + 1 : Int) ≤ (bb f q n v c).1 ∧ (bb f q n v c).1 ≤ 1188 * (n + 1 : Int)) ∧ 0 ≤ (bb f q n v c).2 ∧ (bb f q n v c).2 ≤ cap c
  | 0, v, c, h0, h1, hc, hq, hs => by
    have e : bb f q 0 v c = scan (fun u => mde f v u (c - u)) (cap c) := rfl
    obtain ⟨u, u0, u1, eu⟩ := scan_mem (fun u => mde f v u (c - u)) (cap c)
    have hcap := cap_le hc
    have hs0 : sq q (v + 1) 0 = 0 := rfl
    have m := mde_bd h h0 (by omega) (u := u) (p := c - u) (by omega) (by omega) (by omega)
    rw [e, eu]
    refine ⟨⟨?_, ?_⟩, u0, u1⟩ <;> simp only [] <;> omega
  | n + 1, v, c, h0, h1, hc, hq, hs => by
    have e : bb f q (n + 1) v c = scan (fun u => mde f v u (c - u) + (bb f q n (v + 1) (c - u + q (v + 1))).1) (cap c) := rfl
    obtain ⟨u, u0, u1, eu⟩ := scan_mem (fun u => mde f v u (c - u) + (bb f q n (v + 1) (c - u + q (v + 1))).1) (cap c)
    have hcap := cap_le hc
    rw [sq_front] at hs
    have hnn : 0 ≤ sq q (v + 1 + 1) n := sq_nn n (fun i a b => hq i (by omega) (by omega))
    have hq1 := hq (v + 1) (by omega) (by omega)
    have m := mde_bd h h0 (by omega) (u := u) (p := c - u) (by omega) (by omega) (by omega)
    have r := bb_bd h n (v + 1) (c - u + q (v + 1)) (by omega) (by omega) (by omega) (fun i a b => hq i (by omega) (by omega)) (by omega)
    rw [e, eu]
    refine ⟨⟨?_, ?_⟩, u0, u1⟩ <;> simp only [] <;> omega
theorem bb_congr {f q q' : Int → Int} : ∀ (n : Nat) (v c : Int), (∀ i : Int, v < i → i ≤ v + n → q i = q' i) → bb f q n v c = bb f q' n v c
  | 0, _, _, _ => rfl
  | n + 1, v, c, h => by
    have e : ∀ u : Int, bb f q n (v + 1) (c - u + q (v + 1)) = bb f q' n (v + 1) (c - u + q' (v + 1)) := fun u => by
      rw [h (v + 1) (by omega) (by omega)]
      exact bb_congr n (v + 1) _ (fun i a b => h i (by omega) (by omega))
    show scan (fun u => mde f v u (c - u) + (bb f q n (v + 1) (c - u + q (v + 1))).1) (cap c) = scan (fun u => mde f v u (c - u) + (bb f q' n (v + 1) (c - u + q' (v + 1))).1) (cap c)
    congr 1
    funext u
    rw [e u]
/-- how many of t village v uses, while they are worth something; u from which it looks on, k how far -/
def cus (f : Int → Int) (v t : Int) : Nat → Int → Int
  | 0, u => u
  | k + 1, u => if u < 12 ∧ u < t ∧ 0 < f (10 + 18 * v + (6 + u)) then cus f v t k (u + 1) else u
def cu (f : Int → Int) (v t : Int) : Int := cus f v t 12 0
theorem cus_bd (f : Int → Int) (v t : Int) : ∀ (k : Nat) (u : Int), 0 ≤ u → u ≤ 12 → u ≤ cus f v t k u ∧ cus f v t k u ≤ 12 ∧ (u ≤ t → cus f v t k u ≤ t)
  | 0, u, h0, h1 => ⟨Int.le_refl _, h1, id⟩
  | k + 1, u, h0, h1 => by
    unfold cus
    split
    · have := cus_bd f v t k (u + 1) (by omega) (by omega)
      exact ⟨by omega, this.2.1, fun _ => this.2.2 (by omega)⟩
    · exact ⟨Int.le_refl _, h1, id⟩
theorem cu_bd (f : Int → Int) {v t : Int} (ht : 0 ≤ t) : 0 ≤ cu f v t ∧ cu f v t ≤ 12 ∧ cu f v t ≤ t := by
  have := cus_bd f v t 12 0 (by omega) (by omega)
  exact ⟨this.1, this.2.1, this.2.2 ht⟩
/-- what comes in at v in a year of wet w -/
def infl (f : Int → Int) (w v : Int) : Int := (f (10 + 18 * v + 0) * w).tdiv 10
theorem infl_bd {f : Int → Int} (h : WN f) {v w : Int} (h0 : 0 ≤ v) (h1 : v < 6) (hw : 0 ≤ w) (hw2 : w ≤ 20) : 0 ≤ infl f w v ∧ infl f w v ≤ 24 := by
  have a := (h.fact h0 h1).1
  have b := mul_bd a.1 a.2 hw hw2
  unfold infl
  rw [Int.tdiv_eq_ediv_of_nonneg b.1]
  omega
theorem infl_10 {f : Int → Int} (v : Int) : infl f 10 v = f (10 + 18 * v + 0) := by
  unfold infl
  exact Int.mul_tdiv_cancel _ (by decide)
/-- q a + .. + q v -/
def sg (q : Int → Int) (a v : Int) : Int := sq q a (v - a + 1).toNat
theorem sg_succ {q : Int → Int} {a v : Int} (h : a - 1 ≤ v) : sg q a (v + 1) = sg q a v + q (v + 1) := by
  unfold sg
  obtain ⟨n, hn⟩ : ∃ n : Nat, v - a + 1 = n := ⟨(v - a + 1).toNat, by omega⟩
  rw [show v + 1 - a + 1 = ((n + 1 : Nat) : Int) by omega, hn, Int.toNat_natCast, Int.toNat_natCast]
  show sq q a n + q (a + n) = _
  rw [show a + (n : Int) = v + 1 by omega]
theorem sg_pre {q : Int → Int} {a : Int} : sg q a (a - 1) = 0 := by
  unfold sg
  rw [show a - 1 - a + 1 = 0 by omega]
  rfl
theorem sg_at {q : Int → Int} {a : Int} : sg q a a = q a := by
  have := sg_succ (q := q) (a := a) (v := a - 1) (by omega)
  rw [sg_pre, show a - 1 + 1 = a by omega] at this
  omega
theorem sg_mono {q : Int → Int} {a l : Int} (hq : ∀ v, a ≤ v → v ≤ l → 0 ≤ q v) : ∀ (n : Nat) (v : Int), a - 1 ≤ v → v + n ≤ l → 0 ≤ sg q a v ∧ sg q a v ≤ sg q a (v + n)
  | 0, v, h1, h2 => by
    rw [show v + ((0 : Nat) : Int) = v by omega]
    refine ⟨?_, Int.le_refl _⟩
    unfold sg
    exact sq_nn _ (fun i x y => hq i x (by omega))
  | n + 1, v, h1, h2 => by
    have a1 := sg_mono hq n v h1 (by omega)
    have a2 := sg_succ (q := q) (a := a) (v := v + n) (by omega)
    have a3 := hq (v + n + 1) (by omega) (by omega)
    rw [show v + ((n + 1 : Nat) : Int) = v + n + 1 by omega]
    omega
theorem sg_le {q : Int → Int} {a l v : Int} (hq : ∀ v, a ≤ v → v ≤ l → 0 ≤ q v) (h1 : a - 1 ≤ v) (h2 : v ≤ l) : 0 ≤ sg q a v ∧ sg q a v ≤ sg q a l := by
  have := sg_mono hq (l - v).toNat v h1 (by omega)
  rw [show v + ((l - v).toNat : Int) = l by omega] at this
  exact this
/-- what village v makes with those below it when it uses u of c -/
def hv (f q : Int → Int) (l v c u : Int) : Int := mde f v u (c - u) + (if v < l then (bb f q (l - (v + 1)).toNat (v + 1) (c - u + q (v + 1))).1 else 0)
theorem bb_hv {f q : Int → Int} {l v c : Int} (h : v ≤ l) : bb f q (l - v).toNat v c = scan (hv f q l v c) (cap c) := by
  by_cases e : v < l
  · rw [show (l - v).toNat = (l - (v + 1)).toNat + 1 by omega]
    show scan _ _ = _
    congr 1
    funext u
    unfold hv
    rw [if_pos e]
  · rw [show (l - v).toNat = 0 by omega]
    show scan _ _ = _
    congr 1
    funext u
    unfold hv
    rw [if_neg e]
    omega
theorem sg_split {q : Int → Int} {a w : Int} (h : a - 1 ≤ w) : ∀ n : Nat, sg q a (w + n) = sg q a w + sq q (w + 1) n
  | 0 => by
    rw [show w + ((0 : Nat) : Int) = w by omega]
    show _ = _ + 0
    omega
  | n + 1 => by
    have e1 := sg_split (q := q) h n
    have e2 := sg_succ (q := q) (a := a) (v := w + n) (by omega)
    have e3 : sq q (w + 1) (n + 1) = sq q (w + 1) n + q (w + 1 + n) := rfl
    rw [show w + ((n + 1 : Nat) : Int) = w + n + 1 by omega, e2, e1, e3, show w + 1 + (n : Int) = w + n + 1 by omega]
    omega
theorem sg_rest {q : Int → Int} {a w l : Int} (h : a - 1 ≤ w) (hl : w ≤ l) : sq q (w + 1) (l - w).toNat = sg q a l - sg q a w := by
  have := sg_split (q := q) h (l - w).toNat
  rw [show w + ((l - w).toNat : Int) = l by omega] at this
  omega
theorem sq_congr {q q' : Int → Int} {v : Int} : ∀ n : Nat, (∀ i : Int, v ≤ i → i < v + n → q i = q' i) → sq q v n = sq q' v n
  | 0, _ => rfl
  | n + 1, h => by
    show sq q v n + q (v + n) = sq q' v n + q' (v + n)
    rw [sq_congr n (fun i a b => h i a (by omega)), h (v + n) (by omega) (by omega)]
theorem sg_congr {q q' : Int → Int} {a v : Int} (h : ∀ i : Int, a ≤ i → i ≤ v → q i = q' i) : sg q a v = sg q' a v := by
  unfold sg
  exact sq_congr _ (fun i x y => h i x (by omega))
theorem sg_bd {q : Int → Int} {a B : Int} : ∀ (n : Nat) (v : Int), v + 1 = a + n → (∀ i : Int, a ≤ i → i ≤ v → q i ≤ B) → sg q a v ≤ B * n
  | 0, v, h, _ => by
    rw [show v = a - 1 by omega, sg_pre]
    simp
  | n + 1, v, h, hb => by
    have e := sg_succ (q := q) (a := a) (v := v - 1) (by omega)
    rw [show v - 1 + 1 = v by omega] at e
    have i1 := sg_bd n (v - 1) (by omega) (fun i x y => hb i x (by omega))
    have i2 := hb v (by omega) (Int.le_refl _)
    have : B * ((n + 1 : Nat) : Int) = B * n + B := by rw [Int.natCast_add, Int.mul_add]; simp
    omega
theorem sg_infl {f : Int → Int} (h : WN f) {w : Int} (hw : 0 ≤ w) (hw2 : w ≤ 20) {a l : Int} (h0 : 0 ≤ a) (h1 : a - 1 ≤ l) (h2 : l < 6) : sg (infl f w) a l ≤ 144 := by
  have := sg_bd (q := infl f w) (a := a) (B := 24) (l + 1 - a).toNat l (by omega) (fun i x y => (infl_bd h (by omega) (by omega) hw hw2).2)
  omega
/-- what BEST of a year makes -/
def bestv (f : Int → Int) (w : Int) : Int := if f 0 = 0 then 0 else (bb f (infl f w) (f 0 - 1).toNat 0 (infl f w 0)).1
/-- the most of villages a to l -/
def runv (f : Int → Int) (a l : Int) : Int := (bb f (infl f 10) (l - a).toNat a (infl f 10 a)).1
/-- what passes the villages above v, when l is the last one and all do their best -/
def pab (f q : Int → Int) (l : Int) : Nat → Int
  | 0 => 0
  | v + 1 => pab f q l v + q v - (bb f q (l - v).toNat v (pab f q l v + q v)).2
/-- what v uses, when all do their best -/
def puse (f q : Int → Int) (l : Int) (v : Nat) : Int := (bb f q (l - v).toNat v (pab f q l v + q v)).2
theorem pab_succ (f q : Int → Int) (l : Int) (v : Nat) : pab f q l (v + 1) = pab f q l v + q v - puse f q l v := rfl
theorem bb2_bd {f q : Int → Int} {l v c : Int} (h : v ≤ l) (hc : 0 ≤ c) : 0 ≤ (bb f q (l - v).toNat v c).2 ∧ (bb f q (l - v).toNat v c).2 ≤ c ∧ (bb f q (l - v).toNat v c).2 ≤ 12 := by
  rw [bb_hv h]
  obtain ⟨u, h0, h1, e⟩ := scan_mem (hv f q l v c) (cap c)
  have := cap_le hc
  rw [e]
  show 0 ≤ u ∧ u ≤ c ∧ u ≤ 12
  omega
theorem pab_bd {f q : Int → Int} {l : Int} (hq : ∀ v : Int, 0 ≤ v → v ≤ l → 0 ≤ q v) : ∀ v : Nat, (v : Int) ≤ l + 1 → 0 ≤ pab f q l v ∧ pab f q l v ≤ sg q 0 (v - 1)
  | 0, _ => ⟨Int.le_refl _, by rw [show ((0 : Nat) : Int) - 1 = 0 - 1 by omega, sg_pre]; exact Int.le_refl _⟩
  | v + 1, h => by
    have a := pab_bd (f := f) hq v (by omega)
    have b := hq v (by omega) (by omega)
    have c := bb2_bd (f := f) (q := q) (l := l) (v := v) (c := pab f q l v + q v) (by omega) (by omega)
    have e := sg_succ (q := q) (a := 0) (v := (v : Int) - 1) (by omega)
    rw [show (v : Int) - 1 + 1 = v by omega] at e
    have e2 := pab_succ f q l v
    unfold puse at e2
    rw [show ((v + 1 : Nat) : Int) - 1 = v by omega]
    omega
theorem puse_bd {f q : Int → Int} {l : Int} (hq : ∀ v : Int, 0 ≤ v → v ≤ l → 0 ≤ q v) (v : Nat) (h : (v : Int) ≤ l) : 0 ≤ puse f q l v ∧ puse f q l v ≤ pab f q l v + q v ∧ puse f q l v ≤ 12 := by
  have a := pab_bd (f := f) hq v (by omega)
  have b := hq v (by omega) h
  exact bb2_bd h (by omega)
/-- MOST of a village -/
def mostv (f : Int → Int) (v : Int) : Int := fst f v (cap (sg (infl f 10) 0 v))
