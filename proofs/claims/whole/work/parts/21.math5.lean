/-! dirt that goes down -/
def scm (h : Int → Int) (lo : Int) : Nat → Int × Int
  | 0 => (h lo, lo)
  | k + 1 => if h (lo + (k + 1)) < (scm h lo k).1 then (h (lo + (k + 1)), lo + (k + 1)) else scm h lo k
theorem scm_mem (h : Int → Int) (lo : Int) : ∀ k : Nat, ∃ u : Int, lo ≤ u ∧ u ≤ lo + k ∧ scm h lo k = (h u, u)
  | 0 => ⟨lo, by omega, by omega, rfl⟩
  | k + 1 => by
    obtain ⟨u, h1, h2, h3⟩ := scm_mem h lo k
    show ∃ u : Int, lo ≤ u ∧ u ≤ lo + ((k + 1 : Nat) : Int) ∧ (if h (lo + (k + 1)) < (scm h lo k).1 then (h (lo + (k + 1)), lo + ((k : Int) + 1)) else scm h lo k) = (h u, u)
    by_cases c : h (lo + (k + 1)) < (scm h lo k).1
    · rw [if_pos c]
      exact ⟨lo + (k + 1), by omega, by omega, rfl⟩
    · rw [if_neg c]
      exact ⟨u, h1, by omega, h3⟩
theorem scm_congr {h g : Int → Int} {lo : Int} : ∀ k : Nat, (∀ u : Int, lo ≤ u → u ≤ lo + k → h u = g u) → scm h lo k = scm g lo k
  | 0, e => by show (h lo, lo) = (g lo, lo); rw [e lo (by omega) (by omega)]
  | k + 1, e => by
    have a := scm_congr k (fun u h0 h1 => e u h0 (by omega))
    have b := e (lo + (k + 1)) (by omega) (by omega)
    show (if h (lo + (k + 1)) < (scm h lo k).1 then (h (lo + (k + 1)), lo + ((k : Int) + 1)) else scm h lo k) = if g (lo + (k + 1)) < (scm g lo k).1 then (g (lo + (k + 1)), lo + ((k : Int) + 1)) else scm g lo k
    rw [a, b]
def dq (f : Int → Int) : Int → Int := fun i => f (10 + 18 * i + 3)
def lmq (f : Int → Int) : Int → Int := fun i => f (10 + 18 * i + 4)
def clq (f : Int → Int) : Int → Int := fun i => f (10 + 18 * i + 5)
def mst (lm : Int → Int) (v t : Int) : Int := if 0 < t - lm (v + 1) then t - lm (v + 1) else 0
/-- the least coins of v and the n below it when p comes past the one above v, and what v cleans then -/
def cl (f lm : Int → Int) : Nat → Int → Int → Int × Int
  | 0, v, p => scm (fun c => c * clq f v) 0 (p + dq f v).toNat
  | n + 1, v, p => scm (fun c => c * clq f v + (cl f lm n (v + 1) (p + dq f v - c)).1) (mst lm v (p + dq f v)) (p + dq f v - mst lm v (p + dq f v)).toNat
def hcl (f lm : Int → Int) (l v t c : Int) : Int := c * clq f v + (if v < l then (cl f lm (l - (v + 1)).toNat (v + 1) (t - c)).1 else 0)
def msl (lm : Int → Int) (l v t : Int) : Int := if v < l then mst lm v t else 0
theorem cl_h {f lm : Int → Int} {l v p : Int} (h : v ≤ l) : cl f lm (l - v).toNat v p = scm (hcl f lm l v (p + dq f v)) (msl lm l v (p + dq f v)) (p + dq f v - msl lm l v (p + dq f v)).toNat := by
  by_cases e : v < l
  · rw [show (l - v).toNat = (l - (v + 1)).toNat + 1 by omega]
    unfold msl
    rw [if_pos e]
    show scm _ _ _ = _
    congr 1
    funext u
    unfold hcl
    rw [if_pos e]
  · rw [show (l - v).toNat = 0 by omega]
    unfold msl
    rw [if_neg e]
    show scm _ _ _ = _
    rw [Int.sub_zero]
    congr 1
    funext u
    unfold hcl
    rw [if_neg e]
    omega
theorem mst_bd {lm : Int → Int} {v t : Int} (ht : 0 ≤ t) (hl : 0 ≤ lm (v + 1)) : 0 ≤ mst lm v t ∧ mst lm v t ≤ t := by
  unfold mst
  split <;> omega
theorem cl_bd {f lm : Int → Int} (h : WN f) {A : Int} (hA : A ≤ 120) : ∀ (n : Nat) (v p : Int), 0 ≤ v → v + n < 6 → 0 ≤ p → p + dq f v ≤ A → (∀ i : Int, v < i → i ≤ v + n → 0 ≤ lm i ∧ lm i ≤ A - dq f i) →
    (0 ≤ (cl f lm n v p).1 ∧ (cl f lm n v p).1 ≤ 1080 * (n + 1)) ∧ 0 ≤ (cl f lm n v p).2 ∧ (cl f lm n v p).2 ≤ p + dq f v
  | 0, v, p, h0, h1, hp, ht, hl => by
    obtain ⟨u, u0, u1, eu⟩ := scm_mem (fun c => c * clq f v) 0 (p + dq f v).toNat
    have e : cl f lm 0 v p = scm (fun c => c * clq f v) 0 (p + dq f v).toNat := rfl
    have fa := h.fact h0 (by omega)
    have fd : 0 ≤ dq f v := fa.2.2.2.1.1
    have m := mul_bd (a := u) (b := clq f v) (A := 120) (B := 9) u0 (by omega) fa.2.2.2.2.2.1 fa.2.2.2.2.2.2
    rw [e, eu]
    refine ⟨⟨?_, ?_⟩, ?_, ?_⟩ <;> simp only [] <;> omega
  | n + 1, v, p, h0, h1, hp, ht, hl => by
    obtain ⟨u, u0, u1, eu⟩ := scm_mem (fun c => c * clq f v + (cl f lm n (v + 1) (p + dq f v - c)).1) (mst lm v (p + dq f v)) (p + dq f v - mst lm v (p + dq f v)).toNat
    have e : cl f lm (n + 1) v p = scm (fun c => c * clq f v + (cl f lm n (v + 1) (p + dq f v - c)).1) (mst lm v (p + dq f v)) (p + dq f v - mst lm v (p + dq f v)).toNat := rfl
    have fa := h.fact h0 (by omega)
    have fd : 0 ≤ dq f v := fa.2.2.2.1.1
    have l1 := hl (v + 1) (by omega) (by omega)
    have mb := mst_bd (lm := lm) (v := v) (t := p + dq f v) (by omega) l1.1
    have hu : p + dq f v - u ≤ lm (v + 1) := by
      have : p + dq f v - lm (v + 1) ≤ mst lm v (p + dq f v) := by unfold mst; split <;> omega
      omega
    have m := mul_bd (a := u) (b := clq f v) (A := 120) (B := 9) (by omega) (by omega) fa.2.2.2.2.2.1 fa.2.2.2.2.2.2
    have r := cl_bd h hA n (v + 1) (p + dq f v - u) (by omega) (by omega) (by omega) (by omega) (fun i x y => hl i (by omega) (by omega))
    rw [e, eu]
    refine ⟨⟨?_, ?_⟩, ?_, ?_⟩ <;> simp only [] <;> omega
def lmA (f : Int → Int) (A : Int) : Int → Int := fun i => if lmq f i < A - dq f i then lmq f i else A - dq f i
theorem cl_same {f : Int → Int} (h : WN f) {A : Int} : ∀ (n : Nat) (v p : Int), 0 ≤ v → v + n < 6 → 0 ≤ p → p + sq (dq f) v (n + 1) ≤ A → cl f (lmA f A) n v p = cl f (lmq f) n v p
  | 0, v, p, _, _, _, _ => rfl
  | n + 1, v, p, h0, h1, hp, hs => by
    have fa := h.fact h0 (by omega)
    have fd : 0 ≤ dq f v := fa.2.2.2.1.1
    have fa1 := h.fact (show 0 ≤ v + 1 by omega) (show v + 1 < 6 by omega)
    have fd1 : 0 ≤ dq f (v + 1) := fa1.2.2.2.1.1
    have fl1 : 0 ≤ lmq f (v + 1) := fa1.2.2.2.2.1.1
    have e1 := sq_front (dq f) v (n + 1)
    have e2 := sq_front (dq f) (v + 1) n
    have nn : 0 ≤ sq (dq f) (v + 1 + 1) n := sq_nn n (fun i x y => (h.fact (show 0 ≤ i by omega) (show i < 6 by omega)).2.2.2.1.1)
    have em : mst (lmA f A) v (p + dq f v) = mst (lmq f) v (p + dq f v) := by
      unfold mst lmA
      repeat' split
      all_goals omega
    show scm (fun c => c * clq f v + (cl f (lmA f A) n (v + 1) (p + dq f v - c)).1) (mst (lmA f A) v (p + dq f v)) (p + dq f v - mst (lmA f A) v (p + dq f v)).toNat = scm (fun c => c * clq f v + (cl f (lmq f) n (v + 1) (p + dq f v - c)).1) (mst (lmq f) v (p + dq f v)) (p + dq f v - mst (lmq f) v (p + dq f v)).toNat
    rw [em]
    have mb := mst_bd (lm := lmq f) (v := v) (t := p + dq f v) (by omega) fl1
    refine scm_congr _ (fun u x y => ?_)
    show u * clq f v + (cl f (lmA f A) n (v + 1) (p + dq f v - u)).1 = u * clq f v + (cl f (lmq f) n (v + 1) (p + dq f v - u)).1
    rw [cl_same h n (v + 1) (p + dq f v - u) (by omega) (by omega) (by omega) (by omega)]
theorem sd_mono {f : Int → Int} (h : WN f) : ∀ n k : Nat, n + k ≤ 6 → 0 ≤ sq (dq f) 0 n ∧ sq (dq f) 0 n ≤ sq (dq f) 0 (n + k)
  | n, 0, _ => ⟨sq_nn n (fun i x y => (h.fact (show 0 ≤ i by omega) (show i < 6 by omega)).2.2.2.1.1), Int.le_refl _⟩
  | n, k + 1, hk => by
    have a := sd_mono h n k (by omega)
    have fd : 0 ≤ dq f ((n + k : Nat) : Int) := (h.fact (v := ((n + k : Nat) : Int)) (by omega) (by omega)).2.2.2.1.1
    have e : sq (dq f) 0 (n + (k + 1)) = sq (dq f) 0 (n + k) + dq f (0 + ((n + k : Nat) : Int)) := rfl
    rw [show (0 : Int) + ((n + k : Nat) : Int) = ((n + k : Nat) : Int) by omega] at e
    omega
theorem sd_bd {f : Int → Int} (h : WN f) : ∀ n : Nat, n ≤ 6 → sq (dq f) 0 n ≤ 20 * n
  | 0, _ => Int.le_refl _
  | n + 1, hn => by
    have a := sd_bd h n (by omega)
    have fd : dq f (n : Int) ≤ 20 := (h.fact (v := (n : Int)) (by omega) (by omega)).2.2.2.1.2
    have e : sq (dq f) 0 (n + 1) = sq (dq f) 0 n + dq f (0 + (n : Int)) := rfl
    rw [show (0 : Int) + (n : Int) = (n : Int) by omega] at e
    omega
theorem sq_add (q : Int → Int) (v : Int) (n : Nat) : ∀ m : Nat, sq q v (n + m) = sq q v n + sq q (v + n) m
  | 0 => (Int.add_zero _).symm
  | m + 1 => by
    have e1 : sq q v (n + (m + 1)) = sq q v (n + m) + q (v + ((n + m : Nat) : Int)) := rfl
    have e2 : sq q (v + n) (m + 1) = sq q (v + n) m + q (v + n + m) := rfl
    rw [e1, e2, sq_add q v n m, show v + ((n + m : Nat) : Int) = v + n + m by omega]
    omega
/-- what dirt passes those above v -/
def cab (f : Int → Int) : Nat → Int
  | 0 => 0
  | k + 1 => cab f k + dq f k - (cl f (lmq f) (f 0 - 1 - k).toNat k (cab f k)).2
def ccl (f : Int → Int) (v : Int) : Int := (cl f (lmq f) (f 0 - 1 - v).toNat v (cab f v.toNat)).2
def F_cleaning (N : Ints) (v : Int) : Int := if v = -1 ∨ (0 ≤ v ∧ v < N 112 0) then (if v < 0 then (if N 112 0 = 0 then 0 else (cl (N 112) (lmq (N 112)) (N 112 0 - 1).toNat 0 0).1) else ccl (N 112) v) else -1
theorem cl_at {f : Int → Int} (h : WN f) {k : Nat} {p : Int} (hk : (k : Int) < f 0) (p0 : 0 ≤ p) (p1 : p ≤ sq (dq f) 0 k) :
    cl f (lmA f (sq (dq f) 0 (f 0).toNat)) (f 0 - 1 - k).toNat k p = cl f (lmq f) (f 0 - 1 - k).toNat k p ∧ (0 ≤ (cl f (lmq f) (f 0 - 1 - k).toNat k p).1 ∧ (cl f (lmq f) (f 0 - 1 - k).toNat k p).1 ≤ 6480) ∧ (0 ≤ (cl f (lmq f) (f 0 - 1 - k).toNat k p).2 ∧ (cl f (lmq f) (f 0 - 1 - k).toNat k p).2 ≤ p + dq f k) ∧ p ≤ sq (dq f) 0 (f 0).toNat - dq f k := by
  have hn := h.nv
  have sp : sq (dq f) 0 (f 0).toNat = sq (dq f) 0 k + sq (dq f) k ((f 0 - 1 - k).toNat + 1) := by
    have := sq_add (dq f) 0 k ((f 0 - 1 - k).toNat + 1)
    rw [show k + ((f 0 - 1 - k).toNat + 1) = (f 0).toNat by omega, show (0 : Int) + (k : Int) = k by omega] at this
    exact this
  have e := cl_same h (A := sq (dq f) 0 (f 0).toNat) (f 0 - 1 - k).toNat k p (by omega) (by omega) p0 (by omega)
  have sb := sd_bd h (f 0).toNat (by omega)
  have fr := sq_front (dq f) k (f 0 - 1 - k).toNat
  have nn : 0 ≤ sq (dq f) ((k : Int) + 1) (f 0 - 1 - k).toNat := sq_nn _ (fun i x y => (h.fact (show 0 ≤ i by omega) (show i < 6 by omega)).2.2.2.1.1)
  have bd := cl_bd (lm := lmA f (sq (dq f) 0 (f 0).toNat)) h (A := sq (dq f) 0 (f 0).toNat) (by omega) (f 0 - 1 - k).toNat k p (by omega) (by omega) p0 (by omega) (fun i x y => by
    have fa := h.fact (show 0 ≤ i by omega) (show i < 6 by omega)
    have a2 := sd_mono h (i.toNat + 1) ((f 0).toNat - (i.toNat + 1)) (by omega)
    rw [show i.toNat + 1 + ((f 0).toNat - (i.toNat + 1)) = (f 0).toNat by omega] at a2
    have a1 := sd_mono h i.toNat 0 (by omega)
    have e : sq (dq f) 0 (i.toNat + 1) = sq (dq f) 0 i.toNat + dq f (0 + (i.toNat : Int)) := rfl
    rw [show (0 : Int) + (i.toNat : Int) = i by omega] at e
    have l0 : 0 ≤ lmq f i := fa.2.2.2.2.1.1
    unfold lmA
    split <;> omega)
  rw [e] at bd
  refine ⟨e, ?_, bd.2, by omega⟩
  omega
theorem cab_bd {f : Int → Int} (h : WN f) : ∀ k : Nat, (k : Int) ≤ f 0 → 0 ≤ cab f k ∧ cab f k ≤ sq (dq f) 0 k
  | 0, _ => ⟨Int.le_refl _, Int.le_refl _⟩
  | k + 1, hk => by
    have a := cab_bd h k (by omega)
    have c := cl_at h (k := k) (p := cab f k) (by omega) a.1 a.2
    have e : cab f (k + 1) = cab f k + dq f k - (cl f (lmq f) (f 0 - 1 - k).toNat k (cab f k)).2 := rfl
    have e2 : sq (dq f) 0 (k + 1) = sq (dq f) 0 k + dq f (0 + (k : Int)) := rfl
    rw [show (0 : Int) + (k : Int) = k by omega] at e2
    omega
