/-! what goes down when each village v lets T v c of the c that comes pass; sharings -/
def gab (f : Int → Int) (w : Int) (T : Int → Int → Int) : Nat → Int
  | 0 => 0
  | v + 1 => gab f w T v + infl f w v - cu f v (gab f w T v + infl f w v - (if T v (gab f w T v + infl f w v) < gab f w T v + infl f w v then T v (gab f w T v + infl f w v) else gab f w T v + infl f w v))
def gC (f : Int → Int) (w : Int) (T : Int → Int → Int) (v : Int) : Int := gab f w T v.toNat + infl f w v
def gL (f : Int → Int) (w : Int) (T : Int → Int → Int) (v : Int) : Int := if T v (gC f w T v) < gC f w T v then T v (gC f w T v) else gC f w T v
def gT' (f : Int → Int) (w : Int) (T : Int → Int → Int) (v : Int) : Int := cu f v (gC f w T v - gL f w T v)
def gP (f : Int → Int) (w : Int) (T : Int → Int → Int) (v : Int) : Int := gC f w T v - gT' f w T v
def gM (f : Int → Int) (w : Int) (T : Int → Int → Int) (v : Int) : Int := mde f v (gT' f w T v) (gP f w T v)
theorem gab_succ (f : Int → Int) (w : Int) (T : Int → Int → Int) (v : Nat) : gab f w T (v + 1) = gP f w T v := by
  unfold gP gT' gL gC
  rw [Int.toNat_natCast]
  rfl
theorem gab_bd {f : Int → Int} (h : WN f) {w : Int} (hw : 0 ≤ w) (hw2 : w ≤ 20) {T : Int → Int → Int} (hT : ∀ v c, 0 ≤ T v c) : ∀ v : Nat, v ≤ 6 → 0 ≤ gab f w T v ∧ gab f w T v ≤ 24 * v
  | 0, _ => ⟨Int.le_refl _, Int.le_refl _⟩
  | v + 1, hv => by
    have a := gab_bd h hw hw2 hT v (by omega)
    have b := infl_bd h (v := v) (by omega) (by omega) hw hw2
    have t := hT v (gC f w T v)
    rw [gab_succ]
    have ec : gC f w T v = gab f w T v + infl f w v := by unfold gC; rw [Int.toNat_natCast]
    have hl : 0 ≤ gL f w T v ∧ gL f w T v ≤ gC f w T v := by unfold gL; split <;> omega
    have c := cu_bd f (v := v) (t := gC f w T v - gL f w T v) (by omega)
    unfold gP gT'
    omega
theorem g_bd {f : Int → Int} (h : WN f) {w : Int} (hw : 0 ≤ w) (hw2 : w ≤ 20) {T : Int → Int → Int} (hT : ∀ v c, 0 ≤ T v c) {v : Int} (h0 : 0 ≤ v) (h1 : v < 6) :
    (0 ≤ gC f w T v ∧ gC f w T v ≤ 144) ∧ (0 ≤ gL f w T v ∧ gL f w T v ≤ gC f w T v) ∧ (0 ≤ gT' f w T v ∧ gT' f w T v ≤ 12 ∧ gT' f w T v ≤ gC f w T v) ∧ (0 ≤ gP f w T v ∧ gP f w T v ≤ 144) ∧ (-1800 ≤ gM f w T v ∧ gM f w T v ≤ 1188) := by
  have a := gab_bd h hw hw2 hT v.toNat (by omega)
  have b := infl_bd h h0 h1 hw hw2
  have t := hT v (gC f w T v)
  have ec : gC f w T v = gab f w T v.toNat + infl f w v := rfl
  have hl : 0 ≤ gL f w T v ∧ gL f w T v ≤ gC f w T v := by unfold gL; split <;> omega
  have c := cu_bd f (v := v) (t := gC f w T v - gL f w T v) (by omega)
  have ep : gP f w T v = gC f w T v - gT' f w T v := rfl
  have et : gT' f w T v = cu f v (gC f w T v - gL f w T v) := rfl
  have m := mde_bd h h0 h1 (u := gT' f w T v) (p := gP f w T v) (by omega) (by omega) (by omega)
  have em : gM f w T v = mde f v (gT' f w T v) (gP f w T v) := rfl
  omega
def downv (f : Int → Int) (v : Int) : Int := runv f 0 v - (if 0 < v then runv f 0 (v - 1) else 0)
def upv (f : Int → Int) (v : Int) : Int := runv f v (f 0 - 1) - (if v < f 0 - 1 then runv f (v + 1) (f 0 - 1) else 0)
def equalv (f : Int → Int) (v : Int) : Int := bestv f 10 / f 0 + (if v < bestv f 10 % f 0 then 1 else 0)
def keepv (f : Int → Int) (v : Int) : Int := gM f 10 (fun _ _ => 0) v
def shv (f : Int → Int) (s v : Int) : Int := if s = 0 then keepv f v else if s = 1 then downv f v else if s = 2 then upv f v else equalv f v
theorem runv_bd {f : Int → Int} (h : WN f) {a l : Int} (h0 : 0 ≤ a) (h1 : a ≤ l) (h2 : l < 6) : -10800 ≤ runv f a l ∧ runv f a l ≤ 7128 := by
  unfold runv
  have hs := sg_infl h (w := 10) (by omega) (by omega) (a := a) (l := l) h0 (by omega) h2
  have hr := sg_rest (q := infl f 10) (a := a) (w := a) (l := l) (by omega) (by omega)
  rw [sg_at] at hr
  have := bb_bd (q := infl f 10) h (l - a).toNat a (infl f 10 a) h0 (by omega) (infl_bd h h0 (by omega) (by omega) (by omega)).1 (fun i x y => (infl_bd h (by omega) (by omega) (by omega) (by omega)).1) (by omega)
  omega
theorem shv_bd {f : Int → Int} (h : WN f) (s : Int) {v : Int} (h0 : 0 ≤ v) (h1 : v < f 0) : -30000 ≤ shv f s v ∧ shv f s v ≤ 30000 := by
  have hn := h.nv
  unfold shv
  split
  · have := (g_bd h (w := 10) (by omega) (by omega) (T := fun _ _ => 0) (fun _ _ => Int.le_refl _) h0 (by omega)).2.2.2.2
    unfold keepv
    omega
  · split
    · have a := runv_bd h (a := 0) (l := v) (by omega) (by omega) (by omega)
      unfold downv
      split
      · have := runv_bd h (a := 0) (l := v - 1) (by omega) (by omega) (by omega)
        omega
      · omega
    · split
      · have a := runv_bd h (a := v) (l := f 0 - 1) (by omega) (by omega) (by omega)
        unfold upv
        split
        · have := runv_bd h (a := v + 1) (l := f 0 - 1) (by omega) (by omega) (by omega)
          omega
        · omega
      · have a := bestv_bd h (w := 10) (by omega) (by omega)
        have d1 : bestv f 10 / f 0 ≤ 7128 := by
          apply Int.ediv_le_of_le_mul (by omega)
          have := Int.mul_le_mul_of_nonneg_left (show (1 : Int) ≤ f 0 by omega) (show (0 : Int) ≤ 7128 by omega)
          omega
        have d2 : -10800 ≤ bestv f 10 / f 0 := by
          rw [Int.le_ediv_iff_mul_le (by omega)]
          have := Int.mul_le_mul_of_nonneg_left (show (1 : Int) ≤ f 0 by omega) (show (0 : Int) ≤ 10800 by omega)
          omega
        unfold equalv
        split <;> omega
def F_share (N : Ints) (s v w : Int) : Int := if (0 ≤ s ∧ s ≤ 3) ∧ (0 ≤ v ∧ v < N 112 0) ∧ (0 ≤ w ∧ w ≤ 1) then (if w = 0 then shv (N 112) s v else if s = 0 then 0 else shv (N 112) s v - bM (N 112) v) else -1000001
/-- the first law that the shares sh break -/
def brkB (f sh : Int → Int) (a : Int) : Nat → Int → Int → Option Int
  | 0, _, _ => none
  | m + 1, b, s => if s + sh b < runv f a b then some (100 + 10 * a + b) else brkB f sh a m (b + 1) (s + sh b)
def brkA (f sh : Int → Int) : Nat → Int → Option Int
  | 0, _ => none
  | m + 1, a => match brkB f sh a (m + 1) a 0 with
    | some z => some z
    | none => brkA f sh m (a + 1)
def brkV (f sh : Int → Int) : Nat → Int → Int
  | 0, _ => 0
  | m + 1, v => if mostv f v < sh v then 200 + v else brkV f sh m (v + 1)
def brk (f sh : Int → Int) : Int := match brkA f sh (f 0).toNat 0 with
  | some z => z
  | none => brkV f sh (f 0).toNat 0
theorem brkB_congr {f sh sh' : Int → Int} {a : Int} : ∀ (m : Nat) (b s : Int), (∀ v : Int, b ≤ v → v < b + m → sh v = sh' v) → brkB f sh a m b s = brkB f sh' a m b s
  | 0, _, _, _ => rfl
  | m + 1, b, s, h => by
    show (if s + sh b < runv f a b then _ else brkB f sh a m (b + 1) (s + sh b)) = (if s + sh' b < runv f a b then _ else brkB f sh' a m (b + 1) (s + sh' b))
    rw [h b (by omega) (by omega), brkB_congr m (b + 1) (s + sh' b) (fun v x y => h v (by omega) (by omega))]
theorem brkA_congr {f sh sh' : Int → Int} : ∀ (m : Nat) (a : Int), (∀ v : Int, a ≤ v → v < a + m → sh v = sh' v) → brkA f sh m a = brkA f sh' m a
  | 0, _, _ => rfl
  | m + 1, a, h => by
    show (match brkB f sh a (m + 1) a 0 with | some z => some z | none => brkA f sh m (a + 1)) = (match brkB f sh' a (m + 1) a 0 with | some z => some z | none => brkA f sh' m (a + 1))
    rw [brkB_congr (sh' := sh') (m + 1) a 0 (fun v x y => h v x (by omega)), brkA_congr (sh' := sh') m (a + 1) (fun v x y => h v (by omega) (by omega))]
theorem brkV_congr {f sh sh' : Int → Int} : ∀ (m : Nat) (a : Int), (∀ v : Int, a ≤ v → v < a + m → sh v = sh' v) → brkV f sh m a = brkV f sh' m a
  | 0, _, _ => rfl
  | m + 1, a, h => by
    show (if mostv f a < sh a then 200 + a else brkV f sh m (a + 1)) = (if mostv f a < sh' a then 200 + a else brkV f sh' m (a + 1))
    rw [h a (by omega) (by omega), brkV_congr m (a + 1) (fun v x y => h v (by omega) (by omega))]
theorem brk_congr {f sh sh' : Int → Int} (h : ∀ v : Int, 0 ≤ v → v < f 0 → sh v = sh' v) : brk f sh = brk f sh' := by
  unfold brk
  rw [brkA_congr (sh' := sh') _ _ (fun v x y => h v x (by omega)), brkV_congr (sh' := sh') _ _ (fun v x y => h v x (by omega))]
def F_broken (N : Ints) (s : Int) : Int := if 0 ≤ s ∧ s ≤ 3 then brk (N 112) (shv (N 112) s) else -1
abbrev villP (N : Ints) (w : Int) : Prop := (0 ≤ w ∧ w ≤ 12) ∧ N 112 0 ≠ 6
def nowV (f : Int → Int) (w : Int) : Int → Int := fun j => if 10 + 18 * f 0 ≤ j ∧ j < 10 + 18 * f 0 + 18 then (if j = 10 + 18 * f 0 then w else if j = 10 + 18 * f 0 + 1 ∨ j = 10 + 18 * f 0 + 4 then 99 else if j = 10 + 18 * f 0 + 5 then 1 else 0) else if j = 0 then f 0 + 1 else f j
def rowI (I : Ints) (k : Nat) (g : Int → Int) : Ints := fun c => if c = k then g else I c
theorem rowI_at {I : Ints} {k : Nat} {g : Int → Int} : rowI I k g k = g := if_pos rfl
theorem rowI_ne {I : Ints} {k c : Nat} {g : Int → Int} (h : c ≠ k) : rowI I k g c = I c := if_neg h
def F_village (N : Ints) (w : Int) : Int := if 0 ≤ w ∧ w ≤ 12 then (if N 112 0 = 6 then -2 else N 112 0) else -1
def G_village (N : Ints) (w : Int) : Ints := if villP N w then rowI N 112 (nowV (N 112) w) else N
def F_set (N : Ints) (v w n : Int) : Int := if setP N v w n then N 112 (10 + 18 * v + w) else -1
def G_set (N : Ints) (v w n : Int) : Ints := if setP N v w n then upI N 112 (10 + 18 * v + w) n else N
theorem bM_bd {f : Int → Int} (h : WN f) {v : Int} (h0 : 0 ≤ v) (h1 : v < f 0) : -1800 ≤ bM f v ∧ bM f v ≤ 1188 := by
  have hn := h.nv
  have hq : ∀ i : Int, 0 ≤ i → i ≤ f 0 - 1 → 0 ≤ infl f 10 i := fun i x y => (infl_bd h x (by omega) (by omega) (by omega)).1
  have u := puse_bd (f := f) hq v.toNat (by omega)
  have p := pab_bd (f := f) hq (v.toNat + 1) (by omega)
  have s := sg_infl h (w := 10) (by omega) (by omega) (a := 0) (l := v) (by omega) (by omega) (by omega)
  rw [show ((v.toNat + 1 : Nat) : Int) - 1 = v by omega] at p
  exact mde_bd h h0 (by omega) (by unfold bU; omega) (by unfold bP; omega) (by unfold bP; omega)
