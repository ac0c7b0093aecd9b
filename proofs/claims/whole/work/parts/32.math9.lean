/-! the treaty: conditions, lines, what they tell -/
/-! a step is a left value, a sign and a right value; the sign -1, -2, -3: not, and, or -/
abbrev St : Type := Int × Int × Int
def okst (t : St) : Prop := (0 ≤ t.2.1 ∧ t.2.1 ≤ 2 ∧ (0 ≤ t.1 ∧ t.1 ≤ 1002) ∧ (0 ≤ t.2.2 ∧ t.2.2 ≤ 1002)) ∨ (-3 ≤ t.2.1 ∧ t.2.1 ≤ -1)
/-- the steps L, begun with n in the pile, leave one there -/
def wst : List St → Int → Prop
  | [], n => n = 1
  | t :: L, n => okst t ∧ (if 0 ≤ t.2.1 then n < 20 ∧ wst L (n + 1) else if t.2.1 = -1 then 1 ≤ n ∧ wst L n else 2 ≤ n ∧ wst L (n - 1))
def mvl (x : Int) : Int := if x < 1000 then x else x + 1000
def cods (t : St) : List Int := if 0 ≤ t.2.1 then [mvl t.1, mvl t.2.2, 2003 + t.2.1] else [2005 - t.2.1]
def codo : List St → List Int
  | [] => []
  | t :: L => cods t ++ codo L
def vlx (x w c fl : Int) : Int := if x = 1000 then w else if x = 1001 then c else if x = 1002 then fl else x
def cmpv (w c fl : Int) (t : St) : Bool := if t.2.1 = 0 then decide (vlx t.1 w c fl < vlx t.2.2 w c fl) else if t.2.1 = 1 then decide (vlx t.1 w c fl = vlx t.2.2 w c fl) else decide (vlx t.2.2 w c fl < vlx t.1 w c fl)
def bnot : List Bool → List Bool
  | x :: r => (!x) :: r
  | [] => []
def band : List Bool → List Bool
  | y :: x :: r => (x && y) :: r
  | r => r
def bor : List Bool → List Bool
  | y :: x :: r => (x || y) :: r
  | r => r
def evs (w c fl : Int) : List St → List Bool → List Bool
  | [], s => s
  | t :: L, s => evs w c fl L (if 0 ≤ t.2.1 then cmpv w c fl t :: s else if t.2.1 = -1 then bnot s else if t.2.1 = -2 then band s else bor s)
def hdb : List Bool → Bool
  | x :: _ => x
  | [] => true
def oko (S : List St) : Prop := S = [] ∨ wst S 0
def evo (w c fl : Int) (S : List St) : Bool := hdb (evs w c fl S [])
abbrev Ln : Type := Int × Int × List St
/-- the row f holds the codes L from p on -/
def cat (f : Int → Int) : Int → List Int → Prop
  | _, [] => True
  | p, x :: L => f (156 + p) = x ∧ cat f (p + 1) L
theorem cat_append {f : Int → Int} {L' : List Int} : ∀ (L : List Int) (p : Int), cat f p (L ++ L') ↔ cat f p L ∧ cat f (p + L.length) L'
  | [], p => by
    rw [show p + (([] : List Int).length : Int) = p by simp]
    exact ⟨fun h => ⟨trivial, h⟩, fun h => h.2⟩
  | x :: L, p => by
    have ih := cat_append (f := f) (L' := L') L (p + 1)
    have e : p + ((x :: L).length : Int) = p + 1 + (L.length : Int) := by rw [List.length_cons]; omega
    rw [e]
    show (f (156 + p) = x ∧ cat f (p + 1) (L ++ L')) ↔ (f (156 + p) = x ∧ cat f (p + 1) L) ∧ cat f (p + 1 + L.length) L'
    rw [ih, and_assoc]
/-- the row f holds the lines from line l on, whose codes stand from p on -/
def tml (f : Int → Int) : Int → Int → List Ln → Prop
  | _, p, [] => f 3 = p ∧ p ≤ 200
  | l, p, (v, m, e) :: L => (f (124 + 4 * l) = v ∧ f (124 + 4 * l + 1) = m ∧ f (124 + 4 * l + 2) = p ∧ f (124 + 4 * l + 3) = p + (codo e).length) ∧ ((0 ≤ v ∧ v ≤ 5) ∧ (0 ≤ m ∧ m ≤ 99) ∧ oko e ∧ cat f p (codo e)) ∧ tml f (l + 1) (p + (codo e).length) L
def TM (f : Int → Int) (T : List Ln) : Prop := f 2 = T.length ∧ T.length ≤ 8 ∧ tml f 0 0 T
theorem tml_le {f : Int → Int} : ∀ (L : List Ln) (l p : Int), tml f l p L → p ≤ 200
  | [], _, _, h => h.2
  | (_, _, e) :: L, l, p, h => by
    have := tml_le L (l + 1) (p + (codo e).length) h.2.2
    omega
/-- what the lines tell village v of flow fl to let pass, of c that come in a year of wet w -/
def told (w c fl v : Int) : List Ln → Int → Int
  | [], a => a
  | (lv, m, e) :: L, a => told w c fl v L (if lv = v ∧ evo w c fl e = true then m else a)
def TF (f : Int → Int) (T : List Ln) (w p : Int) : Int → Int → Int := fun v c => if 0 ≤ p then p else told w c (f (10 + 18 * v + 0)) v T 0
theorem told_nn {f : Int → Int} {w c fl v : Int} : ∀ (L : List Ln) (l p a : Int), tml f l p L → 0 ≤ a ∧ a ≤ 99 → 0 ≤ told w c fl v L a ∧ told w c fl v L a ≤ 99
  | [], _, _, a, _, h => h
  | (lv, m, e) :: L, l, p, a, h, ha => by
    show 0 ≤ told w c fl v L (if lv = v ∧ evo w c fl e = true then m else a) ∧ told w c fl v L (if lv = v ∧ evo w c fl e = true then m else a) ≤ 99
    refine told_nn L (l + 1) _ _ h.2.2 ?_
    have := h.2.1.2.1
    split <;> omega
theorem TF_nn {f : Int → Int} {T : List Ln} (h : TM f T) (w p : Int) (v c : Int) : 0 ≤ TF f T w p v c := by
  unfold TF
  split
  · assumption
  · exact (told_nn T 0 0 0 h.2.2 (by omega)).1
def gS (f : Int → Int) (w : Int) (T : Int → Int → Int) : Nat → Int
  | 0 => 0
  | v + 1 => gS f w T v + gM f w T v
theorem gS_bd {f : Int → Int} (h : WN f) {w : Int} (hw : 0 ≤ w) (hw2 : w ≤ 20) {T : Int → Int → Int} (hT : ∀ v c, 0 ≤ T v c) : ∀ v : Nat, v ≤ 6 → -1800 * (v : Int) ≤ gS f w T v ∧ gS f w T v ≤ 1188 * (v : Int)
  | 0, _ => ⟨Int.le_refl _, Int.le_refl _⟩
  | v + 1, hv => by
    have a := gS_bd h hw hw2 hT v (by omega)
    have b := (g_bd h hw hw2 hT (v := v) (by omega) (by omega)).2.2.2.2
    have e : gS f w T (v + 1) = gS f w T v + gM f w T v := rfl
    omega
def F_treaty (N : Ints) (T : List Ln) (w v x : Int) : Int := if (0 ≤ w ∧ w ≤ 20) ∧ (0 ≤ v ∧ v < N 112 0) ∧ (0 ≤ x ∧ x ≤ 3) then (if x = 0 then gC (N 112) w (TF (N 112) T w (-1)) v else if x = 1 then gL (N 112) w (TF (N 112) T w (-1)) v else if x = 2 then gT' (N 112) w (TF (N 112) T w (-1)) v else gM (N 112) w (TF (N 112) T w (-1)) v) else -1000001
def bsY (f : Int → Int) : Nat → Int
  | 0 => 0
  | y + 1 => bsY f y + bestv f (f (118 + y))
def goY (f : Int → Int) (T : List Ln) (p : Int) : Nat → Int
  | 0 => 0
  | y + 1 => goY f T p y + gS f (f (118 + y)) (TF f T (f (118 + y)) p) (f 0).toNat
theorem bsY_bd {f : Int → Int} (h : WN f) : ∀ y : Nat, y ≤ 6 → -10800 * (y : Int) ≤ bsY f y ∧ bsY f y ≤ 7128 * (y : Int)
  | 0, _ => ⟨Int.le_refl _, Int.le_refl _⟩
  | y + 1, hy => by
    have a := bsY_bd h y (by omega)
    have w := h.wet (y := y) (by omega) (by omega)
    have b := bestv_bd h w.1 w.2
    have e : bsY f (y + 1) = bsY f y + bestv f (f (118 + y)) := rfl
    omega
theorem goY_bd {f : Int → Int} (h : WN f) {T : List Ln} (hT : TM f T) (p : Int) : ∀ y : Nat, y ≤ 6 → -10800 * (y : Int) ≤ goY f T p y ∧ goY f T p y ≤ 7128 * (y : Int)
  | 0, _ => ⟨Int.le_refl _, Int.le_refl _⟩
  | y + 1, hy => by
    have hn := h.nv
    have a := goY_bd h hT p y (by omega)
    have w := h.wet (y := y) (by omega) (by omega)
    have b := gS_bd h w.1 w.2 (T := TF f T (f (118 + y)) p) (fun v c => TF_nn hT _ p v c) (f 0).toNat (by omega)
    have e : goY f T p (y + 1) = goY f T p y + gS f (f (118 + y)) (TF f T (f (118 + y)) p) (f 0).toNat := rfl
    omega
def F_lost (N : Ints) (T : List Ln) : Int := bsY (N 112) (N 112 1).toNat - goY (N 112) T (-1) (N 112 1).toNat
/-- the least loss of m in 0 .. k, and the first m that has it -/
def pls (f : Int → Int) (T : List Ln) : Nat → Int × Int
  | 0 => (bsY f (f 1).toNat - goY f T 0 (f 1).toNat, 0)
  | k + 1 => if bsY f (f 1).toNat - goY f T (k + 1) (f 1).toNat < (pls f T k).1 then (bsY f (f 1).toNat - goY f T (k + 1) (f 1).toNat, k + 1) else pls f T k
def F_plain (N : Ints) (T : List Ln) (x : Int) : Int := if 0 ≤ x ∧ x ≤ 1 then (if x = 0 then (pls (N 112) T 24).1 else (pls (N 112) T 24).2) else -1
def brs (f : Int → Int) (w : Int) (T : Int → Int → Int) : Nat → Int → Int
  | 0, _ => -9
  | m + 1, v => if gM f w T v < mde f v (cu f v (gC f w T v)) (gC f w T v - cu f v (gC f w T v)) then v else brs f w T m (v + 1)
def F_breaks (N : Ints) (T : List Ln) (w : Int) : Int := if 0 ≤ w ∧ w ≤ 20 then brs (N 112) w (TF (N 112) T w (-1)) (N 112 0).toNat 0 else -1
