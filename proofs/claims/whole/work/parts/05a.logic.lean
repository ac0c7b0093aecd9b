/-! THE LOGIC, a: values with whole numbers, a memory of numbered cells, the world that it stands for, and the judgement Wp -/
def wr (z : Int) : Int := z.bmod 4294967296
abbrev i32 (z : Int) : Int32 := Int32.ofInt z
def inR (z : Int) : Prop := -2147483648 ≤ z ∧ z ≤ 2147483647
theorem inR_0 : inR 0 := ⟨by omega, by omega⟩
theorem wr_in (z : Int) : inR (wr z) := by
  have h1 := Int.le_bmod (x := z) (m := 4294967296) (by omega)
  have h2 := Int.bmod_lt (x := z) (m := 4294967296) (by omega)
  unfold inR wr
  omega
theorem wr_id {z : Int} (h : -2147483648 ≤ z ∧ z ≤ 2147483647) : wr z = z := by
  unfold wr
  exact Int.bmod_eq_of_le (by omega) (by omega)
theorem wr_wr (z : Int) : wr (wr z) = wr z := by unfold wr; exact Int.bmod_bmod
theorem i32_wr (z : Int) : i32 (wr z) = i32 z := by
  apply Int32.toInt_inj.mp
  rw [Int32.toInt_ofInt, Int32.toInt_ofInt]
  exact Int.bmod_bmod
theorem i32_add (x y : Int) : i32 x + i32 y = i32 (wr (x + y)) := by rw [i32_wr]; exact (Int32.ofInt_add x y).symm
theorem i32_sub (x y : Int) : i32 x - i32 y = i32 (wr (x - y)) := by rw [i32_wr]; exact (Int32.ofInt_sub x y).symm
theorem i32_mul (x y : Int) : i32 x * i32 y = i32 (wr (x * y)) := by rw [i32_wr]; exact (Int32.ofInt_mul x y).symm
theorem i32_neg (x : Int) : -i32 x = i32 (wr (-x)) := by rw [i32_wr]; exact (Int32.ofInt_neg x).symm
theorem i32_t {z : Int} (h : inR z) : (i32 z).toInt = z := Int32.toInt_ofInt_of_le h.1 (by have := h.2; omega)
theorem i32_c {z : Int} (h : inR z) : (i32 z).toNatClampNeg = z.toNat := by
  show (i32 z).toInt.toNat = _
  rw [i32_t h]
theorem i32_of (x : Int32) : i32 x.toInt = x := Int32.ofInt_toInt x
theorem i32_R (x : Int32) : inR x.toInt := ⟨Int32.le_toInt x, by have := Int32.toInt_lt x; omega⟩
theorem i32_eq {x y : Int} (hx : inR x) (hy : inR y) : i32 x = i32 y ↔ x = y := by
  rw [← Int32.toInt_inj, i32_t hx, i32_t hy]
theorem i32_lt {x y : Int} (hx : inR x) (hy : inR y) : i32 x < i32 y ↔ x < y := by
  rw [Int32.lt_iff_toInt_lt, i32_t hx, i32_t hy]
theorem i32_le {x y : Int} (hx : inR x) (hy : inR y) : i32 x ≤ i32 y ↔ x ≤ y := by
  rw [Int32.le_iff_toInt_le, i32_t hx, i32_t hy]
theorem i32_0 : i32 0 = 0 := rfl
theorem i32_pin {z : Int} {n : Nat} (hz : inR z) (h0 : 0 ≤ z) (h : z < n) : vp_in (i32 z) n := by
  rintro (q | q)
  · have := (i32_lt hz inR_0).mp q
    omega
  · rw [i32_c hz] at q
    omega
abbrev Vl : Type := Int ⊕ (Int64 ⊕ Option Nat)
abbrev vi (z : Int) : Vl := .inl z
abbrev vj (z : Int64) : Vl := .inr (.inl z)
abbrev vr (k : Nat) : Vl := .inr (.inr (some k))
abbrev vu : Vl := .inr (.inr none)
abbrev Mem : Type := (Nat → Int → Int) × (Nat → Int → Option Nat) × List (Nat × Nat)
def toV (α : Nat → Nat) : Vl → Value
  | .inl z => .int (i32 z)
  | .inr (.inl z) => .long z
  | .inr (.inr none) => .null
  | .inr (.inr (some k)) => .ref (α k)
def okV (N : Nat) : Vl → Prop
  | .inl z => inR z
  | .inr (.inl _) => True
  | .inr (.inr none) => True
  | .inr (.inr (some k)) => k < N ∨ 1000 ≤ k
theorem okV.mono {N N' : Nat} (h : N ≤ N') {v : Vl} (hv : okV N v) : okV N' v := by
  rcases v with z | z | _ | k
  · exact hv
  · exact hv
  · exact hv
  · exact hv.imp (fun q => Nat.lt_of_lt_of_le q h) id
abbrev GE : Type := Launch × va_G × (Nat × Nat × Nat × Nat) × (Nat → Nat) × Nat × (Nat → Nat × (Int → Int))
abbrev gD (G : GE) : va_G := G.2.1
abbrev gA (G : GE) : Nat → Nat := G.2.2.2.1
abbrev gB (G : GE) : Nat → Prop := fun q => G.2.2.2.2.1 ≤ q
abbrev gT (G : GE) : Nat → Nat × (Int → Int) := G.2.2.2.2.2
abbrev gY (G : GE) : List (ClassId × FieldType) := [(G.2.2.1.1, .int), (G.2.2.1.2.1, .boolean), (G.2.2.1.2.2.1, .array .int), (G.2.2.1.2.2.2, .object "WaterThanks$Sheet")]
def tyOf (c j : Nat) : FieldType := match c with
  | 0 => tyX0 j
  | 1 => tyX1 j
  | 2 => tyX2 j
  | 3 => tyX3 j
  | 4 => tyX4 j
  | 5 => tyX5 j
  | 6 => tyX6 j
  | 7 => tyX7 j
  | 8 => tyX8 j
  | _ => tyX9 j
def isRf : FieldType → Bool
  | .array _ => true
  | .object _ => true
  | _ => false
def fR (c j : Nat) : Bool := isRf (tyOf c j)
def cF (α : Nat → Nat) (M : Mem) (k c j : Nat) : Value := if fR c j = true then va_rf ((M.2.1 k j).map α) else .int (i32 (M.1 k j))
def cE (G : GE) (α : Nat → Nat) (M : Mem) (k : Nat) (s : Nat × Nat) : va_E :=
  if s.1 < 16 then .inr (s.1, (List.range s.2).map (cF α M k s.1))
  else if s.1 = 16 then .inl (G.2.2.1.1, s.2, .inl (fun j => i32 (M.1 k j)))
  else if s.1 = 17 then .inl (G.2.2.1.2.1, s.2, .inl (fun j => i32 (M.1 k j)))
  else if s.1 = 18 then .inl (G.2.2.1.2.2.1, s.2, .inr (.inr (.inr (.inr (fun j => (M.2.1 k j).map α)))))
  else .inl (G.2.2.1.2.2.2, s.2, .inr (.inr (.inr (.inr (fun j => (M.2.1 k j).map α)))))
def wd (G : GE) (α : Nat → Nat) (M : Mem) : va_W := (List.range M.2.2.length).map (fun k => (α k, cE G α M k (M.2.2.getD k (0, 0))))
theorem wd_len {G : GE} {α : Nat → Nat} {M : Mem} : (wd G α M).length = M.2.2.length := by simp [wd]
theorem wd_at {G : GE} {α : Nat → Nat} {M : Mem} {k : Nat} {s : Nat × Nat} (h : M.2.2[k]? = some s) : (wd G α M)[k]? = some (α k, cE G α M k s) := by
  have hk := (List.getElem?_eq_some_iff.mp h).1
  simp [wd, List.getElem?_map, List.getElem?_range hk, h]
theorem wd_ext {G : GE} {α : Nat → Nat} {M : Mem} {W : va_W} (hl : W.length = M.2.2.length) (h : ∀ (k : Nat) (s : Nat × Nat), M.2.2[k]? = some s → W[k]? = some (α k, cE G α M k s)) : W = wd G α M := by
  apply List.ext_getElem?
  intro k
  cases hs : M.2.2[k]? with
  | some s => rw [h k s hs, wd_at hs]
  | none =>
    have hk : M.2.2.length ≤ k := List.getElem?_eq_none_iff.mp hs
    rw [List.getElem?_eq_none (by omega), List.getElem?_eq_none (by rw [wd_len]; exact hk)]
theorem cE_congr {G : GE} {α : Nat → Nat} {M M' : Mem} {k : Nat} {s : Nat × Nat} (h1 : M'.1 k = M.1 k) (h2 : M'.2.1 k = M.2.1 k) : cE G α M' k s = cE G α M k s := by
  have h3 : cF α M' k s.1 = cF α M k s.1 := by
    funext j
    unfold cF
    rw [h1, h2]
  unfold cE
  rw [h1, h2, h3]
/-- one cell of the world written -/
theorem wd_set {G : GE} {α : Nat → Nat} {M M' : Mem} {k : Nat} {s : Nat × Nat} {e : va_E} (hk : M.2.2[k]? = some s) (hS : M'.2.2 = M.2.2) (h1 : ∀ a, a ≠ k → M'.1 a = M.1 a) (h2 : ∀ a, a ≠ k → M'.2.1 a = M.2.1 a) (he : e = cE G α M' k s) : (wd G α M).set k (α k, e) = wd G α M' := by
  have hl := (List.getElem?_eq_some_iff.mp hk).1
  refine wd_ext (by rw [List.length_set, wd_len, hS]) fun a t ht => ?_
  rw [hS] at ht
  by_cases ha : a = k
  · subst ha
    rw [List.getElem?_set_self (by rw [wd_len]; exact hl)]
    cases hk.symm.trans ht
    rw [he]
  · rw [List.getElem?_set_ne (Ne.symm ha), wd_at ht, cE_congr (h1 a ha) (h2 a ha)]
def upI (I : Nat → Int → Int) (k : Nat) (j v : Int) : Nat → Int → Int := fun a b => if a = k ∧ b = j then v else I a b
def upR (R : Nat → Int → Option Nat) (k : Nat) (j : Int) (v : Option Nat) : Nat → Int → Option Nat := fun a b => if a = k ∧ b = j then v else R a b
theorem upI_ne {I : Nat → Int → Int} {k a : Nat} {j v : Int} (h : a ≠ k) : upI I k j v a = I a := funext fun b => by simp [upI, h]
theorem upR_ne {R : Nat → Int → Option Nat} {k a : Nat} {j : Int} {v : Option Nat} (h : a ≠ k) : upR R k j v a = R a := funext fun b => by simp [upR, h]
theorem upI_at {I : Nat → Int → Int} {k : Nat} {j v b : Int} : upI I k j v k b = if b = j then v else I k b := by simp [upI]
theorem upR_at {R : Nat → Int → Option Nat} {k : Nat} {j b : Int} {v : Option Nat} : upR R k j v k b = if b = j then v else R k b := by simp [upR]
def okM (M : Mem) : Prop := (∀ k j, inR (M.1 k j)) ∧ ∀ k j r, M.2.1 k j = some r → r < M.2.2.length ∨ 1000 ≤ r
theorem okM_upI {M : Mem} (h : okM M) {k : Nat} {j v : Int} (hv : inR v) : okM (upI M.1 k j v, M.2) := by
  refine ⟨fun a b => ?_, h.2⟩
  show inR (upI M.1 k j v a b)
  unfold upI
  split
  · exact hv
  · exact h.1 a b
theorem okM_upR {M : Mem} (h : okM M) {k r : Nat} {j : Int} (hv : r < M.2.2.length ∨ 1000 ≤ r) : okM (M.1, upR M.2.1 k j (some r), M.2.2) := by
  refine ⟨h.1, fun a b q => ?_⟩
  show upR M.2.1 k j (some r) a b = some q → _
  unfold upR
  split
  · intro e
    cases e
    exact hv
  · exact h.2 a b q
def lvs (α : Nat → Nat) : Nat → List Vl → List (Nat × Value)
  | _, [] => []
  | n, .inr (.inr none) :: r => lvs α (n + 1) r
  | n, .inl z :: r => (n, toV α (.inl z)) :: lvs α (n + 1) r
  | n, .inr (.inl z) :: r => (n, toV α (.inr (.inl z))) :: lvs α (n + 1) r
  | n, .inr (.inr (some k)) :: r => (n, toV α (.inr (.inr (some k)))) :: lvs α (n + 1) r
theorem lvs_mem {α : Nat → Nat} : ∀ (ls : List Vl) (n : Nat) (q : Nat × Value), q ∈ lvs α n ls ↔ ∃ (i : Nat) (v : Vl), ls[i]? = some v ∧ v ≠ vu ∧ q = (n + i, toV α v)
  | [], n, q => by simp [lvs]
  | a :: r, n, q => by
    have ih := lvs_mem (α := α) r (n + 1) q
    have step : (∃ (i : Nat) (v : Vl), r[i]? = some v ∧ v ≠ vu ∧ q = (n + 1 + i, toV α v)) ↔ ∃ (i : Nat) (v : Vl), (a :: r)[i + 1]? = some v ∧ v ≠ vu ∧ q = (n + (i + 1), toV α v) := by
      constructor
      · rintro ⟨i, v, h1, h2, h3⟩
        exact ⟨i, v, by simpa using h1, h2, by rw [h3]; congr 1; omega⟩
      · rintro ⟨i, v, h1, h2, h3⟩
        exact ⟨i, v, by simpa using h1, h2, by rw [h3]; congr 1; omega⟩
    have split : (∃ (i : Nat) (v : Vl), (a :: r)[i]? = some v ∧ v ≠ vu ∧ q = (n + i, toV α v)) ↔ (a ≠ vu ∧ q = (n, toV α a)) ∨ ∃ (i : Nat) (v : Vl), (a :: r)[i + 1]? = some v ∧ v ≠ vu ∧ q = (n + (i + 1), toV α v) := by
      constructor
      · rintro ⟨i, v, h1, h2, h3⟩
        cases i with
        | zero => simp at h1; subst h1; exact Or.inl ⟨h2, h3⟩
        | succ i => exact Or.inr ⟨i, v, h1, h2, h3⟩
      · rintro (⟨h2, h3⟩ | ⟨i, v, h1, h2, h3⟩)
        · exact ⟨0, a, rfl, h2, h3⟩
        · exact ⟨i + 1, v, h1, h2, h3⟩
    rw [split, ← step, ← ih]
    rcases a with z | z | _ | k <;> simp [lvs]
theorem lvs_get {α : Nat → Nat} {la : Array Slot} {n i : Nat} {ls : List Vl} {v : Vl} (h : lv_has la n (lvs α 0 ls)) (hi : ls[i]? = some v) (hv : v ≠ vu) : la[i]? = some (.val (toV α v)) := by
  have := h.2.2 (i, toV α v) ((lvs_mem ls 0 _).mpr ⟨i, v, hi, hv, by simp⟩)
  exact this
/-- the place ahead of i holds no long -/
def noL (ls : List Vl) (i : Nat) : Bool := match i with
  | 0 => true
  | i + 1 => match ls[i]? with
    | some (.inr (.inl _)) => false
    | _ => true
theorem toV_cat {α : Nat → Nat} {v : Vl} (h : (toV α v).category = 2) : ∃ z, v = vj z := by
  rcases v with z | z | _ | k
  · cases h
  · exact ⟨z, rfl⟩
  · cases h
  · cases h
theorem lvs_set {α : Nat → Nat} {ls : List Vl} {i : Nat} {v : Vl} (hn : noL ls i = true) : ∀ q ∈ lvs α 0 (ls.set i v), q ∈ (i, toV α v) :: (lvs α 0 ls).filter (fun q => !(q.1 == i) && !(q.1 + 1 == i && q.2.category == 2)) := by
  intro q hq
  obtain ⟨j, w, h1, h2, rfl⟩ := (lvs_mem _ 0 _).mp hq
  rw [Nat.zero_add]
  by_cases hj : j = i
  · subst hj
    have hl : j < ls.length := by
      have := (List.getElem?_eq_some_iff.mp h1).1
      simpa using this
    rw [List.getElem?_set_self hl] at h1
    cases h1
    exact List.mem_cons_self
  · rw [List.getElem?_set_ne (Ne.symm hj)] at h1
    refine List.mem_cons_of_mem _ (List.mem_filter.mpr ⟨(lvs_mem _ 0 _).mpr ⟨j, w, h1, h2, by rw [Nat.zero_add]⟩, ?_⟩)
    have hc : ¬ (j + 1 = i ∧ (toV α w).category = 2) := by
      rintro ⟨e, hc⟩
      obtain ⟨z, rfl⟩ := toV_cat hc
      subst e
      simp [noL, h1] at hn
    simp only [Bool.and_eq_true, Bool.not_eq_true', beq_eq_false_iff_ne, ne_eq, Bool.and_eq_false_iff]
    refine ⟨hj, ?_⟩
    by_cases e : j + 1 = i
    · exact Or.inr (fun z => hc ⟨e, z⟩)
    · exact Or.inl e
theorem lvs_has {α : Nat → Nat} {la : Array Slot} {n i : Nat} {ls : List Vl} {v : Vl} (hn : noL ls i = true) (h : lv_has la n ((i, toV α v) :: (lvs α 0 ls).filter (fun q => !(q.1 == i) && !(q.1 + 1 == i && q.2.category == 2)))) : lv_has la n (lvs α 0 (ls.set i v)) :=
  ⟨h.1, h.2.1, fun q hq => h.2.2 q (lvs_set hn q hq)⟩
def ssum (S : List (Nat × Nat)) : Nat := (S.map (fun s => s.2)).sum
def sTL : List (String × Nat × String × List Int) := [
  (RX6, 76, "let", [108, 101, 116]),
  (RX6, 82, "if", [105, 102]),
  (RX6, 84, "or", [111, 114]),
  (RX6, 86, "and", [97, 110, 100]),
  (RX6, 88, "not", [110, 111, 116]),
  (RX6, 90, "wet", [119, 101, 116]),
  (RX6, 92, "comes", [99, 111, 109, 101, 115]),
  (RX6, 94, "flow", [102, 108, 111, 119]),
  (RX9, 255, "let", [108, 101, 116]),
  (RX9, 257, "if", [105, 102]),
  (RX9, 224, "not", [110, 111, 116]),
  (RX9, 226, "(", [40]),
  (RX9, 234, ")", [41]),
  (RX9, 210, "wet", [119, 101, 116]),
  (RX9, 216, "comes", [99, 111, 109, 101, 115]),
  (RX9, 217, "flow", [102, 108, 111, 119]),
  (RX9, 239, "<", [60]),
  (RX9, 241, "=", [61]),
  (RX9, 243, ">", [62]),
  (RX9, 248, "and", [97, 110, 100]),
  (RX9, 253, "or", [111, 114]),
  (RX9, 259, ";", [59])]
def sTx (i : Nat) : String × Nat × String × List Int := sTL.getD i ("", 0, "", [])
theorem nest_warm {s U : State} (hW : s.WarmedH U.vm) {w : Cond} (hw : w ∈ nestW) (h : va_Nw w s) : va_Nw w U := by
  have hn := (List.mem_filter.mp hw).2
  cases w <;> first | (simp [isNest] at hn; done) | exact va_Nw.warmM hW h | exact va_Nw.warmF hW h
theorem nest_same {u U : State} (hv : U.vm = u.vm) {w : Cond} (hw : w ∈ nestW) (h : va_Nw w u) : va_Nw w U := by
  have hn := (List.mem_filter.mp hw).2
  cases w <;> first | (simp [isNest] at hn; done) | exact va_Nw.same rfl hv.symm h
/-- rows of whole numbers may lie in a row -/
def mj_AO (U : State) : Prop := (Cond.arrayOver (.array .int)).before #[] U = true
theorem mj_AO_moved {u U : State} (hvm : u.vm.Alike U.vm) (h : mj_AO u) : mj_AO U := by
  have e := Cond.arrayOver_setVmC (args := #[]) (s := u) hvm (.array .int)
  have h2 : (Cond.arrayOver (.array .int)).before #[] (u.setVm U.vm) = true := e.trans h
  exact h2
/-- what lies outside: the text constants, the tables, the script (table 5) -/
def Ext (G : GE) (U : State) (H : Heap) : Prop :=
  (∀ i, i < 22 → vk_R (sTx i).1 (sTx i).2.1 (sTx i).2.2.1 (gA G (1000 + i)) U ∧ va_O "java/lang/String" (gA G (1000 + i)) (gB G) U H ∧ va_OF "java/lang/String" "coder" "B" (.int 0) (gA G (1000 + i)) (gB G) U H ∧ va_OF "java/lang/String" "value" "[B" (.ref (gA G (1100 + i))) (gA G (1000 + i)) (gB G) U H ∧ va_T .byte (gA G (1100 + i)) (sTx i).2.2.2.length (fun j => .int (i32 ((sTx i).2.2.2.getD j 0))) (gB G) U H) ∧
  (∀ i, i < 6 → va_T .int (gA G (2000 + i)) (gT G i).1 (fun j => .int (i32 ((gT G i).2 j))) (gB G) U H) ∧
  (∀ i, i < 5 → va_Z (zTb i).1 (zTb i).2 "[I" (.ref (gA G (2000 + i))) (gB G) U H) ∧
  va_Z "java/lang/String" "COMPACT_STRINGS" "Z" (.int 1) (gB G) U H ∧
  va_Z "jdk/internal/util/Preconditions" "SIOOBE_FORMATTER" "Ljava/util/function/BiFunction;" (if (gT G 10).1 = 0 then .null else .ref (gA G 2010)) (gB G) U H ∧
  (∀ w ∈ nestW, va_Nw w U) ∧ va_AO "WaterThanks$Sheet" U ∧ mj_AO U
theorem Ext_kept {G : GE} {U : State} {H H1 : Heap} (h : Ext G U H) (hq : ∀ a : Nat, a < H.size → ¬ gB G a → H1[a]? = H[a]?) : Ext G U H1 :=
  ⟨fun i hi => ⟨(h.1 i hi).1, (h.1 i hi).2.1.kept hq, (h.1 i hi).2.2.1.kept hq, (h.1 i hi).2.2.2.1.kept hq, (h.1 i hi).2.2.2.2.kept hq⟩, fun i hi => (h.2.1 i hi).kept hq, fun i hi => (h.2.2.1 i hi).kept hq, h.2.2.2.1.kept hq, h.2.2.2.2.1.kept hq, h.2.2.2.2.2⟩
theorem Ext_warm {G : GE} {s U : State} {H : Heap} (hW : s.WarmedH U.vm) (h : Ext G s H) : Ext G U H :=
  ⟨fun i hi => ⟨(h.1 i hi).1.warm hW, (h.1 i hi).2.1.moved hW.alike, (h.1 i hi).2.2.1.moved hW.alike, (h.1 i hi).2.2.2.1.moved hW.alike, (h.1 i hi).2.2.2.2.moved hW.alike⟩, fun i hi => (h.2.1 i hi).moved hW.alike, fun i hi => (h.2.2.1 i hi).moved hW.alike, h.2.2.2.1.moved hW.alike, h.2.2.2.2.1.moved hW.alike, fun w hw => nest_warm hW hw (h.2.2.2.2.2.1 w hw), va_AO.moved hW.alike h.2.2.2.2.2.2.1, mj_AO_moved hW.alike h.2.2.2.2.2.2.2⟩
theorem Ext_same {G : GE} {u U : State} {H : Heap} (hv : U.vm = u.vm) (h : Ext G u H) : Ext G U H := by
  have hA : u.vm.Alike U.vm := by rw [hv]; exact Vm.Alike.refl _
  exact ⟨fun i hi => ⟨(h.1 i hi).1.same hv, (h.1 i hi).2.1.moved hA, (h.1 i hi).2.2.1.moved hA, (h.1 i hi).2.2.2.1.moved hA, (h.1 i hi).2.2.2.2.moved hA⟩, fun i hi => (h.2.1 i hi).moved hA, fun i hi => (h.2.2.1 i hi).moved hA, h.2.2.2.1.moved hA, h.2.2.2.2.1.moved hA, fun w hw => nest_same hv hw (h.2.2.2.2.2.1 w hw), va_AO.moved hA h.2.2.2.2.2.2.1, mj_AO_moved hA h.2.2.2.2.2.2.2⟩
/-- what holds while a method runs -/
def Wi (G : GE) (s : State) (α0 : Nat → Nat) (N0 n0 maxL nC nS : Nat) (α : Nat → Nat) (H : Heap) (locs : List Loc) (la : Array Slot) (ls st : List Vl) (M : Mem) : Prop :=
  ((∀ k, k < N0 → α k = α0 k) ∧ (∀ k, 1000 ≤ k → α k = gA G k)) ∧ (va_P (gD G) vwCl (wd G α M) H ∧ va_D (gB G) (wd G α M) ∧ va_S (gB G) s.heap H locs) ∧ okM M ∧
  (∀ v ∈ ls, okV M.2.2.length v) ∧ (∀ v ∈ st, okV M.2.2.length v) ∧ lv_has la maxL (lvs α 0 ls) ∧ (N0 ≤ M.2.2.length ∧ n0 ≤ ssum M.2.2 ∧ M.2.2.length ≤ nC ∧ ssum M.2.2 ≤ nS ∧ nC ≤ 1000)
def Wp (G : GE) (p : Program) (e : Env) (s : State) (m : MethodId) (args : Array Value) (below : List Frame) (meth : Method) (c : Code) (R : Room) (α0 : Nat → Nat) (N0 n0 maxL nC nS : Nat) (Qf : State → Prop) (pc : Nat) (ls st : List Vl) (M : Mem) : Prop :=
  ∀ (α : Nat → Nat) (H : Heap) (locs : List Loc) (la : Array Slot), Wi G s α0 N0 n0 maxL nC nS α H locs la ls st M →
    W p G.1 e R s m args below meth c H locs (M.2.2.length - N0) (ssum M.2.2 - n0) Qf (F0 m pc la (st.map (toV α)))
abbrev Jd : Type := Nat → List Vl → List Vl → Mem → Prop
/-- J is the judgement of a method's run: own its class, cc its bytes -/
def OkJ (G : GE) (own : String) (ini : Bool) (cc : ByteArray) (maxL d nC nS : Nat) (J : Jd) : Prop :=
  ∃ (p : Program) (e : Env) (s : State) (m : MethodId) (args : Array Value) (below : List Frame) (meth : Method) (c : Code) (R : Room) (α0 : Nat → Nat) (N0 n0 : Nat) (Qf : State → Prop),
    (p.tables.exec = Jvm.exec ∧ c.code = cc ∧ c.maxLocals = maxL ∧ s.vm.findClass own = some m.cls ∧ (ini = true → meth.name = "<init>")) ∧
    ((∀ w ∈ lw_gd, w.before args s = true) ∧ G.2.2.2.2.1 ≤ s.heap.size ∧ va_K (gD G) vwCl (gY G) s ∧ Ext G s s.heap) ∧ (R.frames = d ∧ R.locals = 100 * d + 100 ∧ R.cells + N0 = nC ∧ R.slots + n0 = nS) ∧
    J = Wp G p e s m args below meth c R α0 N0 n0 maxL nC nS Qf
