/-! THE LOGIC, e2: the instruction that makes rows of rows (the kit has no row for it), over what the kit's own text rests on -/
/-- the outer row of n places at h, as soon as i of them are filled -/
def gwO (c : ClassId) (n h i : Nat) : Cell := arrV c n (fun j => va_rf (if j < i then some (h + 1 + j) else none))
/-- an inner row of m whole numbers -/
def gwI (c : ClassId) (m : Nat) : Cell := arrV c m (fun _ => .int 0)
/-- the machine behind i inner rows -/
def gwS (T : State) (c c' : ClassId) (n m : Nat) : Nat → State
  | 0 => T.pushCell (gwO c n T.heap.size 0)
  | i + 1 => ((gwS T c c' n m i).pushCell (gwI c' m)).setCell T.heap.size (gwO c n T.heap.size (i + 1))
theorem gwO_next (c : ClassId) (n h i : Nat) : (gwO c n h i).setSlot i (.ref (h + 1 + i)) = gwO c n h (i + 1) := by
  unfold gwO
  rw [arrV_store]
  refine congrArg (arrV c n) (funext fun j => ?_)
  unfold updV
  by_cases e : j = i
  · subst e
    rw [if_pos rfl, if_pos (Nat.lt_succ_self j)]
    rfl
  · rw [if_neg e]
    show va_rf _ = va_rf _
    by_cases q : j < i
    · rw [if_pos q, if_pos (show j < i + 1 by omega)]
    · rw [if_neg q, if_neg (show ¬ j < i + 1 by omega)]
theorem gwO_size (c : ClassId) (n h i : Nat) : (gwO c n h i).slots.size = n := arrV_size c n _
theorem gwI_size (c : ClassId) (m : Nat) : (gwI c m).slots.size = m := arrV_size c m _
/-- all that stands in the heap behind i inner rows -/
theorem gwS_at (T : State) (c c' : ClassId) (n m : Nat) : ∀ i : Nat, (gwS T c c' n m i).heap.size = T.heap.size + 1 + i ∧ (∀ a : Nat, a < T.heap.size → (gwS T c c' n m i).heap[a]? = T.heap[a]?) ∧ (gwS T c c' n m i).heap[T.heap.size]? = some (gwO c n T.heap.size i) ∧
    (∀ j : Nat, j < i → (gwS T c c' n m i).heap[T.heap.size + 1 + j]? = some (gwI c' m)) ∧ (gwS T c c' n m i).vm = T.vm ∧ (gwS T c c' n m i).slotsUsed = T.slotsUsed + n + i * m := by
  intro i
  induction i with
  | zero =>
    refine ⟨by simp [gwS], fun a ha => State.heap_pushCell_of_lt _ _ ha, State.heap_pushCell_size _ _, fun j hj => absurd hj (Nat.not_lt_zero j), rfl, ?_⟩
    simp [gwS, gwO_size]
  | succ i ih =>
    obtain ⟨z1, z2, z3, z4, z5, z6⟩ := ih
    have y0 : ∀ a : Nat, a < T.heap.size + 1 + i → ((gwS T c c' n m i).pushCell (gwI c' m)).heap[a]? = (gwS T c c' n m i).heap[a]? := fun a ha => State.heap_pushCell_of_lt _ _ (by rw [z1]; exact ha)
    have y1 : ((gwS T c c' n m i).pushCell (gwI c' m)).heap[T.heap.size + 1 + i]? = some (gwI c' m) := by
      rw [← z1]
      exact State.heap_pushCell_size _ _
    refine ⟨?_, fun a ha => ?_, ?_, fun j hj => ?_, ?_, ?_⟩
    · simp [gwS, State.setCell, z1]
      omega
    · show (((gwS T c c' n m i).pushCell (gwI c' m)).setCell T.heap.size _).heap[a]? = _
      rw [State.heap_setCell_other (Nat.ne_of_gt ha), y0 a (by omega)]
      exact z2 a ha
    · exact State.heap_setCell_self ((y0 _ (by omega)).trans z3)
    · show (((gwS T c c' n m i).pushCell (gwI c' m)).setCell T.heap.size _).heap[T.heap.size + 1 + j]? = _
      rw [State.heap_setCell_other (show T.heap.size ≠ T.heap.size + 1 + j by omega)]
      by_cases e : j = i
      · rw [e]
        exact y1
      · rw [y0 _ (by omega)]
        exact z4 j (by omega)
    · simp [gwS, z5]
    · simp [gwS, z6, gwI_size, Nat.succ_mul]
      omega
theorem gwS_top (T : State) (f : JFrame) (c c' : ClassId) (n m : Nat) (i : Nat) : gwS (T.setTop f) c c' n m i = (gwS T c c' n m i).setTop f := by
  induction i with
  | zero => rfl
  | succ i ih => simp only [gwS, ih, State.heap_setTop, State.pushCell_setTop, State.setCell_setTop]
section GR
variable {E : CtlPost} {e : Env} {d : Bool} {acts : List Action} {s : State}
/-- one inner row is made -/
theorem gr_inner {c' cc : ClassId} {k : Class} {b : Int32} (hk : s.vm.classes[c']? = some k) (hkd : k.kind = .array cc .int) (hb : ¬ b < 0) (h1 : ¬ b.toNatClampNeg > e.platform.arrayLengthLimit) (h2 : ¬ b.toNatClampNeg * componentBytes .int > e.platform.maxHeapBytes) (h3 : s.heap.size < e.platform.maxCells) (h4 : s.slotsUsed + b.toNatClampNeg ≤ e.platform.maxSlots)
    {Q : Addr → Pre} (hq : ∀ a', Q s.heap.size d a' (s.pushCell (gwI c' b.toNatClampNeg))) : wp (Op.multianewarray.make c' [b]) Q E e d acts s := by
  rw [Op.multianewarray.make]
  simp only [wp_bind', W.ite, hb, if_false, wp_pure', W.theClass]
  refine ⟨k, hk, ?_⟩
  rw [hkd]
  refine W.newArray_of hk hkd h1 h2 h3 h4 rfl fun a' => ?_
  have e1 : ({ cls := c', slots := Array.replicate b.toNatClampNeg (defaultValue .int) } : Cell) = gwI c' b.toNatClampNeg := arrV_new c' b.toNatClampNeg (.int 0)
  rw [e1]
  exact hq a'
/-- the outer row, and all inner ones -/
theorem gr_outer {c c' cc : ClassId} {k k' : Class} {a b : Int32} (hk : s.vm.classes[c]? = some k) (hkd : k.kind = .array c' (.array .int)) (hk' : s.vm.classes[c']? = some k') (hkd' : k'.kind = .array cc .int) (ha : ¬ a < 0) (hb : ¬ b < 0)
    (h1 : ¬ a.toNatClampNeg > e.platform.arrayLengthLimit) (h2 : ¬ a.toNatClampNeg * componentBytes (.array .int) > e.platform.maxHeapBytes) (h3 : ¬ b.toNatClampNeg > e.platform.arrayLengthLimit) (h4 : ¬ b.toNatClampNeg * componentBytes .int > e.platform.maxHeapBytes)
    (h5 : s.heap.size + (1 + a.toNatClampNeg) ≤ e.platform.maxCells) (h6 : s.slotsUsed + (a.toNatClampNeg + a.toNatClampNeg * b.toNatClampNeg) ≤ e.platform.maxSlots)
    {Q : Addr → Pre} (hq : ∀ d' a', Q s.heap.size d' a' (gwS s c c' a.toNatClampNeg b.toNatClampNeg a.toNatClampNeg)) : wp (Op.multianewarray.make c [a, b]) Q E e d acts s := by
  have hf : ([b].find? (· < 0)) = none := by simp [hb]
  rw [Op.multianewarray.make]
  simp only [wp_bind', W.ite, ha, if_false, wp_pure', W.theClass]
  refine ⟨k, hk, ?_⟩
  rw [hkd]
  simp only [wp_bind']
  refine W.newArray_of hk hkd h1 h2 (by omega) (by omega) rfl fun a' => ?_
  have e1 : ({ cls := c, slots := Array.replicate a.toNatClampNeg Value.null } : Cell) = gwO c a.toNatClampNeg s.heap.size 0 := arrV_new c a.toNatClampNeg .null
  rw [e1]
  simp only [hf]
  rw [ite_self, wp_bind', Std.Legacy.Range.forIn_eq_forIn_range', show ([:a.toNatClampNeg] : Std.Legacy.Range).size = a.toNatClampNeg by simp [Std.Legacy.Range.size]]
  show wp (forIn (List.range' 0 a.toNatClampNeg 1) PUnit.unit _) _ E e d a' (gwS s c c' a.toNatClampNeg b.toNatClampNeg 0)
  refine wp_forIn_inv (fun rest u => rest.length ≤ a.toNatClampNeg ∧ rest = List.range' (a.toNatClampNeg - rest.length) rest.length ∧ u = gwS s c c' a.toNatClampNeg b.toNatClampNeg (a.toNatClampNeg - rest.length)) _ _ ⟨by simp, by simp, by simp⟩ ?_ ?_
  · intro x rest u d' a'' Q' hI hn
    obtain ⟨l1, l2, l3⟩ := hI
    have l4 : rest.length + 1 ≤ a.toNatClampNeg := l1
    have l5 : x :: rest = List.range' (a.toNatClampNeg - (rest.length + 1)) (rest.length + 1) := l2
    rw [List.range'_succ] at l5
    have hx : x = a.toNatClampNeg - (rest.length + 1) := (List.cons.inj l5).1
    have hr := (List.cons.inj l5).2
    have l6 : u = gwS s c c' a.toNatClampNeg b.toNatClampNeg x := by rw [hx]; exact l3
    subst l6
    have hlt : x < a.toNatClampNeg := by omega
    have hsx : a.toNatClampNeg - rest.length = x + 1 := by omega
    obtain ⟨z1, z2, z3, z4, z5, z6⟩ := gwS_at s c c' a.toNatClampNeg b.toNatClampNeg x
    have hmul : x * b.toNatClampNeg + b.toNatClampNeg ≤ a.toNatClampNeg * b.toNatClampNeg := by
      have := Nat.mul_le_mul_right b.toNatClampNeg (show x + 1 ≤ a.toNatClampNeg from hlt)
      rw [Nat.succ_mul] at this
      exact this
    simp only [wp_bind']
    refine gr_inner (by rw [z5]; exact hk') hkd' hb h3 h4 (by rw [z1]; omega) (by rw [z6]; omega) fun a3 => ?_
    simp only [wp_bind', W.writeLoc, wp_pure']
    have y1 : s.heap.size < (gwS s c c' a.toNatClampNeg b.toNatClampNeg x).heap.size := by rw [z1]; omega
    refine ⟨gwO c a.toNatClampNeg s.heap.size x, (State.heap_pushCell_of_lt _ _ y1).trans z3, fun q => (by cases q), by rw [gwO_size]; exact hlt, ?_, hn _ _ _ ⟨by omega, by rw [hsx]; rw [hx]; rw [← hx, ← show a.toNatClampNeg - (rest.length + 1) + 1 = x + 1 by omega]; exact hr, ?_⟩⟩
    · show State.fitsSlot _ c .none x _ = true
      simp [State.fitsSlot, State.slotType?, z5, hk, hkd]
      rfl
    · rw [hsx, z1, gwO_next]
      rfl
  · intro u d' a'' hI
    obtain ⟨-, -, l3⟩ := hI
    subst l3
    simp only [wp_pure']
    exact hq _ _
end GR
section GRS
variable {p : Program} {l : Launch} {e : Env} {R : Room} {s : State} {m : MethodId} {args : Array Value} {below : List Frame} {meth : Method} {c0 : Code} {T : State} {locs : List Loc} {cells slots : Nat}
theorem gwS_stand (X : Stand p l e R s m args below meth c0 T locs cells slots) (c c' : ClassId) (n k : Nat) (i : Nat) : Stand p l e R s m args below meth c0 (gwS T c c' n k i) locs (cells + 1 + i) (slots + n + i * k) := by
  induction i with
  | zero =>
    have h := X.pushed (gwO c n T.heap.size 0)
    rw [gwO_size] at h
    rw [Nat.zero_mul]
    exact h
  | succ i ih =>
    obtain ⟨z1, z2, z3, z4, z5, z6⟩ := gwS_at T c c' n k i
    have y1 : T.heap.size < (gwS T c c' n k i).heap.size := by rw [z1]; omega
    have h := ((ih.pushed (gwI c' k)).stored ((State.heap_pushCell_of_lt _ _ y1).trans z3) i (.ref (T.heap.size + 1 + i))).dropFresh (fun x hx => by
      rw [List.mem_singleton.mp hx]
      exact X.heapGrown)
    rw [gwO_next, gwI_size] at h
    rw [show slots + n + (i + 1) * k = slots + n + i * k + k by rw [Nat.succ_mul]; omega]
    exact h
/-- the instruction, for rows of whole numbers -/
theorem gr_step (X : Stand p l e R s m args below meth c0 T locs cells slots) (hx : p.tables.exec = Jvm.exec) {own : String} {index n k : Nat} {a b : Int32} (hown : s.vm.findClass own = some m.cls) (hlink : (Cond.classLink own index ("[" ++ (FieldType.array .int).toString)).before args s = true) (hover : (Cond.arrayOver (.array .int)).before args s = true) (harr : (Cond.arrayClass .int).before args s = true)
    {g : JFrame} (hg : g.method = m) (hd : decode c0.code g.pc = .ok (.multianewarray index 2, 4)) {rest : List Value} (hst : g.stack = .int b :: .int a :: rest) (ha : ¬ a < 0) (hb : ¬ b < 0) (han : a.toNatClampNeg = n) (hbk : b.toNatClampNeg = k) (hn : n ≤ 1000) (hk : k ≤ 100000) (hcells : cells + (1 + n) ≤ R.cells) (hslots : slots + (n + n * k) ≤ R.slots) :
    ∃ (vm₁ : Vm) (cA cI : ClassId), s.vm.findClass ("[" ++ (FieldType.array .int).toString) = some cA ∧ s.vm.findClass (FieldType.array .int).toString = some cI ∧
      Stand p l e R s m args below meth c0 (gwS (T.setVm vm₁) cA cI n k n) locs (cells + 1 + n) (slots + n + n * k) ∧
      ∀ target, Steps p.tables e below ((gwS (T.setVm vm₁) cA cI n k n).setTop { g with pc := g.pc + 4, stack := .ref T.heap.size :: rest }) target → Steps p.tables e below (T.setTop g) target := by
  subst hg han hbk
  obtain ⟨cI, cA, kA, hI, -, hkA, hkdA, hA⟩ := arrayOverA_spec hover
  obtain ⟨cJ, kI, cc, hJ, hkI, hkdI⟩ := Cond.arrayClass_spec harr
  obtain rfl : cJ = cI := Option.some.inj (hJ.symm.trans hI)
  obtain ⟨cB, hB, hcl⟩ := Cond.classLink_spec hown hlink e.platform (by rw [X.admits.platform])
  obtain rfl : cB = cA := Option.some.inj (hB.symm.trans hA)
  obtain ⟨hgv, hwm, -⟩ := State.classEntry (e := e) X.warmed hcl
  generalize T.vm.noted g.method.cls index (.cls cB) = vm₁ at hgv hwm
  obtain ⟨kA₁, hkA₁, eA⟩ := hwm.alike.2.2 _ _ hkA
  obtain ⟨kI₁, hkI₁, eI⟩ := hwm.alike.2.2 _ _ hkI
  have X₁ := X.noted hwm
  have XF := gwS_stand X₁ cB cJ a.toNatClampNeg b.toNatClampNeg a.toNatClampNeg
  obtain ⟨r1, r2⟩ := X.roomAbove hcells hslots
  refine ⟨vm₁, cB, cJ, hA, hI, XF, fun target hrest => ?_⟩
  have L1 : ∀ q : Nat, q ≤ 100000 → ¬ q > e.platform.arrayLengthLimit := fun q hq => by rw [Launch.admits_arrayLengthLimit X.admits]; omega
  have L2 : ∀ q : Nat, q ≤ 100000 → ¬ q * 4 > e.platform.maxHeapBytes := fun q hq => by rw [Launch.admits_maxHeapBytes X.admits]; omega
  jvm_step X.here [hx, hd]
  simp only [Op.multianewarray.sem, wp_bind', W.resolveClassAt_links (State.method?_setTop g X.here.top) hgv]
  rw [W.popN, if_neg (by decide)]
  refine ⟨g, State.topJava?_setTop' (s := T.setVm vm₁) g X.here.top, [.int a, .int b], rest, rfl, hst, ?_⟩
  simp only [List.mapM_cons, List.mapM_nil, wp_bind', wp_pure']
  have e1 : ((T.setTop g).setVm vm₁).setTop { g with stack := rest } = (T.setVm vm₁).setTop { g with stack := rest } := by
    show ((T.setVm vm₁).setTop g).setTop _ = _
    rw [State.setTop_setTop]
  rw [e1]
  refine gr_outer (s := (T.setVm vm₁).setTop { g with stack := rest }) (k := kA₁) (k' := kI₁) (cc := cc) hkA₁ (by rw [eA]; exact hkdA) hkI₁ (by rw [eI]; exact hkdI) ha hb (L1 _ (by omega)) (L2 _ (by omega)) (L1 _ hk) (L2 _ hk) r1 r2 fun d' a' => ?_
  rw [gwS_top]
  simp only [wp_bind', W.mark, W.pushRef, State.topJava?_setTop' _ XF.here.top, Option.some.injEq, exists_eq_left', State.setTop_setTop, State.heap_setTop]
  intro acts
  simp [jvm, XF.here.top]
  exact hrest
end GRS
