/-! the machine at the law's entry: the texts, the tables, the script, the classes; the walk of the law's body -/
section ST
variable {s : State} {args : Array Value}
abbrev oOut (s : State) : Nat → Prop := fun q => s.heap.size ≤ q
theorem oOut_no : ∀ a : Nat, a < s.heap.size → ¬ oOut s a := fun _ h => Nat.not_le.mpr h
theorem st_table {C n : String} {N : Nat} {f : Int → Int} (hl : (Cond.laysStatic C n "[I").before args s = true) (hini : (Cond.initialized C).before args s = true) (har : (Cond.arrayOf (.static C n "[I") .int).before args s = true) (hle : (Cond.eq (.length (.static C n "[I")) (.int (Int32.ofNat N))).before args s = true) (hN : N < 2 ^ 31) (hel : ∀ j : Nat, j < N → (Cond.eq (.elem (.static C n "[I") (.int (Int32.ofNat j))) (.int (i32 (f j)))).before args s = true) : ∃ t : Nat, va_Z C n "[I" (.ref t) (oOut s) s s.heap ∧ va_T .int t N (fun j => .int (i32 (f j))) (oOut s) s s.heap := by
  obtain ⟨t, ht, hT⟩ := va_Tof (f := fun j => .int (i32 (f j))) (A := oOut s) hN har (va_eqt hle) (fun j hj => va_eqt (hel j hj)) oOut_no
  exact ⟨t, va_Zref hl hini ht oOut_no, hT⟩
theorem st_text {own tx : String} {k : Nat} {L : List Int} (h1 : (Cond.stringRef own k tx).before args s = true) (hex : (Cond.exactly (.string own k) "java/lang/String").before args s = true) (hco : (Cond.eq (.field (.string own k) "java/lang/String" "coder" "B") (.int 0)).before args s = true) (har : (Cond.arrayOf (.field (.string own k) "java/lang/String" "value" "[B") .byte).before args s = true) (hle : (Cond.eq (.length (.field (.string own k) "java/lang/String" "value" "[B")) (.int (Int32.ofNat L.length))).before args s = true) (hN : L.length < 2 ^ 31) (hel : ∀ j : Nat, j < L.length → (Cond.eq (.elem (.field (.string own k) "java/lang/String" "value" "[B") (.int (Int32.ofNat j))) (.int (i32 (L.getD j 0)))).before args s = true) : ∃ q : Nat × Nat, vk_R own k tx q.1 s ∧ va_O "java/lang/String" q.1 (oOut s) s s.heap ∧ va_OF "java/lang/String" "coder" "B" (.int 0) q.1 (oOut s) s s.heap ∧ va_OF "java/lang/String" "value" "[B" (.ref q.2) q.1 (oOut s) s s.heap ∧ va_T .byte q.2 L.length (fun j => .int (i32 (L.getD j 0))) (oOut s) s s.heap := by
  obtain ⟨a, c, cA, kA, q1, q2, q3, q4, q5, q6, -⟩ := Cond.exactly_spec (args := args) (first := s) (o := none) (s := s) (idx := []) hex
  obtain ⟨t, ht, hT⟩ := va_Tof (f := fun j => .int (i32 (L.getD j 0))) (A := oOut s) hN har (va_eqt hle) (fun j hj => va_eqt (hel j hj)) oOut_no
  exact ⟨(a, t), vk_R.of h1 q1, ⟨cA, q3, q5, by rw [q6]; exact q2, oOut_no a (Array.getElem?_eq_some_iff.mp q3).1⟩, vk_OFof q1 (va_eqt hco) oOut_no, vk_OFof q1 ht oOut_no, hT⟩
theorem st_texts (hts : ∀ w ∈ lw_tbl, w.before args s = true) (hf : ∀ c ∈ flG, c.before args s = true) : ∃ ad : Nat → Nat × Nat, ∀ i, i < 22 → vk_R (sTx i).1 (sTx i).2.1 (sTx i).2.2.1 (ad i).1 s ∧ va_O "java/lang/String" (ad i).1 (oOut s) s s.heap ∧ va_OF "java/lang/String" "coder" "B" (.int 0) (ad i).1 (oOut s) s s.heap ∧ va_OF "java/lang/String" "value" "[B" (.ref (ad i).2) (ad i).1 (oOut s) s s.heap ∧ va_T .byte (ad i).2 (sTx i).2.2.2.length (fun j => .int (i32 ((sTx i).2.2.2.getD j 0))) (oOut s) s s.heap := by
  have h0 : ∀ i : Nat, ∃ q : Nat × Nat, i < 22 → vk_R (sTx i).1 (sTx i).2.1 (sTx i).2.2.1 q.1 s ∧ va_O "java/lang/String" q.1 (oOut s) s s.heap ∧ va_OF "java/lang/String" "coder" "B" (.int 0) q.1 (oOut s) s s.heap ∧ va_OF "java/lang/String" "value" "[B" (.ref q.2) q.1 (oOut s) s s.heap ∧ va_T .byte q.2 (sTx i).2.2.2.length (fun j => .int (i32 ((sTx i).2.2.2.getD j 0))) (oOut s) s s.heap := by
    intro i
    by_cases hi : i < 22
    · obtain ⟨f1, f2, f3, f4, f5⟩ := tx_flat ⟨i, hi⟩
      have hl := (sTx_R i hi).1
      obtain ⟨q, hq⟩ := st_text (L := (sTx i).2.2.2) (hts _ (tx_ref ⟨i, hi⟩)) (hf _ f1) (hf _ f2) (hf _ f3) (hf _ f4) (by omega) (fun j hj => hf _ (f5 ⟨j, hj⟩))
      exact ⟨q, fun _ => hq⟩
    · exact ⟨(0, 0), fun h => absurd h hi⟩
  exact Classical.axiomOfChoice h0
theorem st_tables (hts : ∀ w ∈ lw_tbl, w.before args s = true) (hf : ∀ c ∈ flG, c.before args s = true) : ∃ ad : Nat → Nat, ∀ i, i < 5 → va_Z (zTb i).1 (zTb i).2 "[I" (.ref (ad i)) (oOut s) s s.heap ∧ va_T .int (ad i) (tbN i) (fun j => .int (i32 (tbF i j))) (oOut s) s s.heap := by
  have h0 : ∀ i : Nat, ∃ q : Nat, i < 5 → va_Z (zTb i).1 (zTb i).2 "[I" (.ref q) (oOut s) s s.heap ∧ va_T .int q (tbN i) (fun j => .int (i32 (tbF i j))) (oOut s) s s.heap := by
    intro i
    by_cases hi : i < 5
    · obtain ⟨f1, f2, f3⟩ := tb_flat ⟨i, hi⟩
      have hl := tb_lay ⟨i, hi⟩
      have hN : tbN i < 2 ^ 31 := by
        unfold tbN
        split <;> decide
      obtain ⟨q, hq⟩ := st_table (f := tbF i) (hts _ hl.1) (hts _ hl.2) (hf _ f1) (hf _ f2) hN (fun j hj => hf _ (f3 ⟨j, hj⟩))
      exact ⟨q, fun _ => hq⟩
    · exact ⟨0, fun h => absurd h hi⟩
  exact Classical.axiomOfChoice h0
theorem st_classes (hts : ∀ w ∈ lw_tbl, w.before args s = true) (c9 : ClassId) : ∃ (dC : Nat → ClassId) (dI : Nat → Nat → Nat), ∀ (k : Nat) (q : vw_C), vwCl[k]? = some q → u_Kn s q.1 q.2.1 q.2.2 (dC k) (dI k) := by
  have h0 : ∀ k : Nat, ∃ z : ClassId × (Nat → Nat), ∀ q : vw_C, vwCl[k]? = some q → u_Kn s q.1 q.2.1 q.2.2 z.1 z.2 := by
    intro k
    match k with
    | 0 =>
      obtain ⟨c0, i0, h⟩ := u_known (C := RX0) (T := TX0) (N := 6) (n := 6) hts (fun w hw => gd_tbl w (inX0 w hw)) (hts _ (gd_tbl _ ins_X0))
      exact ⟨(c0, i0), fun q hq => by cases hq; exact h⟩
    | 1 =>
      obtain ⟨c0, i0, h⟩ := u_known (C := RX1) (T := TX1) (N := 2) (n := 2) hts (fun w hw => gd_tbl w (inX1 w hw)) (hts _ (gd_tbl _ ins_X1))
      exact ⟨(c0, i0), fun q hq => by cases hq; exact h⟩
    | 2 =>
      obtain ⟨c0, i0, h⟩ := u_known (C := RX2) (T := TX2) (N := 8) (n := 8) hts (fun w hw => gd_tbl w (inX2 w hw)) (hts _ (gd_tbl _ ins_X2))
      exact ⟨(c0, i0), fun q hq => by cases hq; exact h⟩
    | 3 =>
      obtain ⟨c0, i0, h⟩ := u_known (C := RX3) (T := TX3) (N := 3) (n := 3) hts (fun w hw => gd_tbl w (inX3 w hw)) (hts _ (gd_tbl _ ins_X3))
      exact ⟨(c0, i0), fun q hq => by cases hq; exact h⟩
    | 4 =>
      obtain ⟨c0, i0, h⟩ := u_known (C := RX4) (T := TX4) (N := 5) (n := 5) hts (fun w hw => gd_tbl w (inX4 w hw)) (hts _ (gd_tbl _ ins_X4))
      exact ⟨(c0, i0), fun q hq => by cases hq; exact h⟩
    | 5 =>
      obtain ⟨c0, i0, h⟩ := u_known (C := RX5) (T := TX5) (N := 6) (n := 6) hts (fun w hw => gd_tbl w (inX5 w hw)) (hts _ (gd_tbl _ ins_X5))
      exact ⟨(c0, i0), fun q hq => by cases hq; exact h⟩
    | 6 =>
      obtain ⟨c0, i0, h⟩ := u_known (C := RX6) (T := TX6) (N := 7) (n := 7) hts (fun w hw => gd_tbl w (inX6 w hw)) (hts _ (gd_tbl _ ins_X6))
      exact ⟨(c0, i0), fun q hq => by cases hq; exact h⟩
    | 7 =>
      obtain ⟨c0, i0, h⟩ := u_known (C := RX7) (T := TX7) (N := 7) (n := 7) hts (fun w hw => gd_tbl w (inX7 w hw)) (hts _ (gd_tbl _ ins_X7))
      exact ⟨(c0, i0), fun q hq => by cases hq; exact h⟩
    | 8 =>
      obtain ⟨c0, i0, h⟩ := u_known (C := RX8) (T := TX8) (N := 14) (n := 14) hts (fun w hw => gd_tbl w (inX8 w hw)) (hts _ (gd_tbl _ ins_X8))
      exact ⟨(c0, i0), fun q hq => by cases hq; exact h⟩
    | 9 =>
      obtain ⟨c0, i0, h⟩ := u_known (C := RX9) (T := TX9) (N := 44) (n := 44) hts (fun w hw => gd_tbl w (inX9 w hw)) (hts _ (gd_tbl _ ins_X9))
      exact ⟨(c0, i0), fun q hq => by cases hq; exact h⟩
    | k + 10 => exact ⟨(c9, fun _ => 0), fun q hq => by simp at hq⟩
  obtain ⟨z, hz⟩ := Classical.axiomOfChoice h0
  exact ⟨fun k => (z k).1, fun k => (z k).2, fun k q hq => hz k q hq⟩
theorem st_prim {ty : FieldType} (hty : ty = .int ∨ ty = .boolean) (h : (Cond.arrayClass ty).before args s = true) : ∃ cA : ClassId, ArrOfT s cA ty ∧ va_RA s cA ty := by
  obtain ⟨c, k, comp, h1, h2, h3⟩ := Cond.arrayClass_spec h
  refine ⟨c, fun n z => ⟨fun k h => (by cases h), k, h2, comp, h3⟩, ?_⟩
  rcases hty with rfl | rfl
  · exact h1
  · exact h1
theorem st_rows (h : (Cond.arrayOver (.array .int)).before args s = true) : ∃ cA : ClassId, ArrOfT s cA (.array .int) ∧ va_RA s cA (.array .int) := by
  obtain ⟨comp, c, k, h1, -, h2, h3, h4⟩ := arrayOverA_spec h
  exact ⟨c, fun n z => ⟨fun k h => (by cases h), k, h2, comp, h3⟩, h4⟩
theorem st_sheets (h : (Cond.arrayOver (.object "WaterThanks$Sheet")).before args s = true) : ∃ cA : ClassId, ArrOfT s cA (.object "WaterThanks$Sheet") ∧ va_RA s cA (.object "WaterThanks$Sheet") := by
  obtain ⟨comp, c, k, h1, h2, h3, h4, h5⟩ := Cond.arrayOver_spec h
  exact ⟨c, fun n z => ⟨fun k h => (by cases h), k, h3, comp, h4⟩, k, comp, h3, h4, h1, h5⟩
theorem nest_tabs : ∀ w ∈ nestW, w.onTables = true := fun w hw => by
  have hn := (List.mem_filter.mp hw).2
  cases w <;> first | (simp [isNest] at hn; done) | rfl
/-- the addresses outside: texts, their bytes, tables, the formatter -/
def sgA (ad : Nat → Nat × Nat) (tA : Nat → Nat) (b z : Nat) : Nat → Nat := fun k => if k < 1100 then (ad (k - 1000)).1 else if k < 2000 then (ad (k - 1100)).2 else if k < 2005 then tA (k - 2000) else if k = 2005 then b else z
def sgT (L : Nat) (xs : Nat → Int32) (nz : Nat) : Nat → Nat × (Int → Int) := fun i => if i < 5 then (tbN i, tbF i) else if i = 5 then (L, fun j => (xs j.toNat).toInt) else (nz, fun _ => 0)
theorem st_ext {b L : Nat} {xs : Nat → Int32} (l : Launch) (D : va_G) (cs : Nat × Nat × Nat × Nat) (hts : ∀ w ∈ lw_tbl, w.before args s = true) (hf : ∀ c ∈ flG, c.before args s = true) (hX : va_X b L xs s s.heap) (hbl : b < s.heap.size) : ∃ (gA' : Nat → Nat) (gT' : Nat → Nat × (Int → Int)), Ext (l, D, cs, gA', s.heap.size, gT') s s.heap ∧ TBs (l, D, cs, gA', s.heap.size, gT') ∧ gT' 5 = (L, fun j => (xs j.toNat).toInt) ∧ gA' 2005 = b := by
  obtain ⟨ad, had⟩ := st_texts hts hf
  obtain ⟨tA, htA⟩ := st_tables hts hf
  obtain ⟨o1, o2, o3, o4, o5, o6⟩ := st_mo
  obtain ⟨z, nz, hz⟩ : ∃ z nz : Nat, va_Z "jdk/internal/util/Preconditions" "SIOOBE_FORMATTER" "Ljava/util/function/BiFunction;" (if nz = 0 then .null else .ref z) (oOut s) s s.heap := by
    rcases va_Zqof (hts _ o5) (hts _ o6) (hf _ st_fl.2) (oOut_no (s := s)) with h | ⟨t, h⟩
    · exact ⟨0, 0, by rw [if_pos rfl]; exact h⟩
    · exact ⟨t, 1, by rw [if_neg (by decide)]; exact h⟩
  refine ⟨sgA ad tA b z, sgT L xs nz, ⟨fun i hi => ?_, fun i hi => ?_, fun i hi => ?_, va_Zof (hts _ o3) (hts _ o4) (va_eqi (hf _ st_fl.1)) oOut_no, hz, fun w hw => va_Nw.of (nest_tabs w hw) (hts w (nest_tbl w hw)), va_AO.of (hts _ o2), hts _ o1⟩, ⟨rfl, rfl, rfl, rfl, rfl⟩, rfl, rfl⟩
  · have e1 : sgA ad tA b z (1000 + i) = (ad i).1 := by
      unfold sgA
      rw [if_pos (by omega), Nat.add_sub_cancel_left]
    have e2 : sgA ad tA b z (1100 + i) = (ad i).2 := by
      unfold sgA
      rw [if_neg (by omega), if_pos (by omega), Nat.add_sub_cancel_left]
    show vk_R _ _ _ (sgA ad tA b z (1000 + i)) s ∧ va_O _ (sgA ad tA b z (1000 + i)) _ s s.heap ∧ va_OF _ _ _ _ (sgA ad tA b z (1000 + i)) _ s s.heap ∧ va_OF _ _ _ (.ref (sgA ad tA b z (1100 + i))) (sgA ad tA b z (1000 + i)) _ s s.heap ∧ va_T _ (sgA ad tA b z (1100 + i)) _ _ _ s s.heap
    rw [e1, e2]
    exact had i hi
  · by_cases h5 : i < 5
    · have e1 : sgA ad tA b z (2000 + i) = tA i := by
        unfold sgA
        rw [if_neg (by omega), if_neg (by omega), if_pos (by omega), Nat.add_sub_cancel_left]
      have e2 : sgT L xs nz i = (tbN i, tbF i) := by
        unfold sgT
        rw [if_pos h5]
      show va_T .int (sgA ad tA b z (2000 + i)) (sgT L xs nz i).1 (fun j => .int (i32 ((sgT L xs nz i).2 j))) _ s s.heap
      rw [e1, e2]
      exact (htA i h5).2
    · have e5 : i = 5 := by omega
      subst e5
      show va_T .int b L (fun j => .int (i32 ((xs (Int.toNat (j : Int))).toInt))) (oOut s) s s.heap
      obtain ⟨scr, h1, h2, h3, h4, h5⟩ := hX
      refine ⟨scr, h1, h2, h3, by omega, by rw [h4], fun j hj => ?_, oOut_no b hbl⟩
      show scr.slots[j]? = some (.int (i32 ((xs (Int.toNat (j : Int))).toInt)))
      rw [Int.toNat_natCast, i32_of]
      exact h5 j hj
  · have e1 : sgA ad tA b z (2000 + i) = tA i := by
      unfold sgA
      rw [if_neg (by omega), if_neg (by omega), if_pos (by omega), Nat.add_sub_cancel_left]
    show va_Z _ _ _ (.ref (sgA ad tA b z (2000 + i))) _ s s.heap
    rw [e1]
    exact (htA i hi).1
end ST
/-- what stands with less room stands with more -/
theorem W_room {p : Program} {l : Launch} {e : Env} {R R' : Room} {s : State} {m : MethodId} {args : Array Value} {below : List Frame} {meth : Method} {c : Code} {H : Heap} {locs : List Loc} {cells slots : Nat} {Q : State → Prop} {g : JFrame} (h1 : R'.frames ≤ R.frames) (h2 : R'.cells ≤ R.cells) (h3 : R'.slots ≤ R.slots) (h4 : R'.locals ≤ R.locals) (k : W p l e R' s m args below meth c H locs cells slots Q g) : W p l e R s m args below meth c H locs cells slots Q g := fun T hT X => by
  have hr : s.hasRoom e.platform R' = true := by
    have h := X.room
    simp only [State.hasRoom, Bool.and_eq_true, decide_eq_true_eq] at h ⊢
    obtain ⟨⟨⟨⟨a1, a2, a3, a4, a5, a6⟩, a7⟩, a8⟩, a9⟩ := h
    exact ⟨⟨⟨⟨by omega, by omega, by omega, by omega, by omega, a6⟩, by omega⟩, by omega⟩, a9⟩
  exact k T hT ⟨X.admits, X.cas, X.clock, X.frames, hr, X.hears, X.method, X.code, X.here, X.tail, X.warmed, X.limits, X.bytes, X.same⟩
