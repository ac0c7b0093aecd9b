/-! THE LOGIC, g: a memory told otherwise; rows with named results -/
section MJX
variable {G : GE} {own : String} {ini : Bool} {cc : ByteArray} {maxL d nC nS : Nat} {J : Jd} {pc : Nat} {ls st : List Vl} {M : Mem}
theorem at_agree {G : GE} {α : Nat → Nat} {M M' : Mem} {k : Nat} {s : Nat × Nat} {H : Heap} (h : ∀ j : Nat, j < s.2 → M'.1 k j = M.1 k j ∧ M'.2.1 k j = M.2.1 k j) (ha : va_at (gD G) vwCl (α k, cE G α M k s) H) : va_at (gD G) vwCl (α k, cE G α M' k s) H := by
  unfold cE at ha ⊢
  by_cases h1 : s.1 < 16
  · rw [if_pos h1] at ha ⊢
    have e : (List.range s.2).map (cF α M' k s.1) = (List.range s.2).map (cF α M k s.1) := List.map_congr_left fun j hj => by
      have := h j (List.mem_range.mp hj)
      unfold cF
      rw [this.1, this.2]
    rw [e]
    exact ha
  · rw [if_neg h1] at ha ⊢
    by_cases h2 : s.1 = 16
    · rw [if_pos h2] at ha ⊢
      refine (show H[α k]? = some (vp_cell _ _) from ha).trans ?_
      rw [vp_cell_i, vp_cell_i]
      exact congrArg some (arrV_congr fun j hj => by rw [(h j hj).1])
    · rw [if_neg h2] at ha ⊢
      by_cases h3 : s.1 = 17
      · rw [if_pos h3] at ha ⊢
        refine (show H[α k]? = some (vp_cell _ _) from ha).trans ?_
        rw [vp_cell_i, vp_cell_i]
        exact congrArg some (arrV_congr fun j hj => by rw [(h j hj).1])
      · rw [if_neg h3] at ha ⊢
        by_cases h4 : s.1 = 18
        · rw [if_pos h4] at ha ⊢
          refine (show H[α k]? = some (vp_cell _ _) from ha).trans ?_
          rw [vp_cell_q, vp_cell_q]
          exact congrArg some (arrV_congr fun j hj => by rw [(h j hj).2])
        · rw [if_neg h4] at ha ⊢
          refine (show H[α k]? = some (vp_cell _ _) from ha).trans ?_
          rw [vp_cell_q, vp_cell_q]
          exact congrArg some (arrV_congr fun j hj => by rw [(h j hj).2])
theorem mj_ext (hJ : OkJ G own ini cc maxL d nC nS J) {M' : Mem} (hS : M'.2.2 = M.2.2) (h : ∀ (k : Nat) (s : Nat × Nat), M.2.2[k]? = some s → ∀ j : Nat, j < s.2 → M'.1 k j = M.1 k j ∧ M'.2.1 k j = M.2.1 k j) (hm : okM M → okM M') (kk : J pc ls st M') : J pc ls st M := by
  obtain ⟨p, e, s, m, args, below, meth, c0, R, α0, N0, n0, Qf, -, -, -, rfl⟩ := hJ
  intro α H locs la hw
  obtain ⟨a1, ⟨hP, hD, hSS⟩, a3, a4, a5, a6, b⟩ := hw
  have hP' : va_P (gD G) vwCl (wd G α M') H := fun k q hq => by
    obtain ⟨t, ht, rfl⟩ := wd_get hq
    rw [hS] at ht
    exact at_agree (h k t ht) (hP k _ (wd_at ht))
  have hD' : va_D (gB G) (wd G α M') := by
    refine ⟨fun i j x y hx hy hxy => ?_, fun k q hq => ?_⟩
    · obtain ⟨t, ht, rfl⟩ := wd_get hx
      obtain ⟨t2, ht2, rfl⟩ := wd_get hy
      rw [hS] at ht ht2
      exact hD.1 i j _ _ (wd_at ht) (wd_at ht2) hxy
    · obtain ⟨t, ht, rfl⟩ := wd_get hq
      rw [hS] at ht
      exact hD.2 k (α k, cE G α M k t) (wd_at ht)
  have key := kk α H locs la ⟨a1, ⟨hP', hD', hSS⟩, hm a3, by rw [hS]; exact a4, by rw [hS]; exact a5, a6, by rw [hS]; exact b⟩
  rw [hS] at key
  exact key
/-- a place less told -/
def Dr : List Vl → List Vl → Prop
  | [], [] => True
  | x :: r, y :: s => (y = x ∨ y = vu) ∧ Dr r s
  | _, _ => False
theorem Dr_get : ∀ {ls ls' : List Vl} {i : Nat} {v : Vl}, Dr ls ls' → ls'[i]? = some v → v ≠ vu → ls[i]? = some v
  | [], [], i, v, _, h, _ => by simp at h
  | x :: r, y :: s, 0, v, hd, h, hv => by
    simp at h
    subst h
    rcases hd.1 with e | e
    · rw [e]; rfl
    · exact absurd e hv
  | x :: r, y :: s, i + 1, v, hd, h, hv => by
    rw [List.getElem?_cons_succ] at h ⊢
    exact Dr_get hd.2 h hv
  | [], y :: s, _, _, hd, _, _ => hd.elim
  | x :: r, [], _, _, hd, _, _ => hd.elim
theorem mj_drop (hJ : OkJ G own ini cc maxL d nC nS J) {ls' : List Vl} (h : Dr ls ls') (kk : J pc ls' st M) : J pc ls st M := by
  obtain ⟨p, e, s, m, args, below, meth, c0, R, α0, N0, n0, Qf, -, -, -, rfl⟩ := hJ
  intro α H locs la hw
  refine kk α H locs la (Wi_ls hw (fun v hv => ?_) hw.2.2.2.2.1 ⟨hw.2.2.2.2.2.1.1, hw.2.2.2.2.2.1.2.1, fun q hq => ?_⟩)
  · obtain ⟨i, hi⟩ := List.getElem?_of_mem hv
    by_cases e : v = vu
    · rw [e]; exact trivial
    · exact hw.2.2.2.1 v (List.mem_of_getElem? (Dr_get h hi e))
  · obtain ⟨i, v, e1, e2, e3⟩ := (lvs_mem _ 0 _).mp hq
    exact hw.2.2.2.2.2.1.2.2 q ((lvs_mem _ 0 _).mpr ⟨i, v, Dr_get h e1 e2, e2, e3⟩)
theorem ms_istore (hJ : OkJ G own ini cc maxL d nC nS J) {i : Nat} {z : Int} {ls' : List Vl} (hd : decode cc pc = .ok (.istore i, 2)) (hi : i < maxL) (hn : noL ls i = true) (hl : ls.set i (vi z) = ls') (k : J (pc + 2) ls' st M) : J pc ls (vi z :: st) M := mj_istore hJ hd hi hn (hl ▸ k)
theorem ms_istore_n (hJ : OkJ G own ini cc maxL d nC nS J) {n : Fin 4} {z : Int} {ls' : List Vl} (hd : decode cc pc = .ok (.istore_n n, 1)) (hi : n.val < maxL) (hn : noL ls n.val = true) (hl : ls.set n.val (vi z) = ls') (k : J (pc + 1) ls' st M) : J pc ls (vi z :: st) M := mj_istore_n hJ hd hi hn (hl ▸ k)
theorem ms_astore (hJ : OkJ G own ini cc maxL d nC nS J) {i : Nat} {z : Nat} {ls' : List Vl} (hd : decode cc pc = .ok (.astore i, 2)) (hi : i < maxL) (hn : noL ls i = true) (hl : ls.set i (vr z) = ls') (k : J (pc + 2) ls' st M) : J pc ls (vr z :: st) M := mj_astore hJ hd hi hn (hl ▸ k)
theorem ms_astore_n (hJ : OkJ G own ini cc maxL d nC nS J) {n : Fin 4} {z : Nat} {ls' : List Vl} (hd : decode cc pc = .ok (.astore_n n, 1)) (hi : n.val < maxL) (hn : noL ls n.val = true) (hl : ls.set n.val (vr z) = ls') (k : J (pc + 1) ls' st M) : J pc ls (vr z :: st) M := mj_astore_n hJ hd hi hn (hl ▸ k)
theorem ms_iinc (hJ : OkJ G own ini cc maxL d nC nS J) {i : Nat} {n z z' : Int} {ls' : List Vl} (hd : decode cc pc = .ok (.iinc i n, 3)) (hl : ls[i]? = some (vi z)) (hi : i < maxL) (hn : noL ls i = true) (hz : wr (z + n) = z') (hs : ls.set i (vi z') = ls') (k : J (pc + 3) ls' st M) : J pc ls st M := mj_iinc hJ hd hl hi hn (by rw [hz, hs]; exact k)
theorem ms_iadd (hJ : OkJ G own ini cc maxL d nC nS J) (hd : decode cc pc = .ok (.iadd, 1)) {x y : Int} (h : -2147483648 ≤ x + y ∧ x + y ≤ 2147483647) (k : J (pc + 1) ls (vi (x + y) :: st) M) : J pc ls (vi y :: vi x :: st) M := mj_iadd hJ hd (by rw [wr_id h]; exact k)
theorem ms_isub (hJ : OkJ G own ini cc maxL d nC nS J) (hd : decode cc pc = .ok (.isub, 1)) {x y : Int} (h : -2147483648 ≤ x - y ∧ x - y ≤ 2147483647) (k : J (pc + 1) ls (vi (x - y) :: st) M) : J pc ls (vi y :: vi x :: st) M := mj_isub hJ hd (by rw [wr_id h]; exact k)
theorem ms_imul (hJ : OkJ G own ini cc maxL d nC nS J) (hd : decode cc pc = .ok (.imul, 1)) {x y : Int} (h : -2147483648 ≤ x * y ∧ x * y ≤ 2147483647) (k : J (pc + 1) ls (vi (x * y) :: st) M) : J pc ls (vi y :: vi x :: st) M := mj_imul hJ hd (by rw [wr_id h]; exact k)
theorem ms_idiv (hJ : OkJ G own ini cc maxL d nC nS J) (hd : decode cc pc = .ok (.idiv, 1)) {x y : Int} (hy : y ≠ 0) (h : -2147483648 ≤ x.tdiv y ∧ x.tdiv y ≤ 2147483647) (k : J (pc + 1) ls (vi (x.tdiv y) :: st) M) : J pc ls (vi y :: vi x :: st) M := mj_idiv hJ hd hy (by rw [wr_id h]; exact k)
theorem ms_ineg (hJ : OkJ G own ini cc maxL d nC nS J) (hd : decode cc pc = .ok (.ineg, 1)) {x : Int} (h : -2147483648 ≤ -x ∧ -x ≤ 2147483647) (k : J (pc + 1) ls (vi (-x) :: st) M) : J pc ls (vi x :: st) M := mj_ineg hJ hd (by rw [wr_id h]; exact k)
/-- every whole number on the stack, in a place, in the memory is in range -/
theorem mj_rng (hJ : OkJ G own ini cc maxL d nC nS J) (kk : (∀ v ∈ st, okV M.2.2.length v) → (∀ v ∈ ls, okV M.2.2.length v) → okM M → J pc ls st M) : J pc ls st M := by
  obtain ⟨p, e, s, m, args, below, meth, c0, R, α0, N0, n0, Qf, -, -, -, rfl⟩ := hJ
  intro α H locs la hw
  exact kk hw.2.2.2.2.1 hw.2.2.2.1 hw.2.2.1 α H locs la hw
end MJX
