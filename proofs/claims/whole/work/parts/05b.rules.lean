/-! THE LOGIC, b: rows of the stack, the locals, the branches -/
theorem Wi_st {G : GE} {s : State} {α0 : Nat → Nat} {N0 n0 maxL nC nS : Nat} {α : Nat → Nat} {H : Heap} {locs : List Loc} {la : Array Slot} {ls st st' : List Vl} {M : Mem} (h : Wi G s α0 N0 n0 maxL nC nS α H locs la ls st M) (hs : ∀ v ∈ st', okV M.2.2.length v) : Wi G s α0 N0 n0 maxL nC nS α H locs la ls st' M :=
  ⟨h.1, h.2.1, h.2.2.1, h.2.2.2.1, hs, h.2.2.2.2.2⟩
theorem Wi_ls {G : GE} {s : State} {α0 : Nat → Nat} {N0 n0 maxL nC nS : Nat} {α : Nat → Nat} {H : Heap} {locs : List Loc} {la la' : Array Slot} {ls ls' st st' : List Vl} {M : Mem} (h : Wi G s α0 N0 n0 maxL nC nS α H locs la ls st M) (h1 : ∀ v ∈ ls', okV M.2.2.length v) (hs : ∀ v ∈ st', okV M.2.2.length v) (h2 : lv_has la' maxL (lvs α 0 ls')) : Wi G s α0 N0 n0 maxL nC nS α H locs la' ls' st' M :=
  ⟨h.1, h.2.1, h.2.2.1, h1, hs, h2, h.2.2.2.2.2.2⟩
theorem ok_cons {N : Nat} {v : Vl} {st : List Vl} (h1 : okV N v) (h2 : ∀ w ∈ st, okV N w) : ∀ w ∈ v :: st, okV N w := List.forall_mem_cons.mpr ⟨h1, h2⟩
theorem ok_t {N : Nat} {v : Vl} {st : List Vl} (h : ∀ w ∈ v :: st, okV N w) : ∀ w ∈ st, okV N w := (List.forall_mem_cons.mp h).2
theorem ok_h {N : Nat} {v : Vl} {st : List Vl} (h : ∀ w ∈ v :: st, okV N w) : okV N v := (List.forall_mem_cons.mp h).1
theorem ok_get {N i : Nat} {v : Vl} {ls : List Vl} (h : ∀ w ∈ ls, okV N w) (hi : ls[i]? = some v) : okV N v := h v (List.mem_of_getElem? hi)
theorem ok_set {N i : Nat} {v : Vl} {ls : List Vl} (h : ∀ w ∈ ls, okV N w) (hv : okV N v) : ∀ w ∈ ls.set i v, okV N w := by
  intro w hw
  rcases List.mem_or_eq_of_mem_set hw with q | q
  · exact h w q
  · rw [q]; exact hv
section MJB
variable {G : GE} {own : String} {ini : Bool} {cc : ByteArray} {maxL d nC nS : Nat} {J : Jd} {pc : Nat} {ls st : List Vl} {M : Mem}
theorem ok_rem {x y : Int} (hx : inR x) (hy : inR y) : inR (x.tmod y) := by
  rw [← i32_t hx, ← i32_t hy, ← Int32.toInt_mod]
  exact i32_R _
theorem mj_iconst (hJ : OkJ G own ini cc maxL d nC nS J) {n : Int} (hd : decode cc pc = .ok (.iconst n, 1)) (hn : -128 ≤ n ∧ n ≤ 127) (k : J (pc + 1) ls (vi n :: st) M) : J pc ls st M := by
  obtain ⟨p, e, s, m, args, below, meth, c, R, α0, N0, n0, Qf, ⟨hx, hb, hml, hown, hin⟩, ⟨hts, hbs, hK, hE⟩, hR, rfl⟩ := hJ
  intro α H locs la hw
  have hs := hw.2.2.2.2.1
  have hk := k α H locs la (Wi_st hw (ok_cons ⟨by omega, by omega⟩ hs))
  exact lv_iconst hx hb hd rfl hk
theorem mj_bipush (hJ : OkJ G own ini cc maxL d nC nS J) {n : Int} (hd : decode cc pc = .ok (.bipush n, 2)) (hn : -128 ≤ n ∧ n ≤ 127) (k : J (pc + 2) ls (vi n :: st) M) : J pc ls st M := by
  obtain ⟨p, e, s, m, args, below, meth, c, R, α0, N0, n0, Qf, ⟨hx, hb, hml, hown, hin⟩, ⟨hts, hbs, hK, hE⟩, hR, rfl⟩ := hJ
  intro α H locs la hw
  have hs := hw.2.2.2.2.1
  have hk := k α H locs la (Wi_st hw (ok_cons ⟨by omega, by omega⟩ hs))
  refine lv_bipush (v := i32 n) hx hb hd ?_ hk
  apply Int32.toInt_inj.mp
  rw [i32_t ⟨by omega, by omega⟩]
  exact (Int8.toInt_toInt32 _).trans (Int8.toInt_ofInt_of_le (by omega) (by omega))
theorem mj_sipush (hJ : OkJ G own ini cc maxL d nC nS J) {n : Int} (hd : decode cc pc = .ok (.sipush n, 3)) (hn : -32768 ≤ n ∧ n ≤ 32767) (k : J (pc + 3) ls (vi n :: st) M) : J pc ls st M := by
  obtain ⟨p, e, s, m, args, below, meth, c, R, α0, N0, n0, Qf, ⟨hx, hb, hml, hown, hin⟩, ⟨hts, hbs, hK, hE⟩, hR, rfl⟩ := hJ
  intro α H locs la hw
  have hs := hw.2.2.2.2.1
  have hk := k α H locs la (Wi_st hw (ok_cons ⟨by omega, by omega⟩ hs))
  refine lv_sipush (v := i32 n) hx hb hd ?_ hk
  apply Int32.toInt_inj.mp
  rw [i32_t ⟨by omega, by omega⟩]
  exact (Int16.toInt_toInt32 _).trans (Int16.toInt_ofInt_of_le (by omega) (by omega))
theorem mj_ldc (hJ : OkJ G own ini cc maxL d nC nS J) {idx : Nat} {z : Int} (hd : decode cc pc = .ok (.ldc idx, 2)) (hz : -2147483648 ≤ z ∧ z ≤ 2147483647) (hc : Cond.constant own idx (i32 z) ∈ lw_gd) (k : J (pc + 2) ls (vi z :: st) M) : J pc ls st M := by
  obtain ⟨p, e, s, m, args, below, meth, c, R, α0, N0, n0, Qf, ⟨hx, hb, hml, hown, hin⟩, ⟨hts, hbs, hK, hE⟩, hR, rfl⟩ := hJ
  intro α H locs la hw
  have hs := hw.2.2.2.2.1
  have hk := k α H locs la (Wi_st hw (ok_cons hz hs))
  exact lv_ldc hx hb hown (hts _ hc) hd hk
theorem mj_ldcw (hJ : OkJ G own ini cc maxL d nC nS J) {idx : Nat} {z : Int} (hd : decode cc pc = .ok (.ldc_w idx, 3)) (hz : -2147483648 ≤ z ∧ z ≤ 2147483647) (hc : Cond.constant own idx (i32 z) ∈ lw_gd) (k : J (pc + 3) ls (vi z :: st) M) : J pc ls st M := by
  obtain ⟨p, e, s, m, args, below, meth, c, R, α0, N0, n0, Qf, ⟨hx, hb, hml, hown, hin⟩, ⟨hts, hbs, hK, hE⟩, hR, rfl⟩ := hJ
  intro α H locs la hw
  have hs := hw.2.2.2.2.1
  have hk := k α H locs la (Wi_st hw (ok_cons hz hs))
  exact lv_ldcw hx hb hown (hts _ hc) hd hk
theorem mj_ldc2 (hJ : OkJ G own ini cc maxL d nC nS J) {idx : Nat} {z : Int64} (hd : decode cc pc = .ok (.ldc2_w idx, 3)) (hc : Cond.constantLong own idx z ∈ lw_gd) (k : J (pc + 3) ls (vj z :: st) M) : J pc ls st M := by
  obtain ⟨p, e, s, m, args, below, meth, c, R, α0, N0, n0, Qf, ⟨hx, hb, hml, hown, hin⟩, ⟨hts, hbs, hK, hE⟩, hR, rfl⟩ := hJ
  intro α H locs la hw
  have hs := hw.2.2.2.2.1
  have hk := k α H locs la (Wi_st hw (ok_cons trivial hs))
  exact lv_ldc2 hx hb hown (hts _ hc) hd hk
theorem mj_iload (hJ : OkJ G own ini cc maxL d nC nS J) {i : Nat} {z : Int} (hd : decode cc pc = .ok (.iload i, 2)) (hl : ls[i]? = some (vi z)) (k : J (pc + 2) ls (vi z :: st) M) : J pc ls st M := by
  obtain ⟨p, e, s, m, args, below, meth, c, R, α0, N0, n0, Qf, ⟨hx, hb, hml, hown, hin⟩, ⟨hts, hbs, hK, hE⟩, hR, rfl⟩ := hJ
  intro α H locs la hw
  have hs := hw.2.2.2.2.1
  have hk := k α H locs la (Wi_st hw (ok_cons (ok_get hw.2.2.2.1 hl) hs))
  exact lv_iload hx hb hd (lvs_get hw.2.2.2.2.2.1 hl (by simp)) hk
theorem mj_iload_n (hJ : OkJ G own ini cc maxL d nC nS J) {n : Fin 4} {z : Int} (hd : decode cc pc = .ok (.iload_n n, 1)) (hl : ls[n.val]? = some (vi z)) (k : J (pc + 1) ls (vi z :: st) M) : J pc ls st M := by
  obtain ⟨p, e, s, m, args, below, meth, c, R, α0, N0, n0, Qf, ⟨hx, hb, hml, hown, hin⟩, ⟨hts, hbs, hK, hE⟩, hR, rfl⟩ := hJ
  intro α H locs la hw
  have hs := hw.2.2.2.2.1
  have hk := k α H locs la (Wi_st hw (ok_cons (ok_get hw.2.2.2.1 hl) hs))
  exact lv_iload_n hx hb hd rfl (lvs_get hw.2.2.2.2.2.1 hl (by simp)) hk
theorem mj_aload (hJ : OkJ G own ini cc maxL d nC nS J) {i r : Nat} (hd : decode cc pc = .ok (.aload i, 2)) (hl : ls[i]? = some (vr r)) (k : J (pc + 2) ls (vr r :: st) M) : J pc ls st M := by
  obtain ⟨p, e, s, m, args, below, meth, c, R, α0, N0, n0, Qf, ⟨hx, hb, hml, hown, hin⟩, ⟨hts, hbs, hK, hE⟩, hR, rfl⟩ := hJ
  intro α H locs la hw
  have hs := hw.2.2.2.2.1
  have hk := k α H locs la (Wi_st hw (ok_cons (ok_get hw.2.2.2.1 hl) hs))
  exact lv_aload hx hb hd (lvs_get hw.2.2.2.2.2.1 hl (by simp)) hk
theorem mj_aload_n (hJ : OkJ G own ini cc maxL d nC nS J) {n : Fin 4} {r : Nat} (hd : decode cc pc = .ok (.aload_n n, 1)) (hl : ls[n.val]? = some (vr r)) (k : J (pc + 1) ls (vr r :: st) M) : J pc ls st M := by
  obtain ⟨p, e, s, m, args, below, meth, c, R, α0, N0, n0, Qf, ⟨hx, hb, hml, hown, hin⟩, ⟨hts, hbs, hK, hE⟩, hR, rfl⟩ := hJ
  intro α H locs la hw
  have hs := hw.2.2.2.2.1
  have hk := k α H locs la (Wi_st hw (ok_cons (ok_get hw.2.2.2.1 hl) hs))
  exact lv_aload_n hx hb hd rfl (lvs_get hw.2.2.2.2.2.1 hl (by simp)) hk
theorem mj_lload_n (hJ : OkJ G own ini cc maxL d nC nS J) {n : Fin 4} {z : Int64} (hd : decode cc pc = .ok (.lload_n n, 1)) (hl : ls[n.val]? = some (vj z)) (k : J (pc + 1) ls (vj z :: st) M) : J pc ls st M := by
  obtain ⟨p, e, s, m, args, below, meth, c, R, α0, N0, n0, Qf, ⟨hx, hb, hml, hown, hin⟩, ⟨hts, hbs, hK, hE⟩, hR, rfl⟩ := hJ
  intro α H locs la hw
  have hs := hw.2.2.2.2.1
  have hk := k α H locs la (Wi_st hw (ok_cons (ok_get hw.2.2.2.1 hl) hs))
  exact lv_lload_n hx hb hd rfl (lvs_get hw.2.2.2.2.2.1 hl (by simp)) hk
theorem mj_istore (hJ : OkJ G own ini cc maxL d nC nS J) {i : Nat} {z : Int} (hd : decode cc pc = .ok (.istore i, 2)) (hi : i < maxL) (hn : noL ls i = true) (k : J (pc + 2) (ls.set i (vi z)) st M) : J pc ls (vi z :: st) M := by
  obtain ⟨p, e, s, m, args, below, meth, c, R, α0, N0, n0, Qf, ⟨hx, hb, hml, hown, hin⟩, ⟨hts, hbs, hK, hE⟩, hR, rfl⟩ := hJ
  intro α H locs la hw
  have hs := hw.2.2.2.2.1
  refine lv_istore hx hb hd hw.2.2.2.2.2.1 hi rfl (fun la' hl => ?_)
  exact k α H locs la' (Wi_ls hw (ok_set hw.2.2.2.1 (ok_h hs)) (ok_t hs) (lvs_has hn hl))
theorem mj_astore (hJ : OkJ G own ini cc maxL d nC nS J) {i : Nat} {z : Nat} (hd : decode cc pc = .ok (.astore i, 2)) (hi : i < maxL) (hn : noL ls i = true) (k : J (pc + 2) (ls.set i (vr z)) st M) : J pc ls (vr z :: st) M := by
  obtain ⟨p, e, s, m, args, below, meth, c, R, α0, N0, n0, Qf, ⟨hx, hb, hml, hown, hin⟩, ⟨hts, hbs, hK, hE⟩, hR, rfl⟩ := hJ
  intro α H locs la hw
  have hs := hw.2.2.2.2.1
  refine lv_astore hx hb hd hw.2.2.2.2.2.1 hi rfl (fun la' hl => ?_)
  exact k α H locs la' (Wi_ls hw (ok_set hw.2.2.2.1 (ok_h hs)) (ok_t hs) (lvs_has hn hl))
theorem mj_istore_n (hJ : OkJ G own ini cc maxL d nC nS J) {n : Fin 4} {z : Int} (hd : decode cc pc = .ok (.istore_n n, 1)) (hi : n.val < maxL) (hn : noL ls n.val = true) (k : J (pc + 1) (ls.set n.val (vi z)) st M) : J pc ls (vi z :: st) M := by
  obtain ⟨p, e, s, m, args, below, meth, c, R, α0, N0, n0, Qf, ⟨hx, hb, hml, hown, hin⟩, ⟨hts, hbs, hK, hE⟩, hR, rfl⟩ := hJ
  intro α H locs la hw
  have hs := hw.2.2.2.2.1
  refine lv_istore_n hx hb hd rfl hw.2.2.2.2.2.1 hi rfl (fun la' hl => ?_)
  exact k α H locs la' (Wi_ls hw (ok_set hw.2.2.2.1 (ok_h hs)) (ok_t hs) (lvs_has hn hl))
theorem mj_astore_n (hJ : OkJ G own ini cc maxL d nC nS J) {n : Fin 4} {z : Nat} (hd : decode cc pc = .ok (.astore_n n, 1)) (hi : n.val < maxL) (hn : noL ls n.val = true) (k : J (pc + 1) (ls.set n.val (vr z)) st M) : J pc ls (vr z :: st) M := by
  obtain ⟨p, e, s, m, args, below, meth, c, R, α0, N0, n0, Qf, ⟨hx, hb, hml, hown, hin⟩, ⟨hts, hbs, hK, hE⟩, hR, rfl⟩ := hJ
  intro α H locs la hw
  have hs := hw.2.2.2.2.1
  refine lv_astore_n hx hb hd rfl hw.2.2.2.2.2.1 hi rfl (fun la' hl => ?_)
  exact k α H locs la' (Wi_ls hw (ok_set hw.2.2.2.1 (ok_h hs)) (ok_t hs) (lvs_has hn hl))
theorem mj_iinc (hJ : OkJ G own ini cc maxL d nC nS J) {i : Nat} {n z : Int} (hd : decode cc pc = .ok (.iinc i n, 3)) (hl : ls[i]? = some (vi z)) (hi : i < maxL) (hn : noL ls i = true) (k : J (pc + 3) (ls.set i (vi (wr (z + n)))) st M) : J pc ls st M := by
  obtain ⟨p, e, s, m, args, below, meth, c, R, α0, N0, n0, Qf, ⟨hx, hb, hml, hown, hin⟩, ⟨hts, hbs, hK, hE⟩, hR, rfl⟩ := hJ
  intro α H locs la hw
  have hs := hw.2.2.2.2.1
  obtain ⟨q, hq⟩ := List.mem_iff_getElem?.mp ((lvs_mem (α := α) ls 0 _).mpr ⟨i, vi z, hl, by simp, rfl⟩)
  rw [Nat.zero_add] at hq
  refine lv_iinc (v := i32 (wr (z + n))) hx hb hd hw.2.2.2.2.2.1 hq (by rw [i32_wr]; exact (Int32.ofInt_add z n).symm) hi rfl (fun la' hl' => ?_)
  exact k α H locs la' (Wi_ls hw (ok_set hw.2.2.2.1 (wr_in _)) hs (lvs_has hn hl'))
theorem mj_iadd (hJ : OkJ G own ini cc maxL d nC nS J) (hd : decode cc pc = .ok (.iadd, 1)) {x y : Int} (k : J (pc + 1) ls (vi (wr (x + y)) :: st) M) : J pc ls (vi y :: vi x :: st) M := by
  obtain ⟨p, e, s, m, args, below, meth, c, R, α0, N0, n0, Qf, ⟨hx, hb, hml, hown, hin⟩, ⟨hts, hbs, hK, hE⟩, hR, rfl⟩ := hJ
  intro α H locs la hw
  have hs := hw.2.2.2.2.1
  have hyR : inR y := ok_h hs
  have hxR : inR x := ok_h (ok_t hs)
  have hk := k α H locs la (Wi_st hw (ok_cons (wr_in _) (ok_t (ok_t hs))))
  refine lv_iadd hx hb hd ?_
  rw [i32_add]
  exact hk
theorem mj_isub (hJ : OkJ G own ini cc maxL d nC nS J) (hd : decode cc pc = .ok (.isub, 1)) {x y : Int} (k : J (pc + 1) ls (vi (wr (x - y)) :: st) M) : J pc ls (vi y :: vi x :: st) M := by
  obtain ⟨p, e, s, m, args, below, meth, c, R, α0, N0, n0, Qf, ⟨hx, hb, hml, hown, hin⟩, ⟨hts, hbs, hK, hE⟩, hR, rfl⟩ := hJ
  intro α H locs la hw
  have hs := hw.2.2.2.2.1
  have hyR : inR y := ok_h hs
  have hxR : inR x := ok_h (ok_t hs)
  have hk := k α H locs la (Wi_st hw (ok_cons (wr_in _) (ok_t (ok_t hs))))
  refine lv_isub hx hb hd ?_
  rw [i32_sub]
  exact hk
theorem mj_imul (hJ : OkJ G own ini cc maxL d nC nS J) (hd : decode cc pc = .ok (.imul, 1)) {x y : Int} (k : J (pc + 1) ls (vi (wr (x * y)) :: st) M) : J pc ls (vi y :: vi x :: st) M := by
  obtain ⟨p, e, s, m, args, below, meth, c, R, α0, N0, n0, Qf, ⟨hx, hb, hml, hown, hin⟩, ⟨hts, hbs, hK, hE⟩, hR, rfl⟩ := hJ
  intro α H locs la hw
  have hs := hw.2.2.2.2.1
  have hyR : inR y := ok_h hs
  have hxR : inR x := ok_h (ok_t hs)
  have hk := k α H locs la (Wi_st hw (ok_cons (wr_in _) (ok_t (ok_t hs))))
  refine lv_imul hx hb hd ?_
  rw [i32_mul]
  exact hk
theorem mj_idiv (hJ : OkJ G own ini cc maxL d nC nS J) (hd : decode cc pc = .ok (.idiv, 1)) {x y : Int} (hy : y ≠ 0) (k : J (pc + 1) ls (vi (wr (x.tdiv y)) :: st) M) : J pc ls (vi y :: vi x :: st) M := by
  obtain ⟨p, e, s, m, args, below, meth, c, R, α0, N0, n0, Qf, ⟨hx, hb, hml, hown, hin⟩, ⟨hts, hbs, hK, hE⟩, hR, rfl⟩ := hJ
  intro α H locs la hw
  have hs := hw.2.2.2.2.1
  have hyR : inR y := ok_h hs
  have hxR : inR x := ok_h (ok_t hs)
  have hk := k α H locs la (Wi_st hw (ok_cons (wr_in _) (ok_t (ok_t hs))))
  refine lv_idiv hx hb hd (fun q => hy ((i32_eq hyR inR_0).mp q)) ?_
  rw [show i32 x / i32 y = i32 (wr (x.tdiv y)) by rw [i32_wr]; exact (Int32.ofInt_tdiv hxR.1 hxR.2 hyR.1 hyR.2).symm]
  exact hk
theorem mj_irem (hJ : OkJ G own ini cc maxL d nC nS J) (hd : decode cc pc = .ok (.irem, 1)) {x y : Int} (hy : y ≠ 0) (k : J (pc + 1) ls (vi (x.tmod y) :: st) M) : J pc ls (vi y :: vi x :: st) M := by
  obtain ⟨p, e, s, m, args, below, meth, c, R, α0, N0, n0, Qf, ⟨hx, hb, hml, hown, hin⟩, ⟨hts, hbs, hK, hE⟩, hR, rfl⟩ := hJ
  intro α H locs la hw
  have hs := hw.2.2.2.2.1
  have hyR : inR y := ok_h hs
  have hxR : inR x := ok_h (ok_t hs)
  have hk := k α H locs la (Wi_st hw (ok_cons (ok_rem hxR hyR) (ok_t (ok_t hs))))
  refine lv_irem hx hb hd (fun q => hy ((i32_eq hyR inR_0).mp q)) ?_
  rw [show i32 x - i32 x / i32 y * i32 y = i32 (x.tmod y) by rw [show i32 x - i32 x / i32 y * i32 y = i32 x % i32 y from irem_eq_mod _ _]; exact (Int32.ofInt_tmod hxR.1 hxR.2 hyR.1 hyR.2).symm]
  exact hk
theorem mj_iand (hJ : OkJ G own ini cc maxL d nC nS J) (hd : decode cc pc = .ok (.iand, 1)) {x y : Int} (k : J (pc + 1) ls (vi ((i32 x &&& i32 y).toInt) :: st) M) : J pc ls (vi y :: vi x :: st) M := by
  obtain ⟨p, e, s, m, args, below, meth, c, R, α0, N0, n0, Qf, ⟨hx, hb, hml, hown, hin⟩, ⟨hts, hbs, hK, hE⟩, hR, rfl⟩ := hJ
  intro α H locs la hw
  have hs := hw.2.2.2.2.1
  have hyR : inR y := ok_h hs
  have hxR : inR x := ok_h (ok_t hs)
  have hk := k α H locs la (Wi_st hw (ok_cons (i32_R _) (ok_t (ok_t hs))))
  refine lv_iand hx hb hd ?_
  rw [← i32_of (i32 x &&& i32 y)]
  exact hk
theorem mj_ior (hJ : OkJ G own ini cc maxL d nC nS J) (hd : decode cc pc = .ok (.ior, 1)) {x y : Int} (k : J (pc + 1) ls (vi ((i32 x ||| i32 y).toInt) :: st) M) : J pc ls (vi y :: vi x :: st) M := by
  obtain ⟨p, e, s, m, args, below, meth, c, R, α0, N0, n0, Qf, ⟨hx, hb, hml, hown, hin⟩, ⟨hts, hbs, hK, hE⟩, hR, rfl⟩ := hJ
  intro α H locs la hw
  have hs := hw.2.2.2.2.1
  have hyR : inR y := ok_h hs
  have hxR : inR x := ok_h (ok_t hs)
  have hk := k α H locs la (Wi_st hw (ok_cons (i32_R _) (ok_t (ok_t hs))))
  refine lv_ior hx hb hd ?_
  rw [← i32_of (i32 x ||| i32 y)]
  exact hk
theorem mj_ixor (hJ : OkJ G own ini cc maxL d nC nS J) (hd : decode cc pc = .ok (.ixor, 1)) {x y : Int} (k : J (pc + 1) ls (vi ((i32 x ^^^ i32 y).toInt) :: st) M) : J pc ls (vi y :: vi x :: st) M := by
  obtain ⟨p, e, s, m, args, below, meth, c, R, α0, N0, n0, Qf, ⟨hx, hb, hml, hown, hin⟩, ⟨hts, hbs, hK, hE⟩, hR, rfl⟩ := hJ
  intro α H locs la hw
  have hs := hw.2.2.2.2.1
  have hyR : inR y := ok_h hs
  have hxR : inR x := ok_h (ok_t hs)
  have hk := k α H locs la (Wi_st hw (ok_cons (i32_R _) (ok_t (ok_t hs))))
  refine lv_ixor hx hb hd ?_
  rw [← i32_of (i32 x ^^^ i32 y)]
  exact hk
theorem mj_ishl (hJ : OkJ G own ini cc maxL d nC nS J) (hd : decode cc pc = .ok (.ishl, 1)) {x y : Int} (k : J (pc + 1) ls (vi ((i32 x <<< (i32 y &&& 31)).toInt) :: st) M) : J pc ls (vi y :: vi x :: st) M := by
  obtain ⟨p, e, s, m, args, below, meth, c, R, α0, N0, n0, Qf, ⟨hx, hb, hml, hown, hin⟩, ⟨hts, hbs, hK, hE⟩, hR, rfl⟩ := hJ
  intro α H locs la hw
  have hs := hw.2.2.2.2.1
  have hyR : inR y := ok_h hs
  have hxR : inR x := ok_h (ok_t hs)
  have hk := k α H locs la (Wi_st hw (ok_cons (i32_R _) (ok_t (ok_t hs))))
  refine lv_ishl hx hb hd ?_
  rw [← i32_of (i32 x <<< (i32 y &&& 31))]
  exact hk
theorem mj_ishr (hJ : OkJ G own ini cc maxL d nC nS J) (hd : decode cc pc = .ok (.ishr, 1)) {x y : Int} (k : J (pc + 1) ls (vi ((i32 x >>> (i32 y &&& 31)).toInt) :: st) M) : J pc ls (vi y :: vi x :: st) M := by
  obtain ⟨p, e, s, m, args, below, meth, c, R, α0, N0, n0, Qf, ⟨hx, hb, hml, hown, hin⟩, ⟨hts, hbs, hK, hE⟩, hR, rfl⟩ := hJ
  intro α H locs la hw
  have hs := hw.2.2.2.2.1
  have hyR : inR y := ok_h hs
  have hxR : inR x := ok_h (ok_t hs)
  have hk := k α H locs la (Wi_st hw (ok_cons (i32_R _) (ok_t (ok_t hs))))
  refine lv_ishr hx hb hd ?_
  rw [← i32_of (i32 x >>> (i32 y &&& 31))]
  exact hk
theorem mj_ineg (hJ : OkJ G own ini cc maxL d nC nS J) (hd : decode cc pc = .ok (.ineg, 1)) {x : Int} (k : J (pc + 1) ls (vi (wr (-x)) :: st) M) : J pc ls (vi x :: st) M := by
  obtain ⟨p, e, s, m, args, below, meth, c, R, α0, N0, n0, Qf, ⟨hx, hb, hml, hown, hin⟩, ⟨hts, hbs, hK, hE⟩, hR, rfl⟩ := hJ
  intro α H locs la hw
  have hs := hw.2.2.2.2.1
  have hk := k α H locs la (Wi_st hw (ok_cons (wr_in _) (ok_t hs)))
  refine lv_ineg hx hb hd ?_
  rw [i32_neg]
  exact hk
theorem mj_i2b (hJ : OkJ G own ini cc maxL d nC nS J) (hd : decode cc pc = .ok (.i2b, 1)) {x : Int} (k : J (pc + 1) ls (vi ((i32 x).toInt8.toInt32.toInt) :: st) M) : J pc ls (vi x :: st) M := by
  obtain ⟨p, e, s, m, args, below, meth, c, R, α0, N0, n0, Qf, ⟨hx, hb, hml, hown, hin⟩, ⟨hts, hbs, hK, hE⟩, hR, rfl⟩ := hJ
  intro α H locs la hw
  have hs := hw.2.2.2.2.1
  have hk := k α H locs la (Wi_st hw (ok_cons (i32_R _) (ok_t hs)))
  exact lv_i2b hx hb hd (by rw [i32_of]) hk
theorem mj_i2s (hJ : OkJ G own ini cc maxL d nC nS J) (hd : decode cc pc = .ok (.i2s, 1)) {x : Int} (k : J (pc + 1) ls (vi ((i32 x).toInt16.toInt32.toInt) :: st) M) : J pc ls (vi x :: st) M := by
  obtain ⟨p, e, s, m, args, below, meth, c, R, α0, N0, n0, Qf, ⟨hx, hb, hml, hown, hin⟩, ⟨hts, hbs, hK, hE⟩, hR, rfl⟩ := hJ
  intro α H locs la hw
  have hs := hw.2.2.2.2.1
  have hk := k α H locs la (Wi_st hw (ok_cons (i32_R _) (ok_t hs)))
  exact lv_i2s hx hb hd (by rw [i32_of]) hk
theorem mj_i2c (hJ : OkJ G own ini cc maxL d nC nS J) (hd : decode cc pc = .ok (.i2c, 1)) {x : Int} (k : J (pc + 1) ls (vi (((i32 x).toUInt32 % 65536).toInt32.toInt) :: st) M) : J pc ls (vi x :: st) M := by
  obtain ⟨p, e, s, m, args, below, meth, c, R, α0, N0, n0, Qf, ⟨hx, hb, hml, hown, hin⟩, ⟨hts, hbs, hK, hE⟩, hR, rfl⟩ := hJ
  intro α H locs la hw
  have hs := hw.2.2.2.2.1
  have hk := k α H locs la (Wi_st hw (ok_cons (i32_R _) (ok_t hs)))
  exact lv_i2c hx hb hd (by rw [i32_of]) hk
theorem mj_i2l (hJ : OkJ G own ini cc maxL d nC nS J) (hd : decode cc pc = .ok (.i2l, 1)) {x : Int} (k : J (pc + 1) ls (vj (i32 x).toInt64 :: st) M) : J pc ls (vi x :: st) M := by
  obtain ⟨p, e, s, m, args, below, meth, c, R, α0, N0, n0, Qf, ⟨hx, hb, hml, hown, hin⟩, ⟨hts, hbs, hK, hE⟩, hR, rfl⟩ := hJ
  intro α H locs la hw
  have hs := hw.2.2.2.2.1
  have hk := k α H locs la (Wi_st hw (ok_cons trivial (ok_t hs)))
  exact lv_i2l hx hb hd rfl hk
theorem mj_l2i (hJ : OkJ G own ini cc maxL d nC nS J) (hd : decode cc pc = .ok (.l2i, 1)) {x : Int64} (k : J (pc + 1) ls (vi x.toInt32.toInt :: st) M) : J pc ls (vj x :: st) M := by
  obtain ⟨p, e, s, m, args, below, meth, c, R, α0, N0, n0, Qf, ⟨hx, hb, hml, hown, hin⟩, ⟨hts, hbs, hK, hE⟩, hR, rfl⟩ := hJ
  intro α H locs la hw
  have hs := hw.2.2.2.2.1
  have hk := k α H locs la (Wi_st hw (ok_cons (i32_R _) (ok_t hs)))
  exact lv_l2i hx hb hd (i32_of _).symm hk
theorem mj_land (hJ : OkJ G own ini cc maxL d nC nS J) (hd : decode cc pc = .ok (.land, 1)) {x y : Int64} (k : J (pc + 1) ls (vj (x &&& y) :: st) M) : J pc ls (vj y :: vj x :: st) M := by
  obtain ⟨p, e, s, m, args, below, meth, c, R, α0, N0, n0, Qf, ⟨hx, hb, hml, hown, hin⟩, ⟨hts, hbs, hK, hE⟩, hR, rfl⟩ := hJ
  intro α H locs la hw
  have hs := hw.2.2.2.2.1
  have hk := k α H locs la (Wi_st hw (ok_cons trivial (ok_t (ok_t hs))))
  exact lv_land hx hb hd hk
theorem mj_lor (hJ : OkJ G own ini cc maxL d nC nS J) (hd : decode cc pc = .ok (.lor, 1)) {x y : Int64} (k : J (pc + 1) ls (vj (x ||| y) :: st) M) : J pc ls (vj y :: vj x :: st) M := by
  obtain ⟨p, e, s, m, args, below, meth, c, R, α0, N0, n0, Qf, ⟨hx, hb, hml, hown, hin⟩, ⟨hts, hbs, hK, hE⟩, hR, rfl⟩ := hJ
  intro α H locs la hw
  have hs := hw.2.2.2.2.1
  have hk := k α H locs la (Wi_st hw (ok_cons trivial (ok_t (ok_t hs))))
  exact lv_lor hx hb hd hk
theorem mj_lshl (hJ : OkJ G own ini cc maxL d nC nS J) (hd : decode cc pc = .ok (.lshl, 1)) {x : Int64} {y : Int} (k : J (pc + 1) ls (vj (x <<< ((i32 y).toInt64 &&& 63)) :: st) M) : J pc ls (vi y :: vj x :: st) M := by
  obtain ⟨p, e, s, m, args, below, meth, c, R, α0, N0, n0, Qf, ⟨hx, hb, hml, hown, hin⟩, ⟨hts, hbs, hK, hE⟩, hR, rfl⟩ := hJ
  intro α H locs la hw
  have hs := hw.2.2.2.2.1
  have hk := k α H locs la (Wi_st hw (ok_cons trivial (ok_t (ok_t hs))))
  exact lv_lshl hx hb hd rfl hk
theorem mj_lshr (hJ : OkJ G own ini cc maxL d nC nS J) (hd : decode cc pc = .ok (.lshr, 1)) {x : Int64} {y : Int} (k : J (pc + 1) ls (vj (x >>> ((i32 y).toInt64 &&& 63)) :: st) M) : J pc ls (vi y :: vj x :: st) M := by
  obtain ⟨p, e, s, m, args, below, meth, c, R, α0, N0, n0, Qf, ⟨hx, hb, hml, hown, hin⟩, ⟨hts, hbs, hK, hE⟩, hR, rfl⟩ := hJ
  intro α H locs la hw
  have hs := hw.2.2.2.2.1
  have hk := k α H locs la (Wi_st hw (ok_cons trivial (ok_t (ok_t hs))))
  exact lv_lshr hx hb hd rfl hk
theorem mj_dupi (hJ : OkJ G own ini cc maxL d nC nS J) (hd : decode cc pc = .ok (.dup, 1)) {x : Int} (k : J (pc + 1) ls (vi x :: vi x :: st) M) : J pc ls (vi x :: st) M := by
  obtain ⟨p, e, s, m, args, below, meth, c, R, α0, N0, n0, Qf, ⟨hx, hb, hml, hown, hin⟩, ⟨hts, hbs, hK, hE⟩, hR, rfl⟩ := hJ
  intro α H locs la hw
  have hs := hw.2.2.2.2.1
  exact lv_dup hx hb hd rfl (k α H locs la (Wi_st hw (ok_cons (ok_h hs) hs)))
theorem mj_dupr (hJ : OkJ G own ini cc maxL d nC nS J) (hd : decode cc pc = .ok (.dup, 1)) {x : Nat} (k : J (pc + 1) ls (vr x :: vr x :: st) M) : J pc ls (vr x :: st) M := by
  obtain ⟨p, e, s, m, args, below, meth, c, R, α0, N0, n0, Qf, ⟨hx, hb, hml, hown, hin⟩, ⟨hts, hbs, hK, hE⟩, hR, rfl⟩ := hJ
  intro α H locs la hw
  have hs := hw.2.2.2.2.1
  exact lv_dup hx hb hd rfl (k α H locs la (Wi_st hw (ok_cons (ok_h hs) hs)))
theorem mj_popi (hJ : OkJ G own ini cc maxL d nC nS J) (hd : decode cc pc = .ok (.pop, 1)) {x : Int} (k : J (pc + 1) ls st M) : J pc ls (vi x :: st) M := by
  obtain ⟨p, e, s, m, args, below, meth, c, R, α0, N0, n0, Qf, ⟨hx, hb, hml, hown, hin⟩, ⟨hts, hbs, hK, hE⟩, hR, rfl⟩ := hJ
  intro α H locs la hw
  have hs := hw.2.2.2.2.1
  exact lv_pop hx hb hd rfl (k α H locs la (Wi_st hw (ok_t hs)))
theorem mj_dup2 (hJ : OkJ G own ini cc maxL d nC nS J) (hd : decode cc pc = .ok (.dup2, 1)) {x : Int} {r : Nat} (k : J (pc + 1) ls (vi x :: vr r :: vi x :: vr r :: st) M) : J pc ls (vi x :: vr r :: st) M := by
  obtain ⟨p, e, s, m, args, below, meth, c, R, α0, N0, n0, Qf, ⟨hx, hb, hml, hown, hin⟩, ⟨hts, hbs, hK, hE⟩, hR, rfl⟩ := hJ
  intro α H locs la hw
  have hs := hw.2.2.2.2.1
  exact lv_dup2_11 hx hb hd rfl rfl (k α H locs la (Wi_st hw (ok_cons (ok_h hs) (ok_cons (ok_h (ok_t hs)) hs))))
theorem mj_icmp_eq (hJ : OkJ G own ini cc maxL d nC nS J) {off : Int} {tgt : Nat} (hd : decode cc pc = .ok (.if_icmp .eq off, 3)) (ht : (pc : Int) + off = (tgt : Int)) {x y : Int} (kt : x = y → J tgt ls st M) (kf : ¬ (x = y) → J (pc + 3) ls st M) : J pc ls (vi y :: vi x :: st) M := by
  obtain ⟨p, e, s, m, args, below, meth, c, R, α0, N0, n0, Qf, ⟨hx, hb, hml, hown, hin⟩, ⟨hts, hbs, hK, hE⟩, hR, rfl⟩ := hJ
  intro α H locs la hw
  have hs := hw.2.2.2.2.1
  have hyR : inR y := ok_h hs
  have hxR : inR x := ok_h (ok_t hs)
  have hi := i32_eq hxR hyR
  exact lv_icmp_eq hx hb hd ht (fun q => kt (hi.mp q) α H locs la (Wi_st hw (ok_t (ok_t hs)))) (fun q => kf (fun z => q (hi.mpr z)) α H locs la (Wi_st hw (ok_t (ok_t hs))))
theorem mj_icmp_ne (hJ : OkJ G own ini cc maxL d nC nS J) {off : Int} {tgt : Nat} (hd : decode cc pc = .ok (.if_icmp .ne off, 3)) (ht : (pc : Int) + off = (tgt : Int)) {x y : Int} (kt : ¬ x = y → J tgt ls st M) (kf : x = y → J (pc + 3) ls st M) : J pc ls (vi y :: vi x :: st) M := by
  obtain ⟨p, e, s, m, args, below, meth, c, R, α0, N0, n0, Qf, ⟨hx, hb, hml, hown, hin⟩, ⟨hts, hbs, hK, hE⟩, hR, rfl⟩ := hJ
  intro α H locs la hw
  have hs := hw.2.2.2.2.1
  have hyR : inR y := ok_h hs
  have hxR : inR x := ok_h (ok_t hs)
  have hi := not_congr (i32_eq hxR hyR)
  exact lv_icmp_ne hx hb hd ht (fun q => kt (hi.mp q) α H locs la (Wi_st hw (ok_t (ok_t hs)))) (fun q => kf ((i32_eq hxR hyR).mp q) α H locs la (Wi_st hw (ok_t (ok_t hs))))
theorem mj_icmp_lt (hJ : OkJ G own ini cc maxL d nC nS J) {off : Int} {tgt : Nat} (hd : decode cc pc = .ok (.if_icmp .lt off, 3)) (ht : (pc : Int) + off = (tgt : Int)) {x y : Int} (kt : x < y → J tgt ls st M) (kf : ¬ (x < y) → J (pc + 3) ls st M) : J pc ls (vi y :: vi x :: st) M := by
  obtain ⟨p, e, s, m, args, below, meth, c, R, α0, N0, n0, Qf, ⟨hx, hb, hml, hown, hin⟩, ⟨hts, hbs, hK, hE⟩, hR, rfl⟩ := hJ
  intro α H locs la hw
  have hs := hw.2.2.2.2.1
  have hyR : inR y := ok_h hs
  have hxR : inR x := ok_h (ok_t hs)
  have hi := i32_lt hxR hyR
  exact lv_icmp_lt hx hb hd ht (fun q => kt (hi.mp q) α H locs la (Wi_st hw (ok_t (ok_t hs)))) (fun q => kf (fun z => q (hi.mpr z)) α H locs la (Wi_st hw (ok_t (ok_t hs))))
theorem mj_icmp_ge (hJ : OkJ G own ini cc maxL d nC nS J) {off : Int} {tgt : Nat} (hd : decode cc pc = .ok (.if_icmp .ge off, 3)) (ht : (pc : Int) + off = (tgt : Int)) {x y : Int} (kt : y ≤ x → J tgt ls st M) (kf : ¬ (y ≤ x) → J (pc + 3) ls st M) : J pc ls (vi y :: vi x :: st) M := by
  obtain ⟨p, e, s, m, args, below, meth, c, R, α0, N0, n0, Qf, ⟨hx, hb, hml, hown, hin⟩, ⟨hts, hbs, hK, hE⟩, hR, rfl⟩ := hJ
  intro α H locs la hw
  have hs := hw.2.2.2.2.1
  have hyR : inR y := ok_h hs
  have hxR : inR x := ok_h (ok_t hs)
  have hi := i32_le hyR hxR
  exact lv_icmp_ge hx hb hd ht (fun q => kt (hi.mp q) α H locs la (Wi_st hw (ok_t (ok_t hs)))) (fun q => kf (fun z => q (hi.mpr z)) α H locs la (Wi_st hw (ok_t (ok_t hs))))
theorem mj_icmp_gt (hJ : OkJ G own ini cc maxL d nC nS J) {off : Int} {tgt : Nat} (hd : decode cc pc = .ok (.if_icmp .gt off, 3)) (ht : (pc : Int) + off = (tgt : Int)) {x y : Int} (kt : y < x → J tgt ls st M) (kf : ¬ (y < x) → J (pc + 3) ls st M) : J pc ls (vi y :: vi x :: st) M := by
  obtain ⟨p, e, s, m, args, below, meth, c, R, α0, N0, n0, Qf, ⟨hx, hb, hml, hown, hin⟩, ⟨hts, hbs, hK, hE⟩, hR, rfl⟩ := hJ
  intro α H locs la hw
  have hs := hw.2.2.2.2.1
  have hyR : inR y := ok_h hs
  have hxR : inR x := ok_h (ok_t hs)
  have hi := i32_lt hyR hxR
  exact lv_icmp_gt hx hb hd ht (fun q => kt (hi.mp q) α H locs la (Wi_st hw (ok_t (ok_t hs)))) (fun q => kf (fun z => q (hi.mpr z)) α H locs la (Wi_st hw (ok_t (ok_t hs))))
theorem mj_icmp_le (hJ : OkJ G own ini cc maxL d nC nS J) {off : Int} {tgt : Nat} (hd : decode cc pc = .ok (.if_icmp .le off, 3)) (ht : (pc : Int) + off = (tgt : Int)) {x y : Int} (kt : x ≤ y → J tgt ls st M) (kf : ¬ (x ≤ y) → J (pc + 3) ls st M) : J pc ls (vi y :: vi x :: st) M := by
  obtain ⟨p, e, s, m, args, below, meth, c, R, α0, N0, n0, Qf, ⟨hx, hb, hml, hown, hin⟩, ⟨hts, hbs, hK, hE⟩, hR, rfl⟩ := hJ
  intro α H locs la hw
  have hs := hw.2.2.2.2.1
  have hyR : inR y := ok_h hs
  have hxR : inR x := ok_h (ok_t hs)
  have hi := i32_le hxR hyR
  exact lv_icmp_le hx hb hd ht (fun q => kt (hi.mp q) α H locs la (Wi_st hw (ok_t (ok_t hs)))) (fun q => kf (fun z => q (hi.mpr z)) α H locs la (Wi_st hw (ok_t (ok_t hs))))
theorem mj_if_eq (hJ : OkJ G own ini cc maxL d nC nS J) {off : Int} {tgt : Nat} (hd : decode cc pc = .ok (.ifCond .eq off, 3)) (ht : (pc : Int) + off = (tgt : Int)) {x : Int} (kt : x = 0 → J tgt ls st M) (kf : ¬ (x = 0) → J (pc + 3) ls st M) : J pc ls (vi x :: st) M := by
  obtain ⟨p, e, s, m, args, below, meth, c, R, α0, N0, n0, Qf, ⟨hx, hb, hml, hown, hin⟩, ⟨hts, hbs, hK, hE⟩, hR, rfl⟩ := hJ
  intro α H locs la hw
  have hs := hw.2.2.2.2.1
  have hxR : inR x := ok_h hs
  have hi := i32_eq hxR inR_0
  exact lv_if_eq hx hb hd ht (fun q => kt (hi.mp q) α H locs la (Wi_st hw (ok_t hs))) (fun q => kf (fun z => q (hi.mpr z)) α H locs la (Wi_st hw (ok_t hs)))
theorem mj_if_ne (hJ : OkJ G own ini cc maxL d nC nS J) {off : Int} {tgt : Nat} (hd : decode cc pc = .ok (.ifCond .ne off, 3)) (ht : (pc : Int) + off = (tgt : Int)) {x : Int} (kt : ¬ x = 0 → J tgt ls st M) (kf : x = 0 → J (pc + 3) ls st M) : J pc ls (vi x :: st) M := by
  obtain ⟨p, e, s, m, args, below, meth, c, R, α0, N0, n0, Qf, ⟨hx, hb, hml, hown, hin⟩, ⟨hts, hbs, hK, hE⟩, hR, rfl⟩ := hJ
  intro α H locs la hw
  have hs := hw.2.2.2.2.1
  have hxR : inR x := ok_h hs
  have hi := not_congr (i32_eq hxR inR_0)
  exact lv_if_ne hx hb hd ht (fun q => kt (hi.mp q) α H locs la (Wi_st hw (ok_t hs))) (fun q => kf ((i32_eq hxR inR_0).mp q) α H locs la (Wi_st hw (ok_t hs)))
theorem mj_if_lt (hJ : OkJ G own ini cc maxL d nC nS J) {off : Int} {tgt : Nat} (hd : decode cc pc = .ok (.ifCond .lt off, 3)) (ht : (pc : Int) + off = (tgt : Int)) {x : Int} (kt : x < 0 → J tgt ls st M) (kf : ¬ (x < 0) → J (pc + 3) ls st M) : J pc ls (vi x :: st) M := by
  obtain ⟨p, e, s, m, args, below, meth, c, R, α0, N0, n0, Qf, ⟨hx, hb, hml, hown, hin⟩, ⟨hts, hbs, hK, hE⟩, hR, rfl⟩ := hJ
  intro α H locs la hw
  have hs := hw.2.2.2.2.1
  have hxR : inR x := ok_h hs
  have hi := i32_lt hxR inR_0
  exact lv_if_lt hx hb hd ht (fun q => kt (hi.mp q) α H locs la (Wi_st hw (ok_t hs))) (fun q => kf (fun z => q (hi.mpr z)) α H locs la (Wi_st hw (ok_t hs)))
theorem mj_if_ge (hJ : OkJ G own ini cc maxL d nC nS J) {off : Int} {tgt : Nat} (hd : decode cc pc = .ok (.ifCond .ge off, 3)) (ht : (pc : Int) + off = (tgt : Int)) {x : Int} (kt : 0 ≤ x → J tgt ls st M) (kf : ¬ (0 ≤ x) → J (pc + 3) ls st M) : J pc ls (vi x :: st) M := by
  obtain ⟨p, e, s, m, args, below, meth, c, R, α0, N0, n0, Qf, ⟨hx, hb, hml, hown, hin⟩, ⟨hts, hbs, hK, hE⟩, hR, rfl⟩ := hJ
  intro α H locs la hw
  have hs := hw.2.2.2.2.1
  have hxR : inR x := ok_h hs
  have hi := i32_le inR_0 hxR
  exact lv_if_ge hx hb hd ht (fun q => kt (hi.mp q) α H locs la (Wi_st hw (ok_t hs))) (fun q => kf (fun z => q (hi.mpr z)) α H locs la (Wi_st hw (ok_t hs)))
theorem mj_if_gt (hJ : OkJ G own ini cc maxL d nC nS J) {off : Int} {tgt : Nat} (hd : decode cc pc = .ok (.ifCond .gt off, 3)) (ht : (pc : Int) + off = (tgt : Int)) {x : Int} (kt : 0 < x → J tgt ls st M) (kf : ¬ (0 < x) → J (pc + 3) ls st M) : J pc ls (vi x :: st) M := by
  obtain ⟨p, e, s, m, args, below, meth, c, R, α0, N0, n0, Qf, ⟨hx, hb, hml, hown, hin⟩, ⟨hts, hbs, hK, hE⟩, hR, rfl⟩ := hJ
  intro α H locs la hw
  have hs := hw.2.2.2.2.1
  have hxR : inR x := ok_h hs
  have hi := i32_lt inR_0 hxR
  exact lv_if_gt hx hb hd ht (fun q => kt (hi.mp q) α H locs la (Wi_st hw (ok_t hs))) (fun q => kf (fun z => q (hi.mpr z)) α H locs la (Wi_st hw (ok_t hs)))
theorem mj_if_le (hJ : OkJ G own ini cc maxL d nC nS J) {off : Int} {tgt : Nat} (hd : decode cc pc = .ok (.ifCond .le off, 3)) (ht : (pc : Int) + off = (tgt : Int)) {x : Int} (kt : x ≤ 0 → J tgt ls st M) (kf : ¬ (x ≤ 0) → J (pc + 3) ls st M) : J pc ls (vi x :: st) M := by
  obtain ⟨p, e, s, m, args, below, meth, c, R, α0, N0, n0, Qf, ⟨hx, hb, hml, hown, hin⟩, ⟨hts, hbs, hK, hE⟩, hR, rfl⟩ := hJ
  intro α H locs la hw
  have hs := hw.2.2.2.2.1
  have hxR : inR x := ok_h hs
  have hi := i32_le hxR inR_0
  exact lv_if_le hx hb hd ht (fun q => kt (hi.mp q) α H locs la (Wi_st hw (ok_t hs))) (fun q => kf (fun z => q (hi.mpr z)) α H locs la (Wi_st hw (ok_t hs)))
theorem mj_goto (hJ : OkJ G own ini cc maxL d nC nS J) {off : Int} {tgt : Nat} (hd : decode cc pc = .ok (.goto off, 3)) (ht : (pc : Int) + off = (tgt : Int)) (k : J tgt ls st M) : J pc ls st M := by
  obtain ⟨p, e, s, m, args, below, meth, c, R, α0, N0, n0, Qf, ⟨hx, hb, hml, hown, hin⟩, ⟨hts, hbs, hK, hE⟩, hR, rfl⟩ := hJ
  intro α H locs la hw
  have hs := hw.2.2.2.2.1
  exact lv_goto hx hb hd ht (k α H locs la hw)
theorem mj_tabIn (hJ : OkJ G own ini cc maxL d nC nS J) {dflt lo hi : Int} {offs : Array Int} {len : Nat} {x off : Int} {tgt : Nat} (hd : decode cc pc = .ok (.tableswitch dflt lo hi offs, len)) (h1 : lo ≤ x) (h2 : x ≤ hi) (ho : offs[(x - lo).toNat]? = some off) (ht : (pc : Int) + off = (tgt : Int)) (k : J tgt ls st M) : J pc ls (vi x :: st) M := by
  obtain ⟨p, e, s, m, args, below, meth, c, R, α0, N0, n0, Qf, ⟨hx, hb, hml, hown, hin⟩, ⟨hts, hbs, hK, hE⟩, hR, rfl⟩ := hJ
  intro α H locs la hw
  have hs := hw.2.2.2.2.1
  have hxR : inR x := ok_h hs
  have ex : (i32 x).toInt = x := i32_t hxR
  exact lv_tableIn hx hb hd (by rw [ex]; omega) (by rw [ex]; omega) (by rw [ex]; exact ho) ht (k α H locs la (Wi_st hw (ok_t hs)))
theorem mj_tabOut (hJ : OkJ G own ini cc maxL d nC nS J) {dflt lo hi : Int} {offs : Array Int} {len : Nat} {x : Int} {tgt : Nat} (hd : decode cc pc = .ok (.tableswitch dflt lo hi offs, len)) (h : x < lo ∨ hi < x) (ht : (pc : Int) + dflt = (tgt : Int)) (k : J tgt ls st M) : J pc ls (vi x :: st) M := by
  obtain ⟨p, e, s, m, args, below, meth, c, R, α0, N0, n0, Qf, ⟨hx, hb, hml, hown, hin⟩, ⟨hts, hbs, hK, hE⟩, hR, rfl⟩ := hJ
  intro α H locs la hw
  have hs := hw.2.2.2.2.1
  have hxR : inR x := ok_h hs
  have ex : (i32 x).toInt = x := i32_t hxR
  exact lv_tableOut hx hb hd (by rw [ex]; exact h) ht (k α H locs la (Wi_st hw (ok_t hs)))
theorem mj_look (hJ : OkJ G own ini cc maxL d nC nS J) {dflt : Int} {ps : Array (Int × Int)} {len : Nat} {x off : Int} {tgt : Nat} (hd : decode cc pc = .ok (.lookupswitch dflt ps, len)) (hp : (ps.toList.zip (ps.toList.drop 1)).all (fun (a, next) => a.1 < next.1) = true) (ho : Op.lookupswitch.offset ps.toList dflt x = off) (ht : (pc : Int) + off = (tgt : Int)) (k : J tgt ls st M) : J pc ls (vi x :: st) M := by
  obtain ⟨p, e, s, m, args, below, meth, c, R, α0, N0, n0, Qf, ⟨hx, hb, hml, hown, hin⟩, ⟨hts, hbs, hK, hE⟩, hR, rfl⟩ := hJ
  intro α H locs la hw
  have hs := hw.2.2.2.2.1
  have hxR : inR x := ok_h hs
  have ex : (i32 x).toInt = x := i32_t hxR
  exact lv_lookup hx hb hd hp (by rw [ex]; exact ho) ht (k α H locs la (Wi_st hw (ok_t hs)))
end MJB
