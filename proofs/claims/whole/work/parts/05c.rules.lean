/-! THE LOGIC, c: rows of the memory -/
theorem cl_ok {c : Nat} {C : String} {T : u_T} {N : Nat} (h : vwCl[c]? = some (C, T, N)) : (∀ w ∈ u_ws C T N, w ∈ lw_gd) ∧ (∀ k, k < N → parseFieldDescriptor (T k).2.2.1 = some (tyOf c k)) ∧ (∀ a, a < N → ∀ b, b < N → a ≠ b → (T a).2.1 ≠ (T b).2.1) ∧ c < 16 := by
  match c, h with
  | 0, h => cases h; exact ⟨inX0, tyX0_ok, nmX0, by omega⟩
  | 1, h => cases h; exact ⟨inX1, tyX1_ok, nmX1, by omega⟩
  | 2, h => cases h; exact ⟨inX2, tyX2_ok, nmX2, by omega⟩
  | 3, h => cases h; exact ⟨inX3, tyX3_ok, nmX3, by omega⟩
  | 4, h => cases h; exact ⟨inX4, tyX4_ok, nmX4, by omega⟩
  | 5, h => cases h; exact ⟨inX5, tyX5_ok, nmX5, by omega⟩
  | 6, h => cases h; exact ⟨inX6, tyX6_ok, nmX6, by omega⟩
  | 7, h => cases h; exact ⟨inX7, tyX7_ok, nmX7, by omega⟩
  | 8, h => cases h; exact ⟨inX8, tyX8_ok, nmX8, by omega⟩
  | 9, h => cases h; exact ⟨inX9, tyX9_ok, nmX9, by omega⟩
  | k + 10, h => simp at h
theorem cE_o {G : GE} {α : Nat → Nat} {M : Mem} {k c n : Nat} (h : c < 16) : cE G α M k (c, n) = .inr (c, (List.range n).map (cF α M k c)) := by
  unfold cE
  rw [if_pos h]
theorem cE_16 {G : GE} {α : Nat → Nat} {M : Mem} {k n : Nat} : cE G α M k (16, n) = .inl (G.2.2.1.1, n, .inl (fun j => i32 (M.1 k j))) := rfl
theorem cE_17 {G : GE} {α : Nat → Nat} {M : Mem} {k n : Nat} : cE G α M k (17, n) = .inl (G.2.2.1.2.1, n, .inl (fun j => i32 (M.1 k j))) := rfl
theorem cE_18 {G : GE} {α : Nat → Nat} {M : Mem} {k n : Nat} : cE G α M k (18, n) = .inl (G.2.2.1.2.2.1, n, .inr (.inr (.inr (.inr (fun j => (M.2.1 k j).map α))))) := rfl
theorem cE_19 {G : GE} {α : Nat → Nat} {M : Mem} {k n : Nat} : cE G α M k (19, n) = .inl (G.2.2.1.2.2.2, n, .inr (.inr (.inr (.inr (fun j => (M.2.1 k j).map α))))) := rfl
theorem cF_at {α : Nat → Nat} {M : Mem} {k c n j : Nat} (h : j < n) : ((List.range n).map (cF α M k c))[j]? = some (cF α M k c j) := by
  simp [List.getElem?_map, List.getElem?_range h]
theorem cF_I {α : Nat → Nat} {M : Mem} {k c j : Nat} (h : fR c j = false) : cF α M k c j = .int (i32 (M.1 k j)) := by
  unfold cF
  rw [if_neg (by rw [h]; decide)]
theorem cF_R {α : Nat → Nat} {M : Mem} {k c j r : Nat} (h : fR c j = true) (hr : M.2.1 k j = some r) : cF α M k c j = .ref (α r) := by
  unfold cF
  rw [if_pos h, hr]
  rfl
theorem cF_set {α : Nat → Nat} {M M' : Mem} {k c n j : Nat} {v : Value} (hj : j < n) (h1 : ∀ i : Nat, i ≠ j → M'.1 k i = M.1 k i) (h2 : ∀ i : Nat, i ≠ j → M'.2.1 k i = M.2.1 k i) (hv : v = cF α M' k c j) : ((List.range n).map (cF α M k c)).set j v = (List.range n).map (cF α M' k c) := by
  apply List.ext_getElem?
  intro i
  by_cases hi : i = j
  · subst hi
    rw [List.getElem?_set_self (by simpa using hj), cF_at hj, hv]
  · rw [List.getElem?_set_ne (Ne.symm hi)]
    by_cases hn : i < n
    · rw [cF_at hn, cF_at hn]
      unfold cF
      rw [h1 i hi, h2 i hi]
    · rw [List.getElem?_eq_none (by simpa using Nat.le_of_not_lt hn), List.getElem?_eq_none (by simpa using Nat.le_of_not_lt hn)]
theorem toN {i : Int} (h : 0 ≤ i) : ((i.toNat : Nat) : Int) = i := Int.toNat_of_nonneg h
theorem nar_ref {ty : FieldType} {a : Nat} (h : isRf ty = true) : narrow ty (.ref a) = .ref a ∧ fits ty (.ref a) = true := by
  cases ty <;> first | exact ⟨rfl, rfl⟩ | cases h
section MJC
variable {G : GE} {own : String} {ini : Bool} {cc : ByteArray} {maxL d nC nS : Nat} {J : Jd} {pc : Nat} {ls st : List Vl} {M : Mem}
theorem mj_getI (hJ : OkJ G own ini cc maxL d nC nS J) {idx c j k n : Nat} {fin : Bool} (hd : decode cc pc = .ok (.getfield idx, 3)) (hf : Fw own idx c j fin) (hk : M.2.2[k]? = some (c, n)) (hn : j < n) (hr : fR c j = false) (kk : J (pc + 3) ls (vi (M.1 k j) :: st) M) : J pc ls (vr k :: st) M := by
  obtain ⟨p, e, s, m, args, below, meth, c0, R, α0, N0, n0, Qf, ⟨hx, hb, hml, hown, hin⟩, ⟨hts, hbs, hK, hE⟩, hR, rfl⟩ := hJ
  intro α H locs la hw
  have hs := hw.2.2.2.2.1
  obtain ⟨C, T, N, hc, hj, hl, -⟩ := hf
  have ho := cl_ok hc
  have he := wd_at (G := G) (α := α) hk
  rw [cE_o ho.2.2.2] at he
  refine va_get hx hb hts ho.1 hown hK hw.2.1.1 k he hc j hj (hts _ hl) (fun _ h => h) (cF_at hn) hd ?_
  rw [cF_I hr]
  exact kk α H locs la (Wi_st hw (ok_cons (hw.2.2.1.1 k j) (ok_t hs)))
theorem mj_getR (hJ : OkJ G own ini cc maxL d nC nS J) {idx c j k n r : Nat} {fin : Bool} (hd : decode cc pc = .ok (.getfield idx, 3)) (hf : Fw own idx c j fin) (hk : M.2.2[k]? = some (c, n)) (hn : j < n) (hr : fR c j = true) (hv : M.2.1 k j = some r) (kk : J (pc + 3) ls (vr r :: st) M) : J pc ls (vr k :: st) M := by
  obtain ⟨p, e, s, m, args, below, meth, c0, R, α0, N0, n0, Qf, ⟨hx, hb, hml, hown, hin⟩, ⟨hts, hbs, hK, hE⟩, hR, rfl⟩ := hJ
  intro α H locs la hw
  have hs := hw.2.2.2.2.1
  obtain ⟨C, T, N, hc, hj, hl, -⟩ := hf
  have ho := cl_ok hc
  have he := wd_at (G := G) (α := α) hk
  rw [cE_o ho.2.2.2] at he
  refine va_get hx hb hts ho.1 hown hK hw.2.1.1 k he hc j hj (hts _ hl) (fun _ h => h) (cF_at hn) hd ?_
  rw [cF_R hr hv]
  exact kk α H locs la (Wi_st hw (ok_cons (hw.2.2.1.2 k j r hv) (ok_t hs)))
/-- behind a write of one cell -/
theorem Wi_put {s : State} {α0 : Nat → Nat} {N0 n0 : Nat} {α : Nat → Nat} {H H1 : Heap} {locs locs1 : List Loc} {la : Array Slot} {st' : List Vl} {M' : Mem} (h : Wi G s α0 N0 n0 maxL nC nS α H locs la ls st M) (hS : M'.2.2 = M.2.2) (hP : va_P (gD G) vwCl (wd G α M') H1) (hD : va_D (gB G) (wd G α M')) (hs : va_S (gB G) s.heap H1 locs1) (hm : okM M') (hst : ∀ v ∈ st', okV M.2.2.length v) : Wi G s α0 N0 n0 maxL nC nS α H1 locs1 la ls st' M' := by
  obtain ⟨a1, a2, a3, a4, a5, a6, a7⟩ := h
  refine ⟨a1, ⟨hP, hD, hs⟩, hm, ?_, ?_, a6, ?_⟩
  · rw [hS]; exact a4
  · rw [hS]; exact hst
  · rw [hS]; exact a7
theorem mj_putI (hJ : OkJ G own ini cc maxL d nC nS J) {idx c j k n : Nat} {z : Int} (hd : decode cc pc = .ok (.putfield idx, 3)) (hf : Fw own idx c j false) (hk : M.2.2[k]? = some (c, n)) (hn : j < n) (ht : tyOf c j = .int) (kk : J (pc + 3) ls st (upI M.1 k j z, M.2)) : J pc ls (vi z :: vr k :: st) M := by
  obtain ⟨p, e, s, m, args, below, meth, c0, R, α0, N0, n0, Qf, ⟨hx, hb, hml, hown, hin⟩, ⟨hts, hbs, hK, hE⟩, hR, rfl⟩ := hJ
  intro α H locs la hw
  have hs := hw.2.2.2.2.1
  obtain ⟨C, T, N, hc, hj, hl, hfin⟩ := hf
  have ho := cl_ok hc
  have hr : fR c j = false := by unfold fR; rw [ht]; rfl
  have he := wd_at (G := G) (α := α) hk
  rw [cE_o ho.2.2.2] at he
  refine va_put (ty := tyOf c j) (v := .int (i32 z)) hx hb hts ho.1 (tyOf c) ho.2.1 ho.2.2.1 hown hK hw.2.1.1 hw.2.1.2.1 hw.2.1.2.2 k he hc j hj (hts _ hl) (fun _ h => h) hfin (ho.2.1 j hj) (by rw [ht]; rfl) (by rw [ht]; rfl) (by simpa using hn) hd (fun H1 locs1 hP hD hS => ?_)
  have e := wd_set (G := G) (α := α) (M := M) (M' := (upI M.1 k j z, M.2)) (e := .inr (c, ((List.range n).map (cF α M k c)).set j (.int (i32 z)))) hk rfl (fun a ha => upI_ne ha) (fun _ _ => rfl)
    (by
      rw [cE_o ho.2.2.2]
      exact congrArg (fun l => Sum.inr (c, l)) (cF_set (M := M) (α := α) (k := k) (c := c) hn (M' := (upI M.1 k j z, M.2)) (fun i hi => by show upI M.1 k j z k i = _; rw [upI_at, if_neg (by omega)]) (fun _ _ => rfl) (by rw [cF_I hr]; show _ = Value.int (i32 (upI M.1 k j z k j)); rw [upI_at, if_pos rfl])))
  rw [e] at hP hD
  exact kk α H1 locs1 la (Wi_put hw rfl hP hD hS (okM_upI hw.2.2.1 (ok_h hs)) (ok_t (ok_t hs)))
theorem mj_putZ (hJ : OkJ G own ini cc maxL d nC nS J) {idx c j k n : Nat} {z : Int} (hd : decode cc pc = .ok (.putfield idx, 3)) (hf : Fw own idx c j false) (hk : M.2.2[k]? = some (c, n)) (hn : j < n) (ht : tyOf c j = .boolean) (hz : z = 0 ∨ z = 1) (kk : J (pc + 3) ls st (upI M.1 k j z, M.2)) : J pc ls (vi z :: vr k :: st) M := by
  obtain ⟨p, e, s, m, args, below, meth, c0, R, α0, N0, n0, Qf, ⟨hx, hb, hml, hown, hin⟩, ⟨hts, hbs, hK, hE⟩, hR, rfl⟩ := hJ
  intro α H locs la hw
  have hs := hw.2.2.2.2.1
  obtain ⟨C, T, N, hc, hj, hl, hfin⟩ := hf
  have ho := cl_ok hc
  have hr : fR c j = false := by unfold fR; rw [ht]; rfl
  have he := wd_at (G := G) (α := α) hk
  rw [cE_o ho.2.2.2] at he
  refine va_put (ty := tyOf c j) (v := .int (i32 z)) hx hb hts ho.1 (tyOf c) ho.2.1 ho.2.2.1 hown hK hw.2.1.1 hw.2.1.2.1 hw.2.1.2.2 k he hc j hj (hts _ hl) (fun _ h => h) hfin (ho.2.1 j hj) (by rw [ht]; rcases hz with rfl | rfl <;> rfl) (by rw [ht]; rcases hz with rfl | rfl <;> rfl) (by simpa using hn) hd (fun H1 locs1 hP hD hS => ?_)
  have e := wd_set (G := G) (α := α) (M := M) (M' := (upI M.1 k j z, M.2)) (e := .inr (c, ((List.range n).map (cF α M k c)).set j (.int (i32 z)))) hk rfl (fun a ha => upI_ne ha) (fun _ _ => rfl)
    (by
      rw [cE_o ho.2.2.2]
      exact congrArg (fun l => Sum.inr (c, l)) (cF_set (M := M) (α := α) (k := k) (c := c) hn (M' := (upI M.1 k j z, M.2)) (fun i hi => by show upI M.1 k j z k i = _; rw [upI_at, if_neg (by omega)]) (fun _ _ => rfl) (by rw [cF_I hr]; show _ = Value.int (i32 (upI M.1 k j z k j)); rw [upI_at, if_pos rfl])))
  rw [e] at hP hD
  exact kk α H1 locs1 la (Wi_put hw rfl hP hD hS (okM_upI hw.2.2.1 (ok_h hs)) (ok_t (ok_t hs)))
theorem mj_putR (hJ : OkJ G own ini cc maxL d nC nS J) {idx c j k n r : Nat} (hd : decode cc pc = .ok (.putfield idx, 3)) (hf : Fw own idx c j false) (hk : M.2.2[k]? = some (c, n)) (hn : j < n) (ht : fR c j = true) (kk : J (pc + 3) ls st (M.1, upR M.2.1 k j (some r), M.2.2)) : J pc ls (vr r :: vr k :: st) M := by
  obtain ⟨p, e, s, m, args, below, meth, c0, R, α0, N0, n0, Qf, ⟨hx, hb, hml, hown, hin⟩, ⟨hts, hbs, hK, hE⟩, hR, rfl⟩ := hJ
  intro α H locs la hw
  have hs := hw.2.2.2.2.1
  obtain ⟨C, T, N, hc, hj, hl, hfin⟩ := hf
  have ho := cl_ok hc
  have he := wd_at (G := G) (α := α) hk
  rw [cE_o ho.2.2.2] at he
  refine va_put (ty := tyOf c j) (v := .ref (α r)) hx hb hts ho.1 (tyOf c) ho.2.1 ho.2.2.1 hown hK hw.2.1.1 hw.2.1.2.1 hw.2.1.2.2 k he hc j hj (hts _ hl) (fun _ h => h) hfin (ho.2.1 j hj) (nar_ref ht).1 (nar_ref ht).2 (by simpa using hn) hd (fun H1 locs1 hP hD hS => ?_)
  have e := wd_set (G := G) (α := α) (M := M) (M' := (M.1, upR M.2.1 k j (some r), M.2.2)) (e := .inr (c, ((List.range n).map (cF α M k c)).set j (.ref (α r)))) hk rfl (fun _ _ => rfl) (fun a ha => upR_ne ha)
    (by
      rw [cE_o ho.2.2.2]
      exact congrArg (fun l => Sum.inr (c, l)) (cF_set (M := M) (α := α) (k := k) (c := c) hn (M' := (M.1, upR M.2.1 k j (some r), M.2.2)) (fun _ _ => rfl) (fun i hi => by show upR M.2.1 k j (some r) k i = _; rw [upR_at, if_neg (by omega)]) (by rw [cF_R ht (r := r) (by show upR M.2.1 k j (some r) k j = _; rw [upR_at, if_pos rfl])])))
  rw [e] at hP hD
  exact kk α H1 locs1 la (Wi_put hw rfl hP hD hS (okM_upR hw.2.2.1 (ok_h hs)) (ok_t (ok_t hs)))
theorem mj_putFR (hJ : OkJ G own true cc maxL d nC nS J) {idx c j k n r : Nat} (hd : decode cc pc = .ok (.putfield idx, 3)) (hf : Fw own idx c j true) (hdc : ∀ C T N, vwCl[c]? = some (C, T, N) → (T j).1 = own) (hk : M.2.2[k]? = some (c, n)) (hn : j < n) (ht : fR c j = true) (kk : J (pc + 3) ls st (M.1, upR M.2.1 k j (some r), M.2.2)) : J pc ls (vr r :: vr k :: st) M := by
  obtain ⟨p, e, s, m, args, below, meth, c0, R, α0, N0, n0, Qf, ⟨hx, hb, hml, hown, hin⟩, ⟨hts, hbs, hK, hE⟩, hR, rfl⟩ := hJ
  intro α H locs la hw
  have hs := hw.2.2.2.2.1
  obtain ⟨C, T, N, hc, hj, hl, hfin⟩ := hf
  have ho := cl_ok hc
  have he := wd_at (G := G) (α := α) hk
  rw [cE_o ho.2.2.2] at he
  refine va_putF (ty := tyOf c j) (v := .ref (α r)) hx hb hts ho.1 (tyOf c) ho.2.1 ho.2.2.1 hown hK hw.2.1.1 hw.2.1.2.1 hw.2.1.2.2 k he hc j hj (hts _ hl) (fun _ h => h) hfin (hin rfl) (hdc C T N hc) (ho.2.1 j hj) (nar_ref ht).1 (nar_ref ht).2 (by simpa using hn) hd (fun H1 locs1 hP hD hS => ?_)
  have e := wd_set (G := G) (α := α) (M := M) (M' := (M.1, upR M.2.1 k j (some r), M.2.2)) (e := .inr (c, ((List.range n).map (cF α M k c)).set j (.ref (α r)))) hk rfl (fun _ _ => rfl) (fun a ha => upR_ne ha)
    (by
      rw [cE_o ho.2.2.2]
      exact congrArg (fun l => Sum.inr (c, l)) (cF_set (M := M) (α := α) (k := k) (c := c) hn (M' := (M.1, upR M.2.1 k j (some r), M.2.2)) (fun _ _ => rfl) (fun i hi => by show upR M.2.1 k j (some r) k i = _; rw [upR_at, if_neg (by omega)]) (by rw [cF_R ht (r := r) (by show upR M.2.1 k j (some r) k j = _; rw [upR_at, if_pos rfl])])))
  rw [e] at hP hD
  exact kk α H1 locs1 la (Wi_put hw rfl hP hD hS (okM_upR hw.2.2.1 (ok_h hs)) (ok_t (ok_t hs)))
theorem mj_iald (hJ : OkJ G own ini cc maxL d nC nS J) {k n : Nat} {i : Int} (hd : decode cc pc = .ok (.iaload, 1)) (hk : M.2.2[k]? = some (16, n)) (h0 : 0 ≤ i) (hi : i < n) (kk : J (pc + 1) ls (vi (M.1 k i) :: st) M) : J pc ls (vi i :: vr k :: st) M := by
  obtain ⟨p, e, s, m, args, below, meth, c0, R, α0, N0, n0, Qf, ⟨hx, hb, hml, hown, hin⟩, ⟨hts, hbs, hK, hE⟩, hR, rfl⟩ := hJ
  intro α H locs la hw
  have hs := hw.2.2.2.2.1
  have hiR : inR i := ok_h hs
  have he := wd_at (G := G) (α := α) hk
  rw [cE_16] at he
  refine va_iald hx hb hK hw.2.1.1 k 0 he rfl (i32_pin hiR h0 hi) hd ?_
  rw [i32_c hiR, toN h0]
  exact kk α H locs la (Wi_st hw (ok_cons (hw.2.2.1.1 k i) (ok_t (ok_t hs))))
theorem mj_zald (hJ : OkJ G own ini cc maxL d nC nS J) {k n : Nat} {i : Int} (hd : decode cc pc = .ok (.baload, 1)) (hk : M.2.2[k]? = some (17, n)) (h0 : 0 ≤ i) (hi : i < n) (kk : J (pc + 1) ls (vi (M.1 k i) :: st) M) : J pc ls (vi i :: vr k :: st) M := by
  obtain ⟨p, e, s, m, args, below, meth, c0, R, α0, N0, n0, Qf, ⟨hx, hb, hml, hown, hin⟩, ⟨hts, hbs, hK, hE⟩, hR, rfl⟩ := hJ
  intro α H locs la hw
  have hs := hw.2.2.2.2.1
  have hiR : inR i := ok_h hs
  have he := wd_at (G := G) (α := α) hk
  rw [cE_17] at he
  refine va_zald hx hb hK hw.2.1.1 k 1 he rfl (i32_pin hiR h0 hi) hd ?_
  rw [i32_c hiR, toN h0]
  exact kk α H locs la (Wi_st hw (ok_cons (hw.2.2.1.1 k i) (ok_t (ok_t hs))))
theorem upd_fn {f : Int → Int} {i z : Int} (h0 : 0 ≤ i) : upd (fun j => i32 (f j)) i.toNat (i32 z) = fun j : Nat => i32 (if (j : Int) = i then z else f j) := by
  funext j
  unfold upd
  by_cases h : j = i.toNat
  · rw [if_pos h, if_pos (by omega)]
  · rw [if_neg h, if_neg (by omega)]
theorem mj_iast (hJ : OkJ G own ini cc maxL d nC nS J) {k n : Nat} {i z : Int} (hd : decode cc pc = .ok (.iastore, 1)) (hk : M.2.2[k]? = some (16, n)) (h0 : 0 ≤ i) (hi : i < n) (kk : J (pc + 1) ls st (upI M.1 k i z, M.2)) : J pc ls (vi z :: vi i :: vr k :: st) M := by
  obtain ⟨p, e, s, m, args, below, meth, c0, R, α0, N0, n0, Qf, ⟨hx, hb, hml, hown, hin⟩, ⟨hts, hbs, hK, hE⟩, hR, rfl⟩ := hJ
  intro α H locs la hw
  have hs := hw.2.2.2.2.1
  have hiR : inR i := ok_h (ok_t hs)
  have he := wd_at (G := G) (α := α) hk
  rw [cE_16] at he
  refine va_iast hx hb hK hw.2.1.1 hw.2.1.2.1 hw.2.1.2.2 k 0 he rfl (i32_pin hiR h0 hi) hd (fun H1 locs1 hP hD hS => ?_)
  have e := wd_set (G := G) (α := α) (M := M) (M' := (upI M.1 k i z, M.2)) (e := .inl (G.2.2.1.1, n, .inl (upd (fun j => i32 (M.1 k j)) (i32 i).toNatClampNeg (i32 z)))) hk rfl (fun a ha => upI_ne ha) (fun _ _ => rfl)
    (by
      rw [cE_16, i32_c hiR, upd_fn h0]
      congr 4
      funext j
      show _ = i32 (upI M.1 k i z k j)
      rw [upI_at])
  rw [e] at hP hD
  exact kk α H1 locs1 la (Wi_put hw rfl hP hD hS (okM_upI hw.2.2.1 (ok_h hs)) (ok_t (ok_t (ok_t hs))))
theorem mj_zast (hJ : OkJ G own ini cc maxL d nC nS J) {k n : Nat} {i z : Int} (hd : decode cc pc = .ok (.bastore, 1)) (hk : M.2.2[k]? = some (17, n)) (h0 : 0 ≤ i) (hi : i < n) (hz : z = 0 ∨ z = 1) (kk : J (pc + 1) ls st (upI M.1 k i z, M.2)) : J pc ls (vi z :: vi i :: vr k :: st) M := by
  obtain ⟨p, e, s, m, args, below, meth, c0, R, α0, N0, n0, Qf, ⟨hx, hb, hml, hown, hin⟩, ⟨hts, hbs, hK, hE⟩, hR, rfl⟩ := hJ
  intro α H locs la hw
  have hs := hw.2.2.2.2.1
  have hiR : inR i := ok_h (ok_t hs)
  have he := wd_at (G := G) (α := α) hk
  rw [cE_17] at he
  refine va_zast hx hb hK hw.2.1.1 hw.2.1.2.1 hw.2.1.2.2 k 1 he rfl (i32_pin hiR h0 hi) hd (fun H1 locs1 hP hD hS => ?_)
  have hnz : vp_nar .boolean (i32 z) = i32 z := by rcases hz with rfl | rfl <;> rfl
  rw [hnz] at hP hD
  have e := wd_set (G := G) (α := α) (M := M) (M' := (upI M.1 k i z, M.2)) (e := .inl (G.2.2.1.2.1, n, .inl (upd (fun j => i32 (M.1 k j)) (i32 i).toNatClampNeg (i32 z)))) hk rfl (fun a ha => upI_ne ha) (fun _ _ => rfl)
    (by
      rw [cE_17, i32_c hiR, upd_fn h0]
      congr 4
      funext j
      show _ = i32 (upI M.1 k i z k j)
      rw [upI_at])
  rw [e] at hP hD
  exact kk α H1 locs1 la (Wi_put hw rfl hP hD hS (okM_upI hw.2.2.1 (ok_h hs)) (ok_t (ok_t (ok_t hs))))
theorem mj_aald (hJ : OkJ G own ini cc maxL d nC nS J) {k n r kd : Nat} {i : Int} (hd : decode cc pc = .ok (.aaload, 1)) (hk : M.2.2[k]? = some (kd, n)) (hkd : kd = 18 ∨ kd = 19) (h0 : 0 ≤ i) (hi : i < n) (hr : M.2.1 k i = some r) (kk : J (pc + 1) ls (vr r :: st) M) : J pc ls (vi i :: vr k :: st) M := by
  obtain ⟨p, e, s, m, args, below, meth, c0, R, α0, N0, n0, Qf, ⟨hx, hb, hml, hown, hin⟩, ⟨hts, hbs, hK, hE⟩, hR, rfl⟩ := hJ
  intro α H locs la hw
  have hs := hw.2.2.2.2.1
  have hiR : inR i := ok_h hs
  have he := wd_at (G := G) (α := α) hk
  have hpi := i32_pin hiR h0 hi
  have hlt : (i32 i).toNatClampNeg < n := by rw [i32_c hiR]; omega
  have hk2 := kk α H locs la (Wi_st hw (ok_cons (hw.2.2.1.2 k i r hr) (ok_t (ok_t hs))))
  have hv : ((M.2.1 k (((i32 i).toNatClampNeg : Nat) : Int)).map α) = some (α r) := by rw [i32_c hiR, toN h0, hr]; rfl
  rcases hkd with rfl | rfl
  · rw [cE_18] at he
    exact W.aald (v := .ref (α r)) (ty := .array .int) hx hb (hw.2.1.1 k _ he) ((hK.2 2 _ rfl).1 n (fun j => va_rf ((M.2.1 k j).map α))) rfl (fun q => by cases q) (by show ¬ (i32 i < 0 ∨ (arrV _ _ _).slots.size ≤ _); rw [arrV_size]; exact hpi) (by show (arrV _ _ _).slots[_]? = _; rw [arrV_read _ _ hlt]; exact congrArg (fun o => some (va_rf o)) hv) rfl rfl hd hk2
  · rw [cE_19] at he
    exact W.aald (v := .ref (α r)) (ty := .object "WaterThanks$Sheet") hx hb (hw.2.1.1 k _ he) ((hK.2 3 _ rfl).1 n (fun j => va_rf ((M.2.1 k j).map α))) rfl (fun q => by cases q) (by show ¬ (i32 i < 0 ∨ (arrV _ _ _).slots.size ≤ _); rw [arrV_size]; exact hpi) (by show (arrV _ _ _).slots[_]? = _; rw [arrV_read _ _ hlt]; exact congrArg (fun o => some (va_rf o)) hv) rfl rfl hd hk2
theorem mj_alen (hJ : OkJ G own ini cc maxL d nC nS J) {k n : Nat} (hd : decode cc pc = .ok (.arraylength, 1)) (hk : M.2.2[k]? = some (16, n)) (hn : n < 2147483648) (kk : J (pc + 1) ls (vi n :: st) M) : J pc ls (vr k :: st) M := by
  obtain ⟨p, e, s, m, args, below, meth, c0, R, α0, N0, n0, Qf, ⟨hx, hb, hml, hown, hin⟩, ⟨hts, hbs, hK, hE⟩, hR, rfl⟩ := hJ
  intro α H locs la hw
  have hs := hw.2.2.2.2.1
  have he := wd_at (G := G) (α := α) hk
  rw [cE_16] at he
  exact va_alen (ty := .int) hx hb hK hw.2.1.1 k 0 he rfl (v := i32 n) (Int32.ofInt_eq_ofNat).symm hd (kk α H locs la (Wi_st hw (ok_cons ⟨by omega, by omega⟩ (ok_t hs))))
/-! what lies outside -/
theorem gA_of {s : State} {α0 : Nat → Nat} {N0 n0 : Nat} {α : Nat → Nat} {H : Heap} {locs : List Loc} {la : Array Slot} (h : Wi G s α0 N0 n0 maxL nC nS α H locs la ls st M) {k : Nat} (hk : 1000 ≤ k) : α k = gA G k := h.1.2 k hk
theorem mj_tald (hJ : OkJ G own ini cc maxL d nC nS J) {t n : Nat} {f : Int → Int} {i : Int} (hd : decode cc pc = .ok (.iaload, 1)) (ht : t < 6) (hG : gT G t = (n, f)) (h0 : 0 ≤ i) (hi : i < n) (hR0 : inR (f i)) (kk : J (pc + 1) ls (vi (f i) :: st) M) : J pc ls (vi i :: vr (2000 + t) :: st) M := by
  obtain ⟨p, e, s, m, args, below, meth, c0, R, α0, N0, n0, Qf, ⟨hx, hb, hml, hown, hin⟩, ⟨hts, hbs, hK, hE⟩, hR, rfl⟩ := hJ
  intro α H locs la hw
  have hs := hw.2.2.2.2.1
  have hiR : inR i := ok_h hs
  have hT := hE.2.1 t ht
  rw [hG] at hT
  have hk2 := kk α H locs la (Wi_st hw (ok_cons hR0 (ok_t (ok_t hs))))
  have e2 : toV α (vr (2000 + t)) = .ref (gA G (2000 + t)) := congrArg Value.ref (gA_of hw (by omega))
  rw [List.map_cons, List.map_cons, e2]
  exact va_ti hx hb hT hw.2.1.2.2 (i32_pin hiR h0 hi) (by rw [i32_c hiR, toN h0]; rfl) hd hk2
theorem mj_tlen (hJ : OkJ G own ini cc maxL d nC nS J) {t n : Nat} {f : Int → Int} (hd : decode cc pc = .ok (.arraylength, 1)) (ht : t < 6) (hG : gT G t = (n, f)) (hn : n < 2147483648) (kk : J (pc + 1) ls (vi n :: st) M) : J pc ls (vr (2000 + t) :: st) M := by
  obtain ⟨p, e, s, m, args, below, meth, c0, R, α0, N0, n0, Qf, ⟨hx, hb, hml, hown, hin⟩, ⟨hts, hbs, hK, hE⟩, hR, rfl⟩ := hJ
  intro α H locs la hw
  have hs := hw.2.2.2.2.1
  have hT := hE.2.1 t ht
  rw [hG] at hT
  have hk2 := kk α H locs la (Wi_st hw (ok_cons ⟨by omega, by omega⟩ (ok_t hs)))
  have e2 : toV α (vr (2000 + t)) = .ref (gA G (2000 + t)) := congrArg Value.ref (gA_of hw (by omega))
  rw [List.map_cons, e2]
  exact va_tlen hx hb hT hw.2.1.2.2 (v := i32 n) (Int32.ofInt_eq_ofNat).symm hd hk2
theorem mj_gst (hJ : OkJ G own ini cc maxL d nC nS J) {t idx : Nat} (hd : decode cc pc = .ok (.getstatic idx, 3)) (ht : t < 5) (hl : Cond.fieldLink own idx (zTb t).1 (zTb t).2 "[I" ∈ lw_gd) (kk : J (pc + 3) ls (vr (2000 + t) :: st) M) : J pc ls st M := by
  obtain ⟨p, e, s, m, args, below, meth, c0, R, α0, N0, n0, Qf, ⟨hx, hb, hml, hown, hin⟩, ⟨hts, hbs, hK, hE⟩, hR, rfl⟩ := hJ
  intro α H locs la hw
  have hs := hw.2.2.2.2.1
  have hk2 := kk α H locs la (Wi_st hw (ok_cons (Or.inr (by omega)) hs))
  have e2 : toV α (vr (2000 + t)) = .ref (gA G (2000 + t)) := congrArg Value.ref (gA_of hw (by omega))
  rw [List.map_cons, e2] at hk2
  exact va_gets hx hb (hE.2.2.1 t ht) hw.2.1.2.2 hown (hts _ hl) (fun _ h => h) hd hk2
theorem mj_gstN (hJ : OkJ G own ini cc maxL d nC nS J) {t idx : Nat} {host : String} (hd : decode cc pc = .ok (.getstatic idx, 3)) (ht : t < 5) (hl : Cond.fieldLinkNest own idx (zTb t).1 (zTb t).2 "[I" host ∈ nestW) (kk : J (pc + 3) ls (vr (2000 + t) :: st) M) : J pc ls st M := by
  obtain ⟨p, e, s, m, args, below, meth, c0, R, α0, N0, n0, Qf, ⟨hx, hb, hml, hown, hin⟩, ⟨hts, hbs, hK, hE⟩, hR, rfl⟩ := hJ
  intro α H locs la hw
  have hs := hw.2.2.2.2.1
  have hk2 := kk α H locs la (Wi_st hw (ok_cons (Or.inr (by omega)) hs))
  have e2 : toV α (vr (2000 + t)) = .ref (gA G (2000 + t)) := congrArg Value.ref (gA_of hw (by omega))
  rw [List.map_cons, e2] at hk2
  exact va_getsN hx hb (hE.2.2.1 t ht) hw.2.1.2.2 hown (va_Nw.use rfl (hE.2.2.2.2.2.1 _ hl)) (fun _ h => h) hd hk2
theorem mj_gsC (hJ : OkJ G own ini cc maxL d nC nS J) {idx : Nat} (hd : decode cc pc = .ok (.getstatic idx, 3)) (hl : Cond.fieldLink own idx "java/lang/String" "COMPACT_STRINGS" "Z" ∈ lw_gd) (kk : J (pc + 3) ls (vi 1 :: st) M) : J pc ls st M := by
  obtain ⟨p, e, s, m, args, below, meth, c0, R, α0, N0, n0, Qf, ⟨hx, hb, hml, hown, hin⟩, ⟨hts, hbs, hK, hE⟩, hR, rfl⟩ := hJ
  intro α H locs la hw
  have hs := hw.2.2.2.2.1
  exact va_gets hx hb hE.2.2.2.1 hw.2.1.2.2 hown (hts _ hl) (fun _ h => h) hd (kk α H locs la (Wi_st hw (ok_cons ⟨by omega, by omega⟩ hs)))
def sioV (G : GE) : Vl := if (gT G 10).1 = 0 then vu else vr 2010
theorem mj_gsF (hJ : OkJ G own ini cc maxL d nC nS J) {idx : Nat} (hd : decode cc pc = .ok (.getstatic idx, 3)) (hl : Cond.fieldLink own idx "jdk/internal/util/Preconditions" "SIOOBE_FORMATTER" "Ljava/util/function/BiFunction;" ∈ lw_gd) (kk : J (pc + 3) ls (sioV G :: st) M) : J pc ls st M := by
  obtain ⟨p, e, s, m, args, below, meth, c0, R, α0, N0, n0, Qf, ⟨hx, hb, hml, hown, hin⟩, ⟨hts, hbs, hK, hE⟩, hR, rfl⟩ := hJ
  intro α H locs la hw
  have hs := hw.2.2.2.2.1
  have ho : okV M.2.2.length (sioV G) := by
    unfold sioV
    split
    · exact trivial
    · exact Or.inr (by omega)
  have hk2 := kk α H locs la (Wi_st hw (ok_cons ho hs))
  have e2 : toV α (sioV G) = if (gT G 10).1 = 0 then .null else .ref (gA G 2010) := by
    unfold sioV
    split
    · rfl
    · exact congrArg Value.ref (gA_of hw (by omega))
  rw [List.map_cons, e2] at hk2
  exact va_gets hx hb hE.2.2.2.2.1 hw.2.1.2.2 hown (hts _ hl) (fun _ h => h) hd hk2
theorem mj_ldcS (hJ : OkJ G own ini cc maxL d nC nS J) {i idx : Nat} (hd : decode cc pc = .ok (.ldc idx, 2)) (hi : i < 22) (h1 : (sTx i).1 = own) (h2 : (sTx i).2.1 = idx) (kk : J (pc + 2) ls (vr (1000 + i) :: st) M) : J pc ls st M := by
  obtain ⟨p, e, s, m, args, below, meth, c0, R, α0, N0, n0, Qf, ⟨hx, hb, hml, hown, hin⟩, ⟨hts, hbs, hK, hE⟩, hR, rfl⟩ := hJ
  intro α H locs la hw
  have hs := hw.2.2.2.2.1
  have hk2 := kk α H locs la (Wi_st hw (ok_cons (Or.inr (by omega)) hs))
  have e2 : toV α (vr (1000 + i)) = .ref (gA G (1000 + i)) := congrArg Value.ref (gA_of hw (by omega))
  rw [List.map_cons, e2] at hk2
  have hZ := (hE.1 i hi).1
  rw [h1, h2] at hZ
  exact va_ldcS hx hb hown hZ hd hk2
theorem mj_strV (hJ : OkJ G own ini cc maxL d nC nS J) {i idx : Nat} (hd : decode cc pc = .ok (.getfield idx, 3)) (hi : i < 22) (hl : Cond.fieldLink own idx "java/lang/String" "value" "[B" ∈ lw_gd) (kk : J (pc + 3) ls (vr (1100 + i) :: st) M) : J pc ls (vr (1000 + i) :: st) M := by
  obtain ⟨p, e, s, m, args, below, meth, c0, R, α0, N0, n0, Qf, ⟨hx, hb, hml, hown, hin⟩, ⟨hts, hbs, hK, hE⟩, hR, rfl⟩ := hJ
  intro α H locs la hw
  have hs := hw.2.2.2.2.1
  have hk2 := kk α H locs la (Wi_st hw (ok_cons (Or.inr (by omega)) (ok_t hs)))
  have e2 : toV α (vr (1000 + i)) = .ref (gA G (1000 + i)) := congrArg Value.ref (gA_of hw (by omega))
  have e3 : toV α (vr (1100 + i)) = .ref (gA G (1100 + i)) := congrArg Value.ref (gA_of hw (by omega))
  rw [List.map_cons, e3] at hk2
  rw [List.map_cons, e2]
  exact vk_getf hx hb (hE.1 i hi).2.2.2.1 hw.2.1.2.2 hown (hts _ hl) (fun _ h => h) hd hk2
theorem mj_strC (hJ : OkJ G own ini cc maxL d nC nS J) {i idx : Nat} (hd : decode cc pc = .ok (.getfield idx, 3)) (hi : i < 22) (hl : Cond.fieldLink own idx "java/lang/String" "coder" "B" ∈ lw_gd) (kk : J (pc + 3) ls (vi 0 :: st) M) : J pc ls (vr (1000 + i) :: st) M := by
  obtain ⟨p, e, s, m, args, below, meth, c0, R, α0, N0, n0, Qf, ⟨hx, hb, hml, hown, hin⟩, ⟨hts, hbs, hK, hE⟩, hR, rfl⟩ := hJ
  intro α H locs la hw
  have hs := hw.2.2.2.2.1
  have hk2 := kk α H locs la (Wi_st hw (ok_cons inR_0 (ok_t hs)))
  have e2 : toV α (vr (1000 + i)) = .ref (gA G (1000 + i)) := congrArg Value.ref (gA_of hw (by omega))
  rw [List.map_cons, e2]
  exact vk_getf hx hb (hE.1 i hi).2.2.1 hw.2.1.2.2 hown (hts _ hl) (fun _ h => h) hd hk2
theorem sTx_R : ∀ i, i < 22 → ((sTx i).2.2.2.length < 10 ∧ ∀ x ∈ (sTx i).2.2.2, 0 ≤ x ∧ x < 128) := by decide +kernel
theorem sTx_get {i : Nat} (hi : i < 22) {j : Int} (h0 : 0 ≤ j) (h1 : j < (sTx i).2.2.2.length) : 0 ≤ (sTx i).2.2.2.getD j.toNat 0 ∧ (sTx i).2.2.2.getD j.toNat 0 < 128 := by
  have hj : j.toNat < (sTx i).2.2.2.length := by omega
  have : (sTx i).2.2.2.getD j.toNat 0 ∈ (sTx i).2.2.2 := by
    rw [List.getD_eq_getElem?_getD, List.getElem?_eq_getElem hj]
    exact List.getElem_mem hj
  exact (sTx_R i hi).2 _ this
theorem mj_sald (hJ : OkJ G own ini cc maxL d nC nS J) {t : Nat} {i : Int} (hd : decode cc pc = .ok (.baload, 1)) (ht : t < 22) (h0 : 0 ≤ i) (hi : i < (sTx t).2.2.2.length) (kk : J (pc + 1) ls (vi ((sTx t).2.2.2.getD i.toNat 0) :: st) M) : J pc ls (vi i :: vr (1100 + t) :: st) M := by
  obtain ⟨p, e, s, m, args, below, meth, c0, R, α0, N0, n0, Qf, ⟨hx, hb, hml, hown, hin⟩, ⟨hts, hbs, hK, hE⟩, hR, rfl⟩ := hJ
  intro α H locs la hw
  have hs := hw.2.2.2.2.1
  have hiR : inR i := ok_h hs
  have hg := sTx_get ht h0 hi
  have hk2 := kk α H locs la (Wi_st hw (ok_cons ⟨by omega, by omega⟩ (ok_t (ok_t hs))))
  have e2 : toV α (vr (1100 + t)) = .ref (gA G (1100 + t)) := congrArg Value.ref (gA_of hw (by omega))
  rw [List.map_cons, List.map_cons, e2]
  exact va_tb hx hb (hE.1 t ht).2.2.2.2 hw.2.1.2.2 (i32_pin hiR h0 hi) (by rw [i32_c hiR]; rfl) hd hk2
theorem mj_slen (hJ : OkJ G own ini cc maxL d nC nS J) {t : Nat} (hd : decode cc pc = .ok (.arraylength, 1)) (ht : t < 22) (kk : J (pc + 1) ls (vi (sTx t).2.2.2.length :: st) M) : J pc ls (vr (1100 + t) :: st) M := by
  obtain ⟨p, e, s, m, args, below, meth, c0, R, α0, N0, n0, Qf, ⟨hx, hb, hml, hown, hin⟩, ⟨hts, hbs, hK, hE⟩, hR, rfl⟩ := hJ
  intro α H locs la hw
  have hs := hw.2.2.2.2.1
  have hl := (sTx_R t ht).1
  have hk2 := kk α H locs la (Wi_st hw (ok_cons ⟨by omega, by omega⟩ (ok_t hs)))
  have e2 : toV α (vr (1100 + t)) = .ref (gA G (1100 + t)) := congrArg Value.ref (gA_of hw (by omega))
  rw [List.map_cons, e2]
  exact va_tlen hx hb (hE.1 t ht).2.2.2.2 hw.2.1.2.2 (v := i32 (sTx t).2.2.2.length) (Int32.ofInt_eq_ofNat).symm hd hk2
end MJC
