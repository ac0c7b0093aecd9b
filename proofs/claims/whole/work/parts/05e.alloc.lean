/-! THE LOGIC, e: new cells, and copies of rows -/
def clI (I : Nat → Int → Int) (k : Nat) : Nat → Int → Int := fun a b => if k ≤ a then 0 else I a b
def clR (R : Nat → Int → Option Nat) (k : Nat) : Nat → Int → Option Nat := fun a b => if k ≤ a then none else R a b
/-- the memory with one more cell, all 0 -/
def pushM (M : Mem) (s : Nat × Nat) : Mem := (clI M.1 M.2.2.length, clR M.2.1 M.2.2.length, M.2.2 ++ [s])
theorem clI_lt {I : Nat → Int → Int} {k a : Nat} (h : a < k) : clI I k a = I a := funext fun b => by simp [clI, Nat.not_le.mpr h]
theorem clR_lt {R : Nat → Int → Option Nat} {k a : Nat} (h : a < k) : clR R k a = R a := funext fun b => by simp [clR, Nat.not_le.mpr h]
theorem clI_ge {I : Nat → Int → Int} {k a : Nat} {b : Int} (h : k ≤ a) : clI I k a b = 0 := by simp [clI, h]
theorem clR_ge {R : Nat → Int → Option Nat} {k a : Nat} {b : Int} (h : k ≤ a) : clR R k a b = none := by simp [clR, h]
theorem ssum_app (A B : List (Nat × Nat)) : ssum (A ++ B) = ssum A + ssum B := by simp [ssum]
theorem okM_push {M : Mem} (h : okM M) (s : Nat × Nat) : okM (pushM M s) := by
  refine ⟨fun a b => ?_, fun a b r => ?_⟩
  · show inR (clI M.1 M.2.2.length a b)
    unfold clI
    split
    · exact inR_0
    · exact h.1 a b
  · show clR M.2.1 M.2.2.length a b = some r → _
    unfold clR
    split
    · intro e; cases e
    · intro e
      rcases h.2 a b r e with q | q
      · left
        show r < (M.2.2 ++ [s]).length
        rw [List.length_append]
        omega
      · exact Or.inr q
theorem cE_agree {G : GE} {α α' : Nat → Nat} {M M' : Mem} {k : Nat} {s : Nat × Nat} (h1 : M'.1 k = M.1 k) (h2 : M'.2.1 k = M.2.1 k) (h3 : ∀ j r, M.2.1 k j = some r → α' r = α r) : cE G α' M' k s = cE G α M k s := by
  have hm : ∀ j, (M'.2.1 k j).map α' = (M.2.1 k j).map α := fun j => by
    rw [h2]
    cases hr : M.2.1 k j with
    | none => rfl
    | some r => exact congrArg some (h3 j r hr)
  have hf : cF α' M' k s.1 = cF α M k s.1 := by
    funext j
    unfold cF
    rw [hm, h1]
  have hg : (fun j : Nat => (M'.2.1 k j).map α') = (fun j : Nat => (M.2.1 k j).map α) := funext fun j => hm j
  unfold cE
  rw [hf, h1, hg]
theorem wd_push {G : GE} {α α' : Nat → Nat} {M M' : Mem} {s : Nat × Nat} {q : Nat} {e : va_E} (hS : M'.2.2 = M.2.2 ++ [s]) (h1 : ∀ a, a < M.2.2.length → M'.1 a = M.1 a ∧ M'.2.1 a = M.2.1 a) (hα : ∀ a, a < M.2.2.length → α' a = α a) (hα2 : ∀ a, 1000 ≤ a → α' a = α a) (hq : α' M.2.2.length = q) (he : e = cE G α' M' M.2.2.length s) (hm : okM M) : wd G α M ++ [(q, e)] = wd G α' M' := by
  refine wd_ext (by rw [List.length_append, wd_len, hS, List.length_append]; rfl) fun k t ht => ?_
  rw [hS] at ht
  by_cases hk : k < M.2.2.length
  · rw [List.getElem?_append_left hk] at ht
    rw [List.getElem?_append_left (by rw [wd_len]; exact hk), wd_at ht, hα k hk]
    rw [cE_agree (h1 k hk).1 (h1 k hk).2 (fun j r hr => (hm.2 k j r hr).elim (hα r) (hα2 r))]
  · rw [List.getElem?_append_right (by omega)] at ht
    have hl := (List.getElem?_eq_some_iff.mp ht).1
    have hk0 : k = M.2.2.length := by simp at hl; omega
    subst hk0
    rw [List.getElem?_append_right (by rw [wd_len]; exact Nat.le_refl _), wd_len, Nat.sub_self]
    rw [Nat.sub_self] at ht
    cases ht
    rw [hq, he]
    rfl
def aUp (α : Nat → Nat) (k q : Nat) : Nat → Nat := fun a => if a = k then q else α a
theorem aUp_at {α : Nat → Nat} {k q : Nat} : aUp α k q k = q := by simp [aUp]
theorem aUp_ne {α : Nat → Nat} {k q a : Nat} (h : a ≠ k) : aUp α k q a = α a := by simp [aUp, h]
theorem wd_pushM {G : GE} {α : Nat → Nat} {M : Mem} {s : Nat × Nat} {q : Nat} (hm : okM M) (hl : M.2.2.length < 1000) : wd G α M ++ [(q, cE G (aUp α M.2.2.length q) (pushM M s) M.2.2.length s)] = wd G (aUp α M.2.2.length q) (pushM M s) :=
  wd_push rfl (fun a ha => ⟨clI_lt ha, clR_lt ha⟩) (fun a ha => aUp_ne (by omega)) (fun a ha => aUp_ne (by omega)) aUp_at rfl hm
/-- behind one new cell -/
theorem Wi_push {G : GE} {s : State} {α0 : Nat → Nat} {N0 n0 maxL nC nS : Nat} {α : Nat → Nat} {H H1 : Heap} {locs locs1 : List Loc} {la : Array Slot} {ls st st' : List Vl} {M : Mem} {sh : Nat × Nat} {q : Nat} (h : Wi G s α0 N0 n0 maxL nC nS α H locs la ls st M) (hC : M.2.2.length + 1 ≤ nC) (hS : ssum M.2.2 + sh.2 ≤ nS)
    (hP : va_P (gD G) vwCl (wd G (aUp α M.2.2.length q) (pushM M sh)) H1) (hD : va_D (gB G) (wd G (aUp α M.2.2.length q) (pushM M sh))) (hSS : va_S (gB G) s.heap H1 locs1) (hst : ∀ v ∈ st', okV (M.2.2.length + 1) v) : Wi G s α0 N0 n0 maxL nC nS (aUp α M.2.2.length q) H1 locs1 la ls st' (pushM M sh) := by
  obtain ⟨⟨a1, a1'⟩, a2, a3, a4, a5, a6, b1, b2, b3, b4, b5⟩ := h
  have hlen : (pushM M sh).2.2.length = M.2.2.length + 1 := by show (M.2.2 ++ [sh]).length = _; simp
  have hsum : ssum (pushM M sh).2.2 = ssum M.2.2 + sh.2 := by show ssum (M.2.2 ++ [sh]) = _; rw [ssum_app]; simp [ssum]
  have g1 : ∀ k, k < M.2.2.length → aUp α M.2.2.length q k = α k := fun k hk => aUp_ne (by omega)
  have g3 : ∀ k, 1000 ≤ k → aUp α M.2.2.length q k = α k := fun k hk => aUp_ne (by omega)
  refine ⟨⟨fun k hk => (g1 k (by omega)).trans (a1 k hk), fun k hk => (g3 k hk).trans (a1' k hk)⟩, ⟨hP, hD, hSS⟩, okM_push a3 sh, ?_, ?_, lvs_agree g1 g3 a4 a6, ?_⟩
  · rw [hlen]; exact fun v hv => (a4 v hv).mono (by omega)
  · rw [hlen]; exact hst
  · rw [hlen, hsum]; omega
theorem stk_push {α : Nat → Nat} {N q : Nat} {st : List Vl} (hN : N < 1000) (hs : ∀ v ∈ st, okV N v) : st.map (toV (aUp α N q)) = st.map (toV α) := map_agree (N := N) (fun k hk => aUp_ne (by omega)) (fun k hk => aUp_ne (by omega)) hs
theorem tyOf_k : ∀ c, c < 10 → ∀ j, j < 44 → (tyOf c j = .int ∨ tyOf c j = .boolean ∨ isRf (tyOf c j) = true) := by decide +kernel
theorem vw_le {c : Nat} {C : String} {T : u_T} {N : Nat} (h : vwCl[c]? = some (C, T, N)) : c < 10 ∧ N ≤ 44 := by
  match c, h with
  | 0, h => cases h; omega
  | 1, h => cases h; omega
  | 2, h => cases h; omega
  | 3, h => cases h; omega
  | 4, h => cases h; omega
  | 5, h => cases h; omega
  | 6, h => cases h; omega
  | 7, h => cases h; omega
  | 8, h => cases h; omega
  | 9, h => cases h; omega
  | k + 10, h => simp at h
theorem def_ref {ty : FieldType} (h : isRf ty = true) : defaultValue ty = .null := by
  cases ty <;> first | rfl | cases h
section MJF
variable {G : GE} {own : String} {ini : Bool} {cc : ByteArray} {maxL d nC nS : Nat} {J : Jd} {pc : Nat} {ls st : List Vl} {M : Mem}
theorem mj_new (hJ : OkJ G own ini cc maxL d nC nS J) {idx ci N : Nat} {C : String} {T : u_T} (hd : decode cc pc = .ok (.new idx, 3)) (hc : vwCl[ci]? = some (C, T, N)) (h1 : Cond.classLink own idx C ∈ lw_gd) (h2 : Cond.instantiable C N ∈ lw_gd) (h3 : Cond.initialized C ∈ lw_gd) (hC : M.2.2.length + 1 ≤ nC) (hS : ssum M.2.2 + N ≤ nS) (kk : J (pc + 3) ls (vr M.2.2.length :: st) (pushM M (ci, N))) : J pc ls st M := by
  obtain ⟨p, e, s, m, args, below, meth, c0, R, α0, N0, n0, Qf, ⟨hx, hb, hml, hown, hin⟩, ⟨hts, hbs, hK, hE⟩, ⟨r1, r2, r3, r4⟩, rfl⟩ := hJ
  intro α H locs la hw
  have hs := hw.2.2.2.2.1
  have hb9 := hw.2.2.2.2.2.2
  have ho := cl_ok hc
  have hle := vw_le hc
  have hN9 : M.2.2.length < 1000 := by omega
  refine va_new (fs := (List.range N).map (cF (aUp α M.2.2.length 0) (pushM M (ci, N)) M.2.2.length ci)) hx hb hts ho.1 (tyOf ci) ho.2.1 hown (hts _ h1) (hts _ h2) (hts _ h3) hK hw.2.1.1 hw.2.1.2.1 hw.2.1.2.2 (fun q hq => Nat.le_trans hbs hq) hc ?_ (by omega) (by omega) hd (fun q H1 hP hD hSS => ?_)
  · intro j hj
    have e1 : vp_V ((List.range N).map (cF (aUp α M.2.2.length 0) (pushM M (ci, N)) M.2.2.length ci)) j = cF (aUp α M.2.2.length 0) (pushM M (ci, N)) M.2.2.length ci j := by
      unfold vp_V
      rw [List.getD_eq_getElem?_getD, cF_at hj]
      rfl
    rw [e1]
    unfold cF
    rw [show (pushM M (ci, N)).2.1 M.2.2.length j = none from clR_ge (Nat.le_refl _), show (pushM M (ci, N)).1 M.2.2.length j = 0 from clI_ge (Nat.le_refl _)]
    rcases tyOf_k ci hle.1 j (by omega) with h | h | h
    · rw [h, if_neg (by unfold fR; rw [h]; decide)]; rfl
    · rw [h, if_neg (by unfold fR; rw [h]; decide)]; rfl
    · rw [def_ref h, if_pos (show fR ci j = true from h)]; rfl
  · have e2 : (Sum.inr (ci, (List.range N).map (cF (aUp α M.2.2.length 0) (pushM M (ci, N)) M.2.2.length ci)) : va_E) = cE G (aUp α M.2.2.length q) (pushM M (ci, N)) M.2.2.length (ci, N) := by
      rw [cE_o ho.2.2.2]
      congr 3
      funext j
      unfold cF
      rw [show (pushM M (ci, N)).2.1 M.2.2.length j = none from clR_ge (Nat.le_refl _)]
      rfl
    rw [e2, wd_pushM hw.2.2.1 hN9] at hP hD
    have hk := kk (aUp α M.2.2.length q) H1 locs la (Wi_push hw hC hS hP hD hSS (ok_cons (Or.inl (by omega)) (fun v hv => (hs v hv).mono (by omega))))
    have e3 : (pushM M (ci, N)).2.2.length - N0 = M.2.2.length - N0 + 1 := by show (M.2.2 ++ [(ci, N)]).length - N0 = _; rw [List.length_append]; show M.2.2.length + 1 - N0 = _; omega
    have e4 : ssum (pushM M (ci, N)).2.2 - n0 = ssum M.2.2 - n0 + N := by show ssum (M.2.2 ++ [(ci, N)]) - n0 = _; rw [ssum_app]; show ssum M.2.2 + (N + 0) - n0 = _; omega
    have e5 : (vr M.2.2.length :: st).map (toV (aUp α M.2.2.length q)) = .ref q :: st.map (toV α) := by
      rw [List.map_cons, stk_push hN9 hs]
      show Value.ref (aUp α M.2.2.length q M.2.2.length) :: _ = _
      rw [aUp_at]
    rw [e3, e4, e5] at hk
    exact hk
theorem mj_newa (hJ : OkJ G own ini cc maxL d nC nS J) {n : Nat} {at' : ArrayType} (kd : Nat) (hd : decode cc pc = .ok (.newarray at', 2)) (hat : (at' = .int ∧ kd = 16) ∨ (at' = .boolean ∧ kd = 17)) (h1 : Cond.arrayClass .int ∈ lw_gd) (h2 : Cond.arrayClass .boolean ∈ lw_gd) (hn : n ≤ 100000) (hC : M.2.2.length + 1 ≤ nC) (hS : ssum M.2.2 + n ≤ nS) (kk : J (pc + 2) ls (vr M.2.2.length :: st) (pushM M (kd, n))) : J pc ls (vi n :: st) M := by
  obtain ⟨p, e, s, m, args, below, meth, c0, R, α0, N0, n0, Qf, ⟨hx, hb, hml, hown, hin⟩, ⟨hts, hbs, hK, hE⟩, ⟨r1, r2, r3, r4⟩, rfl⟩ := hJ
  intro α H locs la hw
  have hs := ok_t hw.2.2.2.2.1
  have hnR : inR n := ok_h hw.2.2.2.2.1
  have hb9 := hw.2.2.2.2.2.2
  have hN9 : M.2.2.length < 1000 := by omega
  have n1 : ¬ i32 (n : Int) < 0 := fun q => by have := (i32_lt hnR inR_0).mp q; omega
  have n2 : (i32 (n : Int)).toNatClampNeg = n := by rw [i32_c hnR]; exact Int.toNat_natCast n
  have e3 : (pushM M (kd, n)).2.2.length - N0 = M.2.2.length - N0 + 1 := by show (M.2.2 ++ [(kd, n)]).length - N0 = _; rw [List.length_append]; show M.2.2.length + 1 - N0 = _; omega
  have e4 : ssum (pushM M (kd, n)).2.2 - n0 = ssum M.2.2 - n0 + n := by show ssum (M.2.2 ++ [(kd, n)]) - n0 = _; rw [ssum_app]; show ssum M.2.2 + (n + 0) - n0 = _; omega
  have fin : ∀ (q : Nat) (H1 : Heap), va_P (gD G) vwCl (wd G (aUp α M.2.2.length q) (pushM M (kd, n))) H1 → va_D (gB G) (wd G (aUp α M.2.2.length q) (pushM M (kd, n))) → va_S (gB G) s.heap H1 locs → W p G.1 e R s m args below meth c0 H1 locs (M.2.2.length - N0 + 1) (ssum M.2.2 - n0 + n) Qf (F0 m (pc + 2) la (.ref q :: st.map (toV α))) := by
    intro q H1 hP hD hSS
    have hk := kk (aUp α M.2.2.length q) H1 locs la (Wi_push hw hC hS hP hD hSS (ok_cons (Or.inl (by omega)) (fun v hv => (hs v hv).mono (by omega))))
    have e5 : (vr M.2.2.length :: st).map (toV (aUp α M.2.2.length q)) = .ref q :: st.map (toV α) := by
      rw [List.map_cons, stk_push hN9 hs]
      show Value.ref (aUp α M.2.2.length q M.2.2.length) :: _ = _
      rw [aUp_at]
    rw [e3, e4, e5] at hk
    exact hk
  have z0 : (fun j : Nat => i32 ((pushM M (kd, n)).1 M.2.2.length j)) = fun _ => (0 : Int32) := by
    funext j
    rw [show (pushM M (kd, n)).1 M.2.2.length j = 0 from clI_ge (Nat.le_refl _)]
    rfl
  rcases hat with ⟨rfl, rfl⟩ | ⟨rfl, rfl⟩
  · refine va_newa (atype := .int) (ty := .int) (a0 := (n, .inl (fun _ => 0))) hx hb (hts _ h1) rfl hK hw.2.1.1 hw.2.1.2.1 hw.2.1.2.2 (fun q hq => Nat.le_trans hbs hq) (fun _ => rfl) n1 n2 (by show n * 4 ≤ _; omega) (by omega) (by omega) hd (fun q cA H1 hK1 hP hD hSS => ?_)
    have ec : cA = G.2.2.1.1 := Option.some.inj ((hK1.2 4 (cA, .int) rfl).2.symm.trans (hK.2 0 _ rfl).2)
    subst ec
    have e2 : (Sum.inl (G.2.2.1.1, n, .inl (fun _ => (0 : Int32))) : va_E) = cE G (aUp α M.2.2.length q) (pushM M (16, n)) M.2.2.length (16, n) := by rw [cE_16, z0]
    rw [e2, wd_pushM hw.2.2.1 hN9] at hP hD
    exact fin q H1 hP hD hSS
  · refine va_newa (atype := .boolean) (ty := .boolean) (a0 := (n, .inl (fun _ => 0))) hx hb (hts _ h2) rfl hK hw.2.1.1 hw.2.1.2.1 hw.2.1.2.2 (fun q hq => Nat.le_trans hbs hq) (fun _ => rfl) n1 n2 (by show n * 1 ≤ _; omega) (by omega) (by omega) hd (fun q cA H1 hK1 hP hD hSS => ?_)
    have ec : cA = G.2.2.1.2.1 := Option.some.inj ((hK1.2 4 (cA, .boolean) rfl).2.symm.trans (hK.2 1 _ rfl).2)
    subst ec
    have e2 : (Sum.inl (G.2.2.1.2.1, n, .inl (fun _ => (0 : Int32))) : va_E) = cE G (aUp α M.2.2.length q) (pushM M (17, n)) M.2.2.length (17, n) := by rw [cE_17, z0]
    rw [e2, wd_pushM hw.2.2.1 hN9] at hP hD
    exact fin q H1 hP hD hSS
theorem mj_newq (hJ : OkJ G own ini cc maxL d nC nS J) {n idx : Nat} (hd : decode cc pc = .ok (.anewarray idx, 3)) (h1 : Cond.classLink own idx "WaterThanks$Sheet" ∈ lw_gd) (hn : n ≤ 100000) (hC : M.2.2.length + 1 ≤ nC) (hS : ssum M.2.2 + n ≤ nS) (kk : J (pc + 3) ls (vr M.2.2.length :: st) (pushM M (19, n))) : J pc ls (vi n :: st) M := by
  obtain ⟨p, e, s, m, args, below, meth, c0, R, α0, N0, n0, Qf, ⟨hx, hb, hml, hown, hin⟩, ⟨hts, hbs, hK, hE⟩, ⟨r1, r2, r3, r4⟩, rfl⟩ := hJ
  intro α H locs la hw
  have hs := ok_t hw.2.2.2.2.1
  have hnR : inR n := ok_h hw.2.2.2.2.1
  have hb9 := hw.2.2.2.2.2.2
  have hN9 : M.2.2.length < 1000 := by omega
  have n1 : ¬ i32 (n : Int) < 0 := fun q => by have := (i32_lt hnR inR_0).mp q; omega
  have n2 : (i32 (n : Int)).toNatClampNeg = n := by rw [i32_c hnR]; exact Int.toNat_natCast n
  refine va_newq hx hb hown (hts _ h1) hE.2.2.2.2.2.2.1 hK hw.2.1.1 hw.2.1.2.1 hw.2.1.2.2 (fun q hq => Nat.le_trans hbs hq) n1 n2 (by omega) (by omega) (by omega) hd (fun q cA H1 hK1 hP hD hSS => ?_)
  have ec : cA = G.2.2.1.2.2.2 := by
    obtain ⟨kA, comp, -, -, -, z1⟩ := (hK1.2 4 (cA, .object "WaterThanks$Sheet") rfl).2
    obtain ⟨kA2, comp2, -, -, -, z2⟩ := (hK.2 3 _ rfl).2
    exact Option.some.inj (z1.symm.trans z2)
  subst ec
  have e2 : (Sum.inl (G.2.2.1.2.2.2, n, .inr (.inr (.inr (.inr (fun _ => none))))) : va_E) = cE G (aUp α M.2.2.length q) (pushM M (19, n)) M.2.2.length (19, n) := by
    rw [cE_19]
    congr 7
    funext j
    rw [show (pushM M (19, n)).2.1 M.2.2.length j = none from clR_ge (Nat.le_refl _)]
    rfl
  rw [e2, wd_pushM hw.2.2.1 hN9] at hP hD
  have e3 : (pushM M (19, n)).2.2.length - N0 = M.2.2.length - N0 + 1 := by show (M.2.2 ++ [(19, n)]).length - N0 = _; rw [List.length_append]; show M.2.2.length + 1 - N0 = _; omega
  have e4 : ssum (pushM M (19, n)).2.2 - n0 = ssum M.2.2 - n0 + n := by show ssum (M.2.2 ++ [(19, n)]) - n0 = _; rw [ssum_app]; show ssum M.2.2 + (n + 0) - n0 = _; omega
  have hk := kk (aUp α M.2.2.length q) H1 locs la (Wi_push hw hC hS hP hD hSS (ok_cons (Or.inl (by omega)) (fun v hv => (hs v hv).mono (by omega))))
  have e5 : (vr M.2.2.length :: st).map (toV (aUp α M.2.2.length q)) = .ref q :: st.map (toV α) := by
    rw [List.map_cons, stk_push hN9 hs]
    show Value.ref (aUp α M.2.2.length q M.2.2.length) :: _ = _
    rw [aUp_at]
  rw [e3, e4, e5] at hk
  exact hk
theorem mj_oinit (hJ : OkJ G own ini cc maxL d nC nS J) {idx k : Nat} (hd : decode cc pc = .ok (.invokespecial idx, 3)) (h1 : Cond.methodLink own idx Lib.objectInit ∈ lw_gd) (h2 : Cond.instanceMethod Lib.objectInit ∈ lw_gd) (h3 : Cond.code Lib.objectInit ⟨#[0xb1]⟩ 1 none ∈ lw_gd) (hdd : 1 ≤ d) (hst : st.length ≤ 4) (kk : J (pc + 3) ls st M) : J pc ls (vr k :: st) M := by
  obtain ⟨p, e, s, m, args, below, meth, c0, R, α0, N0, n0, Qf, ⟨hx, hb, hml, hown, hin⟩, ⟨hts, hbs, hK, hE⟩, ⟨r1, r2, r3, r4⟩, rfl⟩ := hJ
  intro α H locs la hw
  have hs := hw.2.2.2.2.1
  have hcat := cat_le (α := α) st 4 hst
  exact W.objInit hx hb hown (hts _ h1) (hts _ h2) (hts _ h3) rfl (by rw [hml]; exact hw.2.2.2.2.2.1.1) rfl hd (by omega) (by show 2 * 0 + _ + 12 ≤ R.locals; omega) (kk α H locs la (Wi_st hw (ok_t hs)))
theorem mj_aast (hJ : OkJ G own ini cc maxL d nC nS J) {k n r n2 : Nat} {i : Int} (hd : decode cc pc = .ok (.aastore, 1)) (hk : M.2.2[k]? = some (19, n)) (h0 : 0 ≤ i) (hi : i < n) (hr : M.2.2[r]? = some (3, n2)) (kk : J (pc + 1) ls st (M.1, upR M.2.1 k i (some r), M.2.2)) : J pc ls (vr r :: vi i :: vr k :: st) M := by
  obtain ⟨p, e, s, m, args, below, meth, c0, R, α0, N0, n0, Qf, ⟨hx, hb, hml, hown, hin⟩, ⟨hts, hbs, hK, hE⟩, hR, rfl⟩ := hJ
  intro α H locs la hw
  have hs := hw.2.2.2.2.1
  have hiR : inR i := ok_h (ok_t hs)
  have he := wd_at (G := G) (α := α) hk
  have her := wd_at (G := G) (α := α) hr
  rw [cE_19] at he
  rw [cE_o (by omega)] at her
  refine va_astq (r := (RX3, TX3, 3)) hx hb hK hw.2.1.1 hw.2.1.2.1 hw.2.1.2.2 k 3 r 3 he rfl her rfl (i32_pin hiR h0 hi) hd (fun H1 locs1 hP hD hS => ?_)
  have e := wd_set (G := G) (α := α) (M := M) (M' := (M.1, upR M.2.1 k i (some r), M.2.2)) (e := .inl (G.2.2.1.2.2.2, n, .inr (.inr (.inr (.inr (va_up (fun j => (M.2.1 k j).map α) (i32 i).toNatClampNeg (some (α r)))))))) hk rfl (fun _ _ => rfl) (fun a ha => upR_ne ha)
    (by
      rw [cE_19, i32_c hiR]
      congr 7
      funext j
      show _ = (upR M.2.1 k i (some r) k j).map α
      rw [upR_at]
      unfold va_up
      by_cases h : j = i.toNat
      · rw [if_pos h, if_pos (by omega)]; rfl
      · rw [if_neg h, if_neg (by omega)])
  rw [e] at hP hD
  exact kk α H1 locs1 la (Wi_put hw rfl hP hD hS (okM_upR hw.2.2.1 (ok_h hs)) (ok_t (ok_t (ok_t hs))))
end MJF
