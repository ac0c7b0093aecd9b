/-! THE LOGIC, f: rows of rows; copies -/
/-- the memory with a new row of n rows of m whole numbers -/
def mnaM (M : Mem) (n m : Nat) : Mem :=
  (clI M.1 M.2.2.length, fun a b => if a = M.2.2.length ∧ 0 ≤ b ∧ b < n then some (M.2.2.length + 1 + b.toNat) else clR M.2.1 M.2.2.length a b, M.2.2 ++ (18, n) :: List.replicate n (16, m))
def aMna (α : Nat → Nat) (N n h : Nat) : Nat → Nat := fun a => if N ≤ a ∧ a ≤ N + n then h + (a - N) else α a
theorem arrV_congr {c : ClassId} {N : Nat} {f g : Nat → Value} (h : ∀ j, j < N → f j = g j) : arrV c N f = arrV c N g := by
  unfold arrV
  congr 1
  apply Array.ext
  · simp
  · intro i h1 h2
    simp at h1 h2 ⊢
    exact h i h1
theorem mna_get {M : Mem} {n m k : Nat} {s : Nat × Nat} (h : (mnaM M n m).2.2[k]? = some s) : (k < M.2.2.length ∧ M.2.2[k]? = some s) ∨ (k = M.2.2.length ∧ s = (18, n)) ∨ (M.2.2.length < k ∧ k ≤ M.2.2.length + n ∧ s = (16, m)) := by
  have h' : (M.2.2 ++ (18, n) :: List.replicate n (16, m))[k]? = some s := h
  by_cases hk : k < M.2.2.length
  · rw [List.getElem?_append_left hk] at h'
    exact Or.inl ⟨hk, h'⟩
  · rw [List.getElem?_append_right (by omega)] at h'
    cases hj : k - M.2.2.length with
    | zero =>
      rw [hj] at h'
      cases h'
      exact Or.inr (Or.inl ⟨by omega, rfl⟩)
    | succ j =>
      rw [hj, List.getElem?_cons_succ] at h'
      have hl := (List.getElem?_eq_some_iff.mp h').1
      rw [List.length_replicate] at hl
      exact Or.inr (Or.inr ⟨by omega, by omega, List.eq_of_mem_replicate (List.mem_of_getElem? h')⟩)
theorem wd_get {G : GE} {α : Nat → Nat} {M : Mem} {k : Nat} {q : Nat × va_E} (h : (wd G α M)[k]? = some q) : ∃ s, M.2.2[k]? = some s ∧ q = (α k, cE G α M k s) := by
  have hl := (List.getElem?_eq_some_iff.mp h).1
  rw [wd_len] at hl
  refine ⟨M.2.2[k], List.getElem?_eq_getElem hl, ?_⟩
  have := wd_at (G := G) (α := α) (List.getElem?_eq_getElem hl)
  exact Option.some.inj (h.symm.trans this)
theorem mna_lay {G : GE} {α : Nat → Nat} {M : Mem} {H H1 : Heap} {n m cA cI : Nat} (hP : va_P (gD G) vwCl (wd G α M) H) (hD : va_D (gB G) (wd G α M)) (hm : okM M) (hl : M.2.2.length + n < 1000) (hB : gB G H.size) (hcA : cA = G.2.2.1.2.2.1) (hcI : cI = G.2.2.1.1)
    (f1 : H1.size = H.size + 1 + n) (f2 : H1[H.size]? = some (gwO cA n H.size n)) (f3 : ∀ a : Nat, a < H.size → H1[a]? = H[a]?) (f4 : ∀ j : Nat, j < n → H1[H.size + 1 + j]? = some (gwI cI m)) :
    va_P (gD G) vwCl (wd G (aMna α M.2.2.length n H.size) (mnaM M n m)) H1 ∧ va_D (gB G) (wd G (aMna α M.2.2.length n H.size) (mnaM M n m)) := by
  subst hcA hcI
  have a1 : ∀ k, k < M.2.2.length → aMna α M.2.2.length n H.size k = α k := fun k hk => by unfold aMna; rw [if_neg (by omega)]
  have a2 : ∀ k, 1000 ≤ k → aMna α M.2.2.length n H.size k = α k := fun k hk => by unfold aMna; rw [if_neg (by omega)]
  have a3 : ∀ j, j ≤ n → aMna α M.2.2.length n H.size (M.2.2.length + j) = H.size + j := fun j hj => by unfold aMna; rw [if_pos (by omega)]; omega
  have hlt : ∀ k, k < M.2.2.length → α k < H.size := fun k hk => by
    have h9 := wd_at (G := G) (α := α) (List.getElem?_eq_getElem hk)
    exact (hP k _ h9).lt
  constructor
  · intro k q hq
    obtain ⟨s, hs, rfl⟩ := wd_get hq
    rcases mna_get hs with ⟨hk, hs0⟩ | ⟨rfl, rfl⟩ | ⟨h1, h2, rfl⟩
    · have e1 : cE G (aMna α M.2.2.length n H.size) (mnaM M n m) k s = cE G α M k s := cE_agree (clI_lt hk) (by
        funext b
        show (if k = M.2.2.length ∧ 0 ≤ b ∧ b < n then _ else clR M.2.1 M.2.2.length k b) = _
        rw [if_neg (by omega), clR_lt hk]) (fun j r hr => (hm.2 k j r hr).elim (a1 r) (a2 r))
      rw [a1 k hk, e1]
      exact (hP k _ (wd_at hs0)).kept (f3 _ (hlt k hk))
    · have e1 := a3 0 (by omega)
      rw [Nat.add_zero, Nat.add_zero] at e1
      rw [e1, cE_18]
      show H1[H.size]? = some (vp_cell _ _)
      rw [f2, vp_cell_q]
      show some (arrV _ _ _) = some (arrV _ _ _)
      refine congrArg some (arrV_congr fun j hj => congrArg va_rf ?_)
      show _ = (if M.2.2.length = M.2.2.length ∧ 0 ≤ (j : Int) ∧ (j : Int) < n then some (M.2.2.length + 1 + (j : Int).toNat) else clR M.2.1 M.2.2.length M.2.2.length (j : Int)).map _
      rw [if_pos hj, if_pos ⟨rfl, by omega, by omega⟩]
      show _ = some (aMna α M.2.2.length n H.size (M.2.2.length + 1 + j))
      rw [show M.2.2.length + 1 + j = M.2.2.length + (1 + j) by omega, a3 (1 + j) (by omega), Nat.add_assoc]
    · obtain ⟨j, rfl⟩ : ∃ j, k = M.2.2.length + 1 + j := ⟨k - M.2.2.length - 1, by omega⟩
      rw [Nat.add_assoc, a3 (1 + j) (by omega), cE_16]
      show H1[H.size + (1 + j)]? = some (vp_cell _ _)
      rw [← Nat.add_assoc, f4 j (by omega), vp_cell_i]
      show some (arrV _ _ _) = some (arrV _ _ _)
      refine congrArg some (arrV_congr fun i hi => ?_)
      rw [show (mnaM M n m).1 (M.2.2.length + (1 + j)) i = 0 from clI_ge (by omega)]
      rfl
  · refine ⟨fun i j x y hx hy hxy => ?_, fun k q hq => ?_⟩
    · obtain ⟨s, hs, rfl⟩ := wd_get hx
      obtain ⟨t, ht, rfl⟩ := wd_get hy
      have e : aMna α M.2.2.length n H.size i = aMna α M.2.2.length n H.size j := hxy
      have hi : i ≤ M.2.2.length + n := by rcases mna_get hs with q | q | q <;> omega
      have hj : j ≤ M.2.2.length + n := by rcases mna_get ht with q | q | q <;> omega
      by_cases h1 : i < M.2.2.length <;> by_cases h2 : j < M.2.2.length
      · rw [a1 i h1, a1 j h2] at e
        exact hD.1 i j _ _ (wd_at (List.getElem?_eq_getElem h1)) (wd_at (List.getElem?_eq_getElem h2)) e
      · have := hlt i h1
        have e2 := a3 (j - M.2.2.length) (by omega)
        rw [show M.2.2.length + (j - M.2.2.length) = j by omega] at e2
        rw [a1 i h1, e2] at e
        omega
      · have := hlt j h2
        have e2 := a3 (i - M.2.2.length) (by omega)
        rw [show M.2.2.length + (i - M.2.2.length) = i by omega] at e2
        rw [a1 j h2, e2] at e
        omega
      · have e2 := a3 (j - M.2.2.length) (by omega)
        rw [show M.2.2.length + (j - M.2.2.length) = j by omega] at e2
        have e3 := a3 (i - M.2.2.length) (by omega)
        rw [show M.2.2.length + (i - M.2.2.length) = i by omega] at e3
        rw [e2, e3] at e
        omega
    · obtain ⟨s, hs, rfl⟩ := wd_get hq
      show G.2.2.2.2.1 ≤ aMna α M.2.2.length n H.size k
      have hk : k ≤ M.2.2.length + n := by rcases mna_get hs with q | q | q <;> omega
      by_cases h1 : k < M.2.2.length
      · rw [a1 k h1]
        exact hD.2 k _ (wd_at (List.getElem?_eq_getElem h1))
      · have e2 := a3 (k - M.2.2.length) (by omega)
        rw [show M.2.2.length + (k - M.2.2.length) = k by omega] at e2
        rw [e2]
        exact Nat.le_trans hB (by omega)
theorem okM_mna {M : Mem} (h : okM M) (n m : Nat) : okM (mnaM M n m) := by
  have hlen : (mnaM M n m).2.2.length = M.2.2.length + 1 + n := by show (M.2.2 ++ (18, n) :: List.replicate n (16, m)).length = _; simp; omega
  refine ⟨fun a b => ?_, fun a b r => ?_⟩
  · show inR (clI M.1 M.2.2.length a b)
    unfold clI
    split
    · exact inR_0
    · exact h.1 a b
  · rw [hlen]
    show (if a = M.2.2.length ∧ 0 ≤ b ∧ b < n then some (M.2.2.length + 1 + b.toNat) else clR M.2.1 M.2.2.length a b) = some r → _
    split
    · intro e
      cases e
      omega
    · unfold clR
      split
      · intro e; cases e
      · intro e
        rcases h.2 a b r e with q | q
        · exact Or.inl (by omega)
        · exact Or.inr q
section MJG
variable {G : GE} {own : String} {ini : Bool} {cc : ByteArray} {maxL d nC nS : Nat} {J : Jd} {pc : Nat} {ls st : List Vl} {M : Mem}
theorem mj_mna (hJ : OkJ G own ini cc maxL d nC nS J) {n m idx : Nat} (hd : decode cc pc = .ok (.multianewarray idx 2, 4)) (h1 : Cond.classLink own idx "[[I" ∈ lw_gd) (h2 : Cond.arrayClass .int ∈ lw_gd) (hn : n ≤ 1000) (hm : m ≤ 1000) (hC : M.2.2.length + 1 + n ≤ nC) (hS : ssum M.2.2 + n + n * m ≤ nS) (hC9 : nC < 1000) (kk : J (pc + 4) ls (vr M.2.2.length :: st) (mnaM M n m)) : J pc ls (vi m :: vi n :: st) M := by
  obtain ⟨p, e, s, me, args, below, meth, c0, R, α0, N0, n0, Qf, ⟨hx, hb, hml, hown, hin⟩, ⟨hts, hbs, hK, hE⟩, ⟨r1, r2, r3, r4⟩, rfl⟩ := hJ
  intro α H locs la hw T hT Xs
  have hs := ok_t (ok_t hw.2.2.2.2.1)
  have hmR : inR m := ok_h hw.2.2.2.2.1
  have hnR : inR n := ok_h (ok_t hw.2.2.2.2.1)
  have hb9 := hw.2.2.2.2.2.2
  have n1 : ¬ i32 (n : Int) < 0 := fun q => by have := (i32_lt hnR inR_0).mp q; omega
  have n2 : (i32 (n : Int)).toNatClampNeg = n := by rw [i32_c hnR]; exact Int.toNat_natCast n
  have m1 : ¬ i32 (m : Int) < 0 := fun q => by have := (i32_lt hmR inR_0).mp q; omega
  have m2 : (i32 (m : Int)).toNatClampNeg = m := by rw [i32_c hmR]; exact Int.toNat_natCast m
  have hnm : n * m ≤ 1000 * 1000 := Nat.mul_le_mul hn hm
  have e9 : "[" ++ (FieldType.array .int).toString = "[[I" := by decide +kernel
  obtain ⟨vm₁, cA, comp, fA, fC, X', step⟩ := gr_step Xs hx hown (index := idx) (by rw [e9]; exact hts _ h1) (show (Cond.arrayOver (.array .int)).before args s = true from hE.2.2.2.2.2.2.2) (hts _ h2) (g := F0 me pc la (.int (i32 m) :: .int (i32 n) :: st.map (toV α))) rfl (by rw [hb]; exact hd) rfl n1 m1 n2 m2 hn (by omega) (by omega) (by omega)
  have hTh : (T.setVm vm₁).heap = H := hT
  obtain ⟨f1, f3, f2, f4, -, -⟩ := gwS_at (T.setVm vm₁) cA comp n m n
  rw [hTh] at f1 f2 f3 f4
  generalize hF : gwS (T.setVm vm₁) cA comp n m n = F at X' step f1 f2 f3 f4
  have ecA : cA = G.2.2.1.2.2.1 := Option.some.inj (fA.symm.trans (hK.2 2 _ rfl).2)
  have ecI : comp = G.2.2.1.1 := Option.some.inj (fC.symm.trans (hK.2 0 _ rfl).2)
  obtain ⟨hP, hD⟩ := mna_lay hw.2.1.1 hw.2.1.2.1 hw.2.2.1 (by omega) (show gB G H.size from Nat.le_trans hbs hw.2.1.2.2.1) ecA ecI f1 f2 f3 f4
  have a1 : ∀ k, k < M.2.2.length → aMna α M.2.2.length n H.size k = α k := fun k hk => by unfold aMna; rw [if_neg (by omega)]
  have a2 : ∀ k, 1000 ≤ k → aMna α M.2.2.length n H.size k = α k := fun k hk => by unfold aMna; rw [if_neg (by omega)]
  have hlen : (mnaM M n m).2.2.length = M.2.2.length + 1 + n := by show (M.2.2 ++ (18, n) :: List.replicate n (16, m)).length = _; simp; omega
  have hsum : ssum (mnaM M n m).2.2 = ssum M.2.2 + n + n * m := by show ssum (M.2.2 ++ (18, n) :: List.replicate n (16, m)) = _; rw [ssum_app]; simp [ssum]; omega
  have hSS := hw.2.1.2.2
  obtain ⟨t, z1, z2⟩ := kk (aMna α M.2.2.length n H.size) F.heap locs la ⟨⟨fun k hk => (a1 k (by omega)).trans (hw.1.1 k hk), fun k hk => (a2 k hk).trans (hw.1.2 k hk)⟩, ⟨hP, hD, ⟨by rw [f1]; have := hSS.1; omega, fun x h1 h2 => (f3 x (Nat.lt_of_lt_of_le h1 hSS.1)).trans (hSS.2.1 x h1 h2), hSS.2.2⟩⟩, okM_mna hw.2.2.1 n m, by rw [hlen]; exact fun v hv => (hw.2.2.2.1 v hv).mono (by omega), by rw [hlen]; exact ok_cons (Or.inl (by omega)) (fun v hv => (hs v hv).mono (by omega)), lvs_agree a1 a2 hw.2.2.2.1 hw.2.2.2.2.2.1, by rw [hlen, hsum]; omega⟩ F rfl (by
      rw [show (mnaM M n m).2.2.length - N0 = M.2.2.length - N0 + 1 + n by omega, show ssum (mnaM M n m).2.2 - n0 = ssum M.2.2 - n0 + n + n * m by omega]
      exact X')
  refine ⟨t, step t ?_, z2⟩
  have e1 : T.heap.size = H.size := by rw [hT]
  rw [e1]
  have e5 : (vr M.2.2.length :: st).map (toV (aMna α M.2.2.length n H.size)) = .ref H.size :: st.map (toV α) := by
    rw [List.map_cons, map_agree a1 a2 hs]
    show Value.ref (aMna α M.2.2.length n H.size M.2.2.length) :: _ = _
    unfold aMna
    rw [if_pos (by omega), Nat.sub_self, Nat.add_zero]
  rw [e5] at z1
  exact z1
/-- a stretch of a row of whole numbers copied -/
def cpI (I : Nat → Int → Int) (k0 k1 : Nat) (sp dp n : Int) : Nat → Int → Int := fun a b => if a = k1 ∧ dp ≤ b ∧ b < dp + n then I k0 (sp + (b - dp)) else I a b
theorem okM_cp {M : Mem} (h : okM M) (k0 k1 : Nat) (sp dp n : Int) : okM (cpI M.1 k0 k1 sp dp n, M.2) := by
  refine ⟨fun a b => ?_, h.2⟩
  show inR (cpI M.1 k0 k1 sp dp n a b)
  unfold cpI
  split
  · exact h.1 _ _
  · exact h.1 _ _
theorem cpI_ne {I : Nat → Int → Int} {k0 k1 a : Nat} {sp dp n : Int} (h : a ≠ k1) : cpI I k0 k1 sp dp n a = I a := funext fun b => by simp [cpI, h]
theorem mj_copy (hJ : OkJ G own ini cc maxL d nC nS J) {idx k0 k1 n0' n1' : Nat} {sp dp n : Int} (hd : decode cc pc = .ok (.invokestatic idx, 3)) (cw : CopW own idx) (hk0 : M.2.2[k0]? = some (16, n0')) (hk1 : M.2.2[k1]? = some (16, n1')) (h1 : 0 ≤ sp) (h2 : 0 ≤ dp) (h3 : 0 ≤ n) (h4 : sp + n ≤ n0') (h5 : dp + n ≤ n1') (hdd : 1 ≤ d) (hst : st.length ≤ 4) (kk : J (pc + 3) ls st (cpI M.1 k0 k1 sp dp n, M.2)) : J pc ls (vi n :: vi dp :: vr k1 :: vi sp :: vr k0 :: st) M := by
  obtain ⟨p, e, s, m, args, below, meth, c0, R, α0, N0, n0, Qf, ⟨hx, hb, hml, hown, hin⟩, ⟨hts, hbs, hK, hE⟩, ⟨r1, r2, r3, r4⟩, rfl⟩ := hJ
  intro α H locs la hw
  have hs := hw.2.2.2.2.1
  have hnR : inR n := ok_h hs
  have hdR : inR dp := ok_h (ok_t hs)
  have hsR : inR sp := ok_h (ok_t (ok_t (ok_t hs)))
  have he0 := wd_at (G := G) (α := α) hk0
  have he1 := wd_at (G := G) (α := α) hk1
  rw [cE_16] at he0 he1
  have hcat := cat_le (α := α) st 4 hst
  refine va_copyi hx hb (hml.trans hw.2.2.2.2.2.1.1.symm) hown (hts _ cw.1) (hts _ cw.2.1) (hts _ cw.2.2.1) (hts _ cw.2.2.2) hK hw.2.1.1 hw.2.1.2.1 hw.2.1.2.2 k0 k1 0 0 he0 he1 rfl rfl rfl (fun q => by have := (i32_lt hsR inR_0).mp q; omega) (fun q => by have := (i32_lt hdR inR_0).mp q; omega) (fun q => by have := (i32_lt hnR inR_0).mp q; omega) (by rw [i32_c hsR, i32_c hnR]; omega) (by rw [i32_c hdR, i32_c hnR]; omega) (fun _ _ => rfl) (by omega) ?_ hd (fun H1 locs1 hP hD hS => ?_)
  · have : nativeFrameWords "java/lang/System" "arraycopy" 5 ≤ 60 := by decide +kernel
    omega
  · rw [i32_c hsR, i32_c hdR, i32_c hnR] at hP hD
    have e := wd_set (G := G) (α := α) (M := M) (M' := (cpI M.1 k0 k1 sp dp n, M.2)) (e := .inl (G.2.2.1.1, n1', .inl (va_cpy (fun j => i32 (M.1 k0 j)) (fun j => i32 (M.1 k1 j)) sp.toNat dp.toNat n.toNat))) hk1 rfl (fun a ha => cpI_ne ha) (fun _ _ => rfl)
      (by
        rw [cE_16]
        congr 4
        funext j
        show _ = i32 (cpI M.1 k0 k1 sp dp n k1 j)
        unfold va_cpy cpI
        by_cases h : dp.toNat ≤ j ∧ j < dp.toNat + n.toNat
        · rw [if_pos h, if_pos ⟨rfl, by omega, by omega⟩]
          exact congrArg (fun t => i32 (M.1 k0 t)) (show (((sp.toNat + (j - dp.toNat) : Nat)) : Int) = sp + ((j : Int) - dp) by omega)
        · rw [if_neg h, if_neg (by omega)])
    rw [e] at hP hD
    exact kk α H1 locs1 la (Wi_put hw rfl hP hD hS (okM_cp hw.2.2.1 k0 k1 sp dp n) (ok_t (ok_t (ok_t (ok_t (ok_t hs))))))
end MJG
section MJH
variable {G : GE} {own : String} {ini : Bool} {cc : ByteArray} {maxL d nC nS : Nat} {J : Jd} {pc : Nat} {ls st : List Vl} {M : Mem}
def cpT (I : Nat → Int → Int) (f : Int → Int) (k1 : Nat) (sp dp n : Int) : Nat → Int → Int := fun a b => if a = k1 ∧ dp ≤ b ∧ b < dp + n then f (sp + (b - dp)) else I a b
theorem cpT_ne {I : Nat → Int → Int} {f : Int → Int} {k1 a : Nat} {sp dp n : Int} (h : a ≠ k1) : cpT I f k1 sp dp n a = I a := funext fun b => by simp [cpT, h]
theorem cp_nn (z : Int32) (hz : ¬ z < 0) : z.toInt = (z.toNatClampNeg : Int) := by
  have hz0 : (0 : Int) ≤ z.toInt := by
    have := Int32.not_lt.mp hz
    simpa using Int32.le_iff_toInt_le.mp this
  show z.toInt = ((z.toInt.toNat : Nat) : Int)
  omega
theorem mj_copyT (hJ : OkJ G own ini cc maxL d nC nS J) {idx t tn k1 n1' : Nat} {f : Int → Int} {sp dp n : Int} (hd : decode cc pc = .ok (.invokestatic idx, 3)) (cw : CopW own idx) (ht : t < 6) (hG : gT G t = (tn, f)) (hfR : ∀ z, inR (f z)) (hk1 : M.2.2[k1]? = some (16, n1')) (h1 : 0 ≤ sp) (h2 : 0 ≤ dp) (h3 : 0 ≤ n) (h4 : sp + n ≤ tn) (h5 : dp + n ≤ n1') (hdd : 1 ≤ d) (hst : st.length ≤ 4) (kk : J (pc + 3) ls st (cpT M.1 f k1 sp dp n, M.2)) : J pc ls (vi n :: vi dp :: vr k1 :: vi sp :: vr (2000 + t) :: st) M := by
  obtain ⟨p, e, s, m, args, below, meth, c0, R, α0, N0, n0, Qf, ⟨hx, hb, hml, hown, hin⟩, ⟨hts, hbs, hK, hE⟩, ⟨r1, r2, r3, r4⟩, rfl⟩ := hJ
  intro α H locs la hw T hT X
  have hs := hw.2.2.2.2.1
  have hnR : inR n := ok_h hs
  have hdR : inR dp := ok_h (ok_t hs)
  have hsR : inR sp := ok_h (ok_t (ok_t (ok_t hs)))
  have he1 := wd_at (G := G) (α := α) hk1
  rw [cE_16] at he1
  have hcat := cat_le (α := α) st 4 hst
  have hTt := hE.2.1 t ht
  rw [hG] at hTt
  obtain ⟨scr, hs1, hs2, hs3, hs4, -, hs5, hs7⟩ := hTt
  have hS := hw.2.1.2.2
  have e2 : toV α (vr (2000 + t)) = .ref (gA G (2000 + t)) := congrArg Value.ref (gA_of hw (by omega))
  have hnf : nativeFrameWords "java/lang/System" "arraycopy" 5 ≤ 60 := by decide +kernel
  have q1 : ¬ i32 sp < 0 := fun q => by have := (i32_lt hsR inR_0).mp q; omega
  have q2 : ¬ i32 dp < 0 := fun q => by have := (i32_lt hdR inR_0).mp q; omega
  have q3 : ¬ i32 n < 0 := fun q => by have := (i32_lt hnR inR_0).mp q; omega
  have q4 : (i32 sp).toNatClampNeg + (i32 n).toNatClampNeg ≤ tn := by rw [i32_c hsR, i32_c hnR]; omega
  have q5 : (i32 dp).toNatClampNeg + (i32 n).toNatClampNeg ≤ n1' := by rw [i32_c hdR, i32_c hnR]; omega
  have hc0 : H[gA G (2000 + t)]? = some scr := by rw [hS.2.1 _ (Array.getElem?_eq_some_iff.mp hs1).1 hs7]; exact hs1
  have hc1 : H[α k1]? = some (vp_cell G.2.2.1.1 (n1', .inl (fun j => i32 (M.1 k1 j)))) := hw.2.1.1 k1 _ he1
  obtain ⟨hs6, k0, hk0, cm0, hkk0⟩ := hs2
  obtain ⟨-, kk1, hkk, cm1, hkk1⟩ := (hK.2 0 _ rfl).1 n1' (fun j => .int (i32 (M.1 k1 j)))
  obtain ⟨vm', X', step⟩ := X.arraycopy hx hown (hts _ cw.1) (hts _ cw.2.1) (hts _ cw.2.2.1) (hts _ cw.2.2.2) (src := gA G (2000 + t)) (dst := α k1) (cs := scr) (cd := vp_cell G.2.2.1.1 (n1', .inl (fun j => i32 (M.1 k1 j)))) (srcPos := i32 sp) (destPos := i32 dp) (n := i32 n) (by rw [hT]; exact hc0) (by rw [hT]; exact hc1)
    hs6 (fun _ h => by cases h) hs3 (fun h => by cases h) hk0 hkk hkk0 hkk1 (by simp [refKind]) q1 q2 q3
    (by rw [cp_nn _ q1, cp_nn _ q3]; omega)
    (by rw [cp_nn _ q2, cp_nn _ q3]; show ¬ _ > ((arrV _ n1' _).slots.size : Int); rw [arrV_size]; omega)
    (fun vm₁ _ i hi => by
      have e : scr.slots.getD ((i32 sp).toNatClampNeg + i) .null = .int (i32 (f (((i32 sp).toNatClampNeg + i : Nat) : Int))) := by
        rw [Array.getD_eq_getD_getElem?, hs5 _ (by omega)]
        rfl
      refine ⟨?_, ?_⟩
      · rw [e]
        rfl
      · rw [e]
        exact trivial)
    (g := F0 m pc la (.int (i32 n) :: .int (i32 dp) :: .ref (α k1) :: .int (i32 sp) :: .ref (gA G (2000 + t)) :: st.map (toV α))) rfl (by rw [hml]; exact hw.2.2.2.2.2.1.1) (rest := st.map (toV α)) rfl (by rw [hb]; exact hd) (by omega) (by show 2 * 0 + _ + _ ≤ _; omega)
  have e1 : copied scr (vp_cell G.2.2.1.1 (n1', .inl (fun j => i32 (M.1 k1 j)))) (i32 sp) (i32 dp) (i32 n) = vp_cell G.2.2.1.1 (n1', .inl (va_cpy (fun j : Nat => i32 (f j)) (fun j => i32 (M.1 k1 j)) (i32 sp).toNatClampNeg (i32 dp).toNatClampNeg (i32 n).toNatClampNeg)) := va_copiedX (fun z => .int z) scr _ (fun j : Nat => i32 (f j)) (fun j => i32 (M.1 k1 j)) hs5 q4
  rw [e1, i32_c hsR, i32_c hdR, i32_c hnR] at X' step
  have e9 : (Sum.inl (G.2.2.1.1, n1', .inl (va_cpy (fun j : Nat => i32 (f j)) (fun j => i32 (M.1 k1 j)) sp.toNat dp.toNat n.toNat)) : va_E) = cE G α (cpT M.1 f k1 sp dp n, M.2) k1 (16, n1') := by
    rw [cE_16]
    congr 4
    funext j
    show _ = i32 (cpT M.1 f k1 sp dp n k1 j)
    unfold va_cpy cpT
    by_cases h : dp.toNat ≤ j ∧ j < dp.toNat + n.toNat
    · rw [if_pos h, if_pos ⟨rfl, by omega, by omega⟩]
      exact congrArg (fun t => i32 (f t)) (show (((sp.toNat + (j - dp.toNat) : Nat)) : Int) = sp + ((j : Int) - dp) by omega)
    · rw [if_neg h, if_neg (by omega)]
  have e10 := wd_set (G := G) (α := α) (M := M) (M' := (cpT M.1 f k1 sp dp n, M.2)) (e := .inl (G.2.2.1.1, n1', .inl (va_cpy (fun j : Nat => i32 (f j)) (fun j => i32 (M.1 k1 j)) sp.toNat dp.toNat n.toNat))) hk1 rfl (fun a ha => cpT_ne ha) (fun _ _ => rfl) e9
  have hl : α k1 < H.size := (Array.getElem?_eq_some_iff.mp hc1).1
  generalize hcell : vp_cell G.2.2.1.1 (n1', .inl (va_cpy (fun j : Nat => i32 (f j)) (fun j => i32 (M.1 k1 j)) sp.toNat dp.toNat n.toNat)) = cell at X' step
  have hheap : ((T.setVm vm').setCell (α k1) cell).heap = H.setIfInBounds (α k1) cell := by rw [← hT]; rfl
  have oq : ∀ q : Nat, q ≠ α k1 → (H.setIfInBounds (α k1) cell)[q]? = H[q]? := fun q hq => by simp [Array.getElem?_setIfInBounds, Ne.symm hq]
  have hP' := hw.2.1.1.set (H1 := H.setIfInBounds (α k1) cell) hw.2.1.2.1 he1 (e := .inl (G.2.2.1.1, n1', .inl (va_cpy (fun j : Nat => i32 (f j)) (fun j => i32 (M.1 k1 j)) sp.toNat dp.toNat n.toNat))) (show (H.setIfInBounds (α k1) cell)[α k1]? = some (vp_cell _ _) by rw [hcell]; simp [Array.getElem?_setIfInBounds, hl]) oq
  have hD' := hw.2.1.2.1.set (e := .inl (G.2.2.1.1, n1', .inl (va_cpy (fun j : Nat => i32 (f j)) (fun j => i32 (M.1 k1 j)) sp.toNat dp.toNat n.toNat))) he1
  rw [e10] at hP' hD'
  have hA1 : gB G (α k1) := hw.2.1.2.1.2 k1 _ he1
  have hm' : okM (cpT M.1 f k1 sp dp n, M.2) := ⟨fun a b => by
    show inR (cpT M.1 f k1 sp dp n a b)
    unfold cpT
    split
    · exact hfR _
    · exact hw.2.2.1.1 _ _, hw.2.2.1.2⟩
  obtain ⟨t9, z1, z2⟩ := kk α (H.setIfInBounds (α k1) cell) _ la (Wi_put hw rfl hP' hD' ⟨by simp; exact hS.1, fun q g1 g2 => by
      rw [oq q (fun e => g2 (by rw [e]; exact hA1))]
      exact hS.2.1 q g1 g2, fun q hq => by
      rcases List.mem_append.mp hq with h | h
      · exact hS.2.2 q h
      · obtain ⟨z, -, hz⟩ := List.mem_map.mp h
        rw [← hz]
        exact hA1⟩ hm' (ok_t (ok_t (ok_t (ok_t (ok_t hs)))))) _ hheap X'
  refine ⟨t9, ?_, z2⟩
  rw [List.map_cons, List.map_cons, List.map_cons, List.map_cons, List.map_cons, e2]
  exact step t9 z1
end MJH
