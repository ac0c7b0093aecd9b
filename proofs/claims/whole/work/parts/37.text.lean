/-! calls on texts -/
section MJE
variable {G : GE} {own : String} {ini : Bool} {cc : ByteArray} {maxL d nC nS : Nat} {J : Jd} {pc : Nat} {ls st : List Vl} {M : Mem}
theorem mj_callT (hJ : OkJ G own ini cc maxL d nC nS J) {idx maxL' n d' i nC' nS' : Nat} {y : MethodName} {cc' : ByteArray} {ret' : Option FieldType} {Q' : Option Vl → Mem → Prop} (xs : List Vl) (hd : decode cc pc = .ok (.invokevirtual idx, 3)) (cw : CwV own idx y cc' maxL' ret' n) (hi : i < 22) (hy : y.cls = "java/lang/String") (hn : xs.length = n) (hst : st.length ≤ 4) (hdd : d' + 1 ≤ d)
    (h : Mth G y cc' maxL' ret' d' (vr (1000 + i) :: xs) M nC' nS' Q') (hC : nC' ≤ nC) (hS : nS' ≤ nS) (hC1 : M.2.2.length ≤ nC') (hS1 : ssum M.2.2 ≤ nS')
    (kk : ∀ r M', Q' r M' → (M'.2.2.length = nC' ∧ ssum M'.2.2 = nS') ∧ J (pc + 3) ls (r.toList ++ st) M') : J pc ls (xs.reverse ++ vr (1000 + i) :: st) M := by
  obtain ⟨p, e, s, m, args, below, meth, c0, R, α0, N0, n0, Qf, ⟨hx, hb, hml, hown, hin⟩, ⟨hts, hbs, hK, hE⟩, ⟨r1, r2, r3, r4⟩, rfl⟩ := hJ
  intro α H locs la hw
  have hs := hw.2.2.2.2.1
  have hst' : ∀ v ∈ st, okV M.2.2.length v := fun v hv => hs v (by simp [hv])
  have hxs : ∀ v ∈ vr (1000 + i) :: xs, okV M.2.2.length v := fun v hv => hs v (by
    rcases List.mem_cons.mp hv with rfl | hv
    · simp
    · simp [hv])
  obtain ⟨w1, w2, w3, w4, w5, w6, w7⟩ := cw
  have e1000 : α (1000 + i) = gA G (1000 + i) := hw.1.2 _ (by omega)
  have hM := h α hw.1.2 hw.2.2.1 hxs hC1 hS1 (by have := hw.2.2.2.2.2.2.2.2.2.2; omega)
  have hwc := hw.2.2.2.2.2.2
  have eX : (xs.reverse ++ vr (1000 + i) :: st).map (toV α) = (xs.map (toV α)).reverse ++ .ref (α (1000 + i)) :: st.map (toV α) := by
    rw [List.map_append, List.map_reverse]
    rfl
  rw [eX]
  refine mj_back (st := st) (a := ((vr (1000 + i) :: xs).map (toV α)).toArray) hw hst' hC hS hC1 hS1 ?_ kk
  refine va_runV (As := xs.map (toV α)) (nL := maxL) (Ts := lw_gd) (own := own) (C := "java/lang/String") (n := n) (ws := Cond.code y cc' maxL' ret' :: lw_gd) (b := α (1000 + i)) ⟨hx, hb, hml, hown, hts⟩ hM ⟨callB_of (ws' := lw_gd) n hts (code_in w5) rfl rfl rfl (hts _ w4) (hts _ w1) w6 ⟨by show d' + 1 ≤ R.frames; omega, by show 8 + (maxL' + 11) + (100 * d' + 100) ≤ R.locals; omega⟩, hts _ w2, by rw [← hy]; exact hts _ w3⟩ ⟨Pcx_blind, (by
    obtain ⟨cell, g1, g2, g3, -⟩ := (hE.1 i hi).2.1.kept hw.2.1.2.2.2.1
    exact ⟨cell, by rw [e1000]; exact g1, g2, g3⟩), fun U hU hW => Pcx_of hw hbs hK hE U hU hW⟩ rfl (by simpa using hn) hw.2.2.2.2.2.1.1 rfl ?_ hd ⟨by omega, by omega⟩
  show 2 * 0 + _ ≤ 8
  have := cat_le (α := α) st 4 hst
  omega
end MJE
section MKT
variable {G : GE} {own : String} {ini : Bool} {cc : ByteArray} {maxL d : Nat} {J : Jd} {pc : Nat} {ls st : List Vl} {I : Ints} {b : Bool}
theorem mk_Tp0 (hJ : OkJ G own ini cc maxL d 143 9588 J) {i idx maxL' n d' : Nat} {y : MethodName} {cc' : ByteArray} {ret' : Option FieldType} {z0 : Int} (hd : decode cc pc = .ok (.invokevirtual idx, 3)) (cw : CwV own idx y cc' maxL' ret' n) (hi : i < 22) (hy : y.cls = "java/lang/String") (hn : ([] : List Vl).length = n) (hst : st.length ≤ 4) (hdd : d' + 1 ≤ d) (h : MtP G y cc' maxL' ret' d' (vr (1000 + i) :: ([] : List Vl)) I b z0) (kk : J (pc + 3) ls (vi z0 :: st) (mk I b)) : J pc ls (vr (1000 + i) :: st) (mk I b) :=
  mj_callT (xs := ([] : List Vl)) hJ hd cw hi hy hn hst hdd h (Nat.le_refl _) (Nat.le_refl _) (by rw [show (mk I b).2.2.length = 143 from S0_len]; exact Nat.le_refl _) (by rw [show ssum (mk I b).2.2 = 9588 from S0_sum]; exact Nat.le_refl _) (fun r M' hq => by
    obtain ⟨I', b', rfl, z, rfl, rfl, rfl, rfl⟩ := hq
    exact ⟨⟨S0_len, S0_sum⟩, kk⟩)
theorem mk_Tp1 (hJ : OkJ G own ini cc maxL d 143 9588 J) {x1 : Vl} {i idx maxL' n d' : Nat} {y : MethodName} {cc' : ByteArray} {ret' : Option FieldType} {z0 : Int} (hd : decode cc pc = .ok (.invokevirtual idx, 3)) (cw : CwV own idx y cc' maxL' ret' n) (hi : i < 22) (hy : y.cls = "java/lang/String") (hn : ([x1] : List Vl).length = n) (hst : st.length ≤ 4) (hdd : d' + 1 ≤ d) (h : MtP G y cc' maxL' ret' d' (vr (1000 + i) :: ([x1] : List Vl)) I b z0) (kk : J (pc + 3) ls (vi z0 :: st) (mk I b)) : J pc ls (x1 :: vr (1000 + i) :: st) (mk I b) :=
  mj_callT (xs := ([x1] : List Vl)) hJ hd cw hi hy hn hst hdd h (Nat.le_refl _) (Nat.le_refl _) (by rw [show (mk I b).2.2.length = 143 from S0_len]; exact Nat.le_refl _) (by rw [show ssum (mk I b).2.2 = 9588 from S0_sum]; exact Nat.le_refl _) (fun r M' hq => by
    obtain ⟨I', b', rfl, z, rfl, rfl, rfl, rfl⟩ := hq
    exact ⟨⟨S0_len, S0_sum⟩, kk⟩)
theorem nar_c {z : Int} (h0 : 0 ≤ z) (h1 : z < 128) : narrow .char (.int (i32 z)) = .int (i32 z) := by
  obtain ⟨n, rfl⟩ := Int.eq_ofNat_of_zero_le h0
  have h : n < 128 := by omega
  have all : ∀ n : Nat, n < 128 → narrow .char (.int (i32 n)) = .int (i32 n) := by decide +kernel
  exact all n h
theorem nar_b0 : narrow .byte (.int (i32 0)) = .int (i32 0) := by decide +kernel
theorem len_sh {n : Nat} (h : n < 10) : (i32 (n : Int) >>> (i32 0 &&& 31)).toInt = n := by
  have all : ∀ n : Nat, n < 10 → (i32 (n : Int) >>> (i32 0 &&& 31)).toInt = n := by decide +kernel
  exact all n h
theorem chr_id {z : Int} (h0 : 0 ≤ z) (h1 : z < 128) : ((i32 ((i32 z &&& i32 255).toInt)).toUInt32 % 65536).toInt32.toInt = z := by
  obtain ⟨n, rfl⟩ := Int.eq_ofNat_of_zero_le h0
  have h : n < 128 := by omega
  have all : ∀ n : Nat, n < 128 → ((i32 ((i32 (n : Int) &&& i32 255).toInt)).toUInt32 % 65536).toInt32.toInt = n := by decide +kernel
  exact all n h
end MKT
