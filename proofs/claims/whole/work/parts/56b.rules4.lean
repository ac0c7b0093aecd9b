/-! calls over a longer stack without longs -/
def wcat : List Vl → Nat
  | [] => 0
  | .inr (.inl _) :: r => 2 + wcat r
  | .inl _ :: r => 1 + wcat r
  | .inr (.inr _) :: r => 1 + wcat r
theorem cat_w {α : Nat → Nat} : ∀ st : List Vl, ((st.map (toV α)).map fun v => v.category).sum = wcat st
  | [] => rfl
  | .inr (.inl z) :: r => by
    have h := cat_w (α := α) r
    simp only [List.map_cons, List.sum_cons, h]
    rfl
  | .inl z :: r => by
    have h := cat_w (α := α) r
    simp only [List.map_cons, List.sum_cons, h]
    rfl
  | .inr (.inr none) :: r => by
    have h := cat_w (α := α) r
    simp only [List.map_cons, List.sum_cons, h]
    rfl
  | .inr (.inr (some k)) :: r => by
    have h := cat_w (α := α) r
    simp only [List.map_cons, List.sum_cons, h]
    rfl
section RU4
variable {G : GE} {own : String} {ini : Bool} {cc : ByteArray} {maxL d nC nS : Nat} {J : Jd} {pc : Nat} {ls st : List Vl} {M : Mem}
theorem mj_callVL (hJ : OkJ G own ini cc maxL d nC nS J) {idx maxL' n d' ci k sz nC' nS' : Nat} {y : MethodName} {cc' : ByteArray} {ret' : Option FieldType} {Q' : Option Vl → Mem → Prop} {C : String} {T : u_T} {N : Nat} (xs : List Vl) (hd : decode cc pc = .ok (.invokevirtual idx, 3)) (cw : CwV own idx y cc' maxL' ret' n) (hk : M.2.2[k]? = some (ci, sz)) (hc : vwCl[ci]? = some (C, T, N)) (hy : y.cls = C) (hn : xs.length = n) (hst : wcat st ≤ 8) (hdd : d' + 1 ≤ d)
    (h : Mth G y cc' maxL' ret' d' (vr k :: xs) M nC' nS' Q') (hC : nC' ≤ nC) (hS : nS' ≤ nS) (hC1 : M.2.2.length ≤ nC') (hS1 : ssum M.2.2 ≤ nS')
    (kk : ∀ r M', Q' r M' → (M'.2.2.length = nC' ∧ ssum M'.2.2 = nS') ∧ J (pc + 3) ls (r.toList ++ st) M') : J pc ls (xs.reverse ++ vr k :: st) M := by
  obtain ⟨p, e, s, m, args, below, meth, c0, R, α0, N0, n0, Qf, ⟨hx, hb, hml, hown, hin⟩, ⟨hts, hbs, hK, hE⟩, ⟨r1, r2, r3, r4⟩, rfl⟩ := hJ
  intro α H locs la hw
  have hs := hw.2.2.2.2.1
  have hst' : ∀ v ∈ st, okV M.2.2.length v := fun v hv => hs v (by simp [hv])
  have hxs : ∀ v ∈ vr k :: xs, okV M.2.2.length v := fun v hv => hs v (by
    rcases List.mem_cons.mp hv with rfl | hv
    · simp
    · simp [hv])
  obtain ⟨w1, w2, w3, w4, w5, w6, w7⟩ := cw
  have hc16 := (cl_ok hc).2.2.2
  have he := wd_at (G := G) (α := α) hk
  rw [cE_o hc16] at he
  have hM := h α hw.1.2 hw.2.2.1 hxs hC1 hS1 (by have := hw.2.2.2.2.2.2.2.2.2.2; omega)
  have hwc := hw.2.2.2.2.2.2
  have eX : (xs.reverse ++ vr k :: st).map (toV α) = (xs.map (toV α)).reverse ++ .ref (α k) :: st.map (toV α) := by
    rw [List.map_append, List.map_reverse]
    rfl
  rw [eX]
  refine mj_back (st := st) (a := ((vr k :: xs).map (toV α)).toArray) hw hst' hC hS hC1 hS1 ?_ kk
  refine va_runV (As := xs.map (toV α)) (nL := maxL) (Ts := lw_gd) (own := own) (C := C) (n := n) (ws := Cond.code y cc' maxL' ret' :: lw_gd) (b := α k) ⟨hx, hb, hml, hown, hts⟩ hM ⟨callB_of (ws' := lw_gd) n hts (code_in w5) rfl rfl rfl (hts _ w4) (hts _ w1) w6 ⟨by show d' + 1 ≤ R.frames; omega, by show 8 + (maxL' + 11) + (100 * d' + 100) ≤ R.locals; omega⟩, hts _ w2, by rw [← hy]; exact hts _ w3⟩ ⟨Pcx_blind, va_recv hK hw.2.1.1 hc he, fun U hU hW => Pcx_of hw hbs hK hE U hU hW⟩ rfl (by simpa using hn) hw.2.2.2.2.2.1.1 rfl ?_ hd ⟨by omega, by omega⟩
  show 2 * 0 + _ ≤ 8
  have := cat_w (α := α) st
  omega
end RU4
section RU5
variable {G : GE} {own : String} {ini : Bool} {cc : ByteArray} {maxL d : Nat} {J : Jd} {pc : Nat} {ls st : List Vl} {I : Ints} {b : Bool}
theorem mk_Vp3L (hJ : OkJ G own ini cc maxL d 143 9588 J) {ci k sz : Nat} {C : String} {T : u_T} {N : Nat} {x1 x2 x3 : Vl} {idx maxL' n d' : Nat} {y : MethodName} {cc' : ByteArray} {ret' : Option FieldType} {z0 : Int} (hd : decode cc pc = .ok (.invokevirtual idx, 3)) (cw : CwV own idx y cc' maxL' ret' n) (hk : S0[k]? = some (ci, sz)) (hc : vwCl[ci]? = some (C, T, N)) (hy : y.cls = C) (hn : ([x1, x2, x3] : List Vl).length = n) (hst : wcat st ≤ 8) (hdd : d' + 1 ≤ d) (h : MtP G y cc' maxL' ret' d' (vr k :: ([x1, x2, x3] : List Vl)) I b z0) (kk : J (pc + 3) ls (vi z0 :: st) (mk I b)) : J pc ls (x3 :: x2 :: x1 :: vr k :: st) (mk I b) :=
  mj_callVL (xs := ([x1, x2, x3] : List Vl)) hJ hd cw hk hc hy hn hst hdd h (Nat.le_refl _) (Nat.le_refl _) (by rw [show (mk I b).2.2.length = 143 from S0_len]; exact Nat.le_refl _) (by rw [show ssum (mk I b).2.2 = 9588 from S0_sum]; exact Nat.le_refl _) (fun r M' hq => by
    obtain ⟨I', b', rfl, z, rfl, rfl, rfl, rfl⟩ := hq
    exact ⟨⟨S0_len, S0_sum⟩, kk⟩)
theorem mk_Vi3L (hJ : OkJ G own ini cc maxL d 143 9588 J) {ci k sz : Nat} {C : String} {T : u_T} {N : Nat} {x1 x2 x3 : Vl} {idx maxL' n d' : Nat} {y : MethodName} {cc' : ByteArray} {ret' : Option FieldType} {Q' : Int → Ints → Bool → Prop} (hd : decode cc pc = .ok (.invokevirtual idx, 3)) (cw : CwV own idx y cc' maxL' ret' n) (hk : S0[k]? = some (ci, sz)) (hc : vwCl[ci]? = some (C, T, N)) (hy : y.cls = C) (hn : ([x1, x2, x3] : List Vl).length = n) (hst : wcat st ≤ 8) (hdd : d' + 1 ≤ d) (h : MtI G y cc' maxL' ret' d' (vr k :: ([x1, x2, x3] : List Vl)) I b Q') (kk : ∀ z I' b', Q' z I' b' → J (pc + 3) ls (vi z :: st) (mk I' b')) : J pc ls (x3 :: x2 :: x1 :: vr k :: st) (mk I b) :=
  mj_callVL (xs := ([x1, x2, x3] : List Vl)) hJ hd cw hk hc hy hn hst hdd h (Nat.le_refl _) (Nat.le_refl _) (by rw [show (mk I b).2.2.length = 143 from S0_len]; exact Nat.le_refl _) (by rw [show ssum (mk I b).2.2 = 9588 from S0_sum]; exact Nat.le_refl _) (fun r M' hq => by
    obtain ⟨I', b', rfl, z, rfl, hq⟩ := hq
    exact ⟨⟨S0_len, S0_sum⟩, kk z I' b' hq⟩)
theorem mk_Vv3L (hJ : OkJ G own ini cc maxL d 143 9588 J) {ci k sz : Nat} {C : String} {T : u_T} {N : Nat} {x1 x2 x3 : Vl} {idx maxL' n d' : Nat} {y : MethodName} {cc' : ByteArray} {Q' : Ints → Bool → Prop} (hd : decode cc pc = .ok (.invokevirtual idx, 3)) (cw : CwV own idx y cc' maxL' none n) (hk : S0[k]? = some (ci, sz)) (hc : vwCl[ci]? = some (C, T, N)) (hy : y.cls = C) (hn : ([x1, x2, x3] : List Vl).length = n) (hst : wcat st ≤ 8) (hdd : d' + 1 ≤ d) (h : MtV G y cc' maxL' d' (vr k :: ([x1, x2, x3] : List Vl)) I b Q') (kk : ∀ I' b', Q' I' b' → J (pc + 3) ls st (mk I' b')) : J pc ls (x3 :: x2 :: x1 :: vr k :: st) (mk I b) :=
  mj_callVL (xs := ([x1, x2, x3] : List Vl)) hJ hd cw hk hc hy hn hst hdd h (Nat.le_refl _) (Nat.le_refl _) (by rw [show (mk I b).2.2.length = 143 from S0_len]; exact Nat.le_refl _) (by rw [show ssum (mk I b).2.2 = 9588 from S0_sum]; exact Nat.le_refl _) (fun r M' hq => by
    obtain ⟨I', b', rfl, rfl, hq⟩ := hq
    exact ⟨⟨S0_len, S0_sum⟩, kk I' b' hq⟩)
end RU5
