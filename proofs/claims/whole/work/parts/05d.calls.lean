/-! THE LOGIC, d: methods and calls -/
theorem code_in {y : MethodName} {cc : ByteArray} {maxL : Nat} {ret : Option FieldType} (h : Cond.code y cc maxL ret ∈ lw_gd) : GoodIn lw_gd (Cond.code y cc maxL ret :: lw_gd) := fun w hw => by
  rcases List.mem_cons.mp hw with rfl | hw
  · exact gd_in _ h
  · exact gd_in _ hw
def Pcx (G : GE) (α : Nat → Nat) (as : List Vl) (M : Mem) : Array Value → State → Prop :=
  va_Pc (as.map (toV α)) (fun U => G.2.2.2.2.1 ≤ U.heap.size ∧ va_K (gD G) vwCl (gY G) U ∧ Ext G U U.heap ∧ va_P (gD G) vwCl (wd G α M) U.heap ∧ va_D (gB G) (wd G α M))
def Qcx (G : GE) (α : Nat → Nat) (M : Mem) (nC nS : Nat) (Q : Option Vl → Mem → Prop) : Array Value → State → Outcome → State → Prop := fun _ st oc t =>
  (∃ (r : Option Vl) (M' : Mem) (α' : Nat → Nat), oc = .returned (r.map (toV α')) ∧ Q r M' ∧ ((∀ k, k < M.2.2.length → α' k = α k) ∧ ∀ k, 1000 ≤ k → α' k = gA G k) ∧ (va_P (gD G) vwCl (wd G α' M') t.heap ∧ va_D (gB G) (wd G α' M')) ∧ okM M' ∧ (∀ v ∈ r.toList, okV M'.2.2.length v) ∧ (M.2.2.length ≤ M'.2.2.length ∧ ssum M.2.2 ≤ ssum M'.2.2 ∧ M'.2.2.length ≤ nC ∧ ssum M'.2.2 ≤ nS)) ∧ va_F (gB G) st t
/-- a method's contract: from the arguments 'as' and the memory M it comes to an answer and a memory that hold Q; d calls deep at most -/
def Mth (G : GE) (y : MethodName) (cc : ByteArray) (maxL : Nat) (ret : Option FieldType) (d : Nat) (as : List Vl) (M : Mem) (nC nS : Nat) (Q : Option Vl → Mem → Prop) : Prop :=
  ∀ α : Nat → Nat, (∀ k, 1000 ≤ k → α k = gA G k) → okM M → (∀ v ∈ as, okV M.2.2.length v) → M.2.2.length ≤ nC → ssum M.2.2 ≤ nS → nC ≤ 1000 →
    Met G.1 y (Cond.code y cc maxL ret :: lw_gd) { frames := d, cells := nC - M.2.2.length, slots := nS - ssum M.2.2, locals := 100 * d + 100 } (Pcx G α as M) (Qcx G α M nC nS Q) (nC - M.2.2.length) (nS - ssum M.2.2) (gB G)
theorem toV_agree {α α' : Nat → Nat} {N : Nat} {v : Vl} (h1 : ∀ k, k < N → α' k = α k) (h2 : ∀ k, 1000 ≤ k → α' k = α k) (hv : okV N v) : toV α' v = toV α v := by
  rcases v with z | z | _ | k
  · rfl
  · rfl
  · rfl
  · show Value.ref (α' k) = .ref (α k)
    rcases hv with q | q
    · rw [h1 k q]
    · rw [h2 k q]
theorem map_agree {α α' : Nat → Nat} {N : Nat} {st : List Vl} (h1 : ∀ k, k < N → α' k = α k) (h2 : ∀ k, 1000 ≤ k → α' k = α k) (hs : ∀ v ∈ st, okV N v) : st.map (toV α') = st.map (toV α) :=
  List.map_congr_left fun v hv => toV_agree h1 h2 (hs v hv)
theorem lvs_agree {α α' : Nat → Nat} {N : Nat} {ls : List Vl} (h1 : ∀ k, k < N → α' k = α k) (h2 : ∀ k, 1000 ≤ k → α' k = α k) (hs : ∀ v ∈ ls, okV N v) {la : Array Slot} {n : Nat} (h : lv_has la n (lvs α 0 ls)) : lv_has la n (lvs α' 0 ls) := by
  refine ⟨h.1, h.2.1, fun q hq => h.2.2 q ?_⟩
  obtain ⟨i, v, e1, e2, e3⟩ := (lvs_mem _ 0 _).mp hq
  exact (lvs_mem _ 0 _).mpr ⟨i, v, e1, e2, by rw [e3, toV_agree h1 h2 (hs v (List.mem_of_getElem? e1))]⟩
section MJD
variable {G : GE} {p : Program} {e : Env} {s : State} {m : MethodId} {args : Array Value} {below : List Frame} {meth : Method} {c : Code} {R : Room} {α0 : Nat → Nat} {N0 n0 maxL nC nS : Nat} {Qf : State → Prop} {pc : Nat} {ls st : List Vl} {M : Mem}
theorem mj_back {α : Nat → Nat} {H : Heap} {locs : List Loc} {la : Array Slot} {st0 : List Vl} {X0 : List Value} {a : Array Value} (hw : Wi G s α0 N0 n0 maxL nC nS α H locs la ls st0 M) (hst : ∀ v ∈ st, okV M.2.2.length v) {nC' nS' : Nat} {Q' : Option Vl → Mem → Prop} (hC : nC' ≤ nC) (hS : nS' ≤ nS) (hC1 : M.2.2.length ≤ nC') (hS1 : ssum M.2.2 ≤ nS')
    (hr : va_Run p G.1 e R s m args below meth c H locs (M.2.2.length - N0) (ssum M.2.2 - n0) (nC' - M.2.2.length) (nS' - ssum M.2.2) (F0 m pc la X0) (st.map (toV α)) (Qcx G α M nC' nS' Q' a) (gB G))
    (kk : ∀ r M', Q' r M' → (M'.2.2.length = nC' ∧ ssum M'.2.2 = nS') ∧ Wp G p e s m args below meth c R α0 N0 n0 maxL nC nS Qf (pc + 3) ls (r.toList ++ st) M') : W p G.1 e R s m args below meth c H locs (M.2.2.length - N0) (ssum M.2.2 - n0) Qf (F0 m pc la X0) := by
  obtain ⟨⟨a1, a1'⟩, ⟨hP, hD, hSS⟩, hm, hls, -, hlv, b1, b2, b3, b4, b5⟩ := hw
  intro T hT X
  obtain ⟨v, st₀, t, T', L, h0, X', hL, e1, e2, ⟨⟨r, M', α', hv, hq, ⟨g1, g2⟩, ⟨hP', hD'⟩, hm', hr', f1, f2, f3, f4⟩, hz, hk⟩, stp⟩ := hr T hT X
  cases hv
  obtain ⟨⟨x1, x2⟩, kw⟩ := kk r M' hq
  have g3 : ∀ k, 1000 ≤ k → α' k = α k := fun k h => (g2 k h).trans (a1' k h).symm
  have ec : M.2.2.length - N0 + (nC' - M.2.2.length) = M'.2.2.length - N0 := by omega
  have es : ssum M.2.2 - n0 + (nS' - ssum M.2.2) = ssum M'.2.2 - n0 := by omega
  rw [ec, es] at X'
  rw [h0] at hz hk
  obtain ⟨t2, z1, z2⟩ := kw α' T'.heap (locs ++ L) la ⟨⟨fun k h => (g1 k (by omega)).trans (a1 k h), g2⟩, ⟨by rw [e1]; exact hP', hD',
      ⟨Nat.le_trans hSS.1 (by rw [e1]; exact hz), fun q h1 h2 => by rw [e1, hk q (Nat.lt_of_lt_of_le h1 hSS.1) h2]; exact hSS.2.1 q h1 h2, fun q hq => by
        rcases List.mem_append.mp hq with h | h
        · exact hSS.2.2 q h
        · exact hL q h⟩⟩, hm', fun v h => (hls v h).mono f1, fun v h => by
        rcases List.mem_append.mp h with h | h
        · exact hr' v h
        · exact (hst v h).mono f1, lvs_agree g1 g3 hls hlv, by omega, by omega, by omega, by omega, b5⟩ T' rfl X'
  refine ⟨t2, stp t2 ?_, z2⟩
  have e9 : (r.map (toV α')).toList ++ st.map (toV α) = (r.toList ++ st).map (toV α') := by
    rw [List.map_append, map_agree g1 g3 hst]
    cases r <;> rfl
  show Steps p.tables e below (T'.setTop (F0 m (pc + 3) la ((r.map (toV α')).toList ++ st.map (toV α)))) t2
  rw [e9]
  exact z1
end MJD
theorem Pcx_blind {G : GE} {α : Nat → Nat} {as : List Vl} {M : Mem} : FrameBlind (Pcx G α as M) := by
  intro a U g mk q
  obtain ⟨h1, h2, h3, h4, h5, h6⟩ := q
  exact ⟨h1, h2, va_K.moved (u := U) (U := U.calling g mk a) (Vm.Alike.refl U.vm) h3, Ext_same (u := U) (U := U.calling g mk a) rfl h4, h5, h6⟩
theorem Pcx_of {G : GE} {s : State} {α0 : Nat → Nat} {N0 n0 maxL nC nS : Nat} {α : Nat → Nat} {H : Heap} {locs : List Loc} {la : Array Slot} {ls st as : List Vl} {M : Mem} (hw : Wi G s α0 N0 n0 maxL nC nS α H locs la ls st M) (hbs : G.2.2.2.2.1 ≤ s.heap.size) (hK : va_K (gD G) vwCl (gY G) s) (hE : Ext G s s.heap) (U : State) (hU : U.heap = H) (hW : s.WarmedH U.vm) : Pcx G α as M (as.map (toV α)).toArray U := by
  obtain ⟨-, ⟨hP, hD, hS⟩, -⟩ := hw
  refine ⟨rfl, ?_, va_K.moved hW.alike hK, ?_, by rw [hU]; exact hP, hD⟩
  · rw [hU]; exact Nat.le_trans hbs hS.1
  · rw [hU]; exact Ext_warm hW (Ext_kept hE hS.2.1)
theorem cat_le {α : Nat → Nat} : ∀ (st : List Vl) (n : Nat), st.length ≤ n → ((st.map (toV α)).map fun v => v.category).sum ≤ 2 * n
  | [], n, h => by simp
  | v :: r, n, h => by
    have h1 : (toV α v).category ≤ 2 := by rcases v with z | z | _ | k <;> simp [toV, Value.category]
    have h2 := cat_le (α := α) r (n - 1) (by simp at h; omega)
    simp only [List.map_cons, List.sum_cons]
    simp only [List.length_cons] at h
    omega
section MJE
variable {G : GE} {own : String} {ini : Bool} {cc : ByteArray} {maxL d nC nS : Nat} {J : Jd} {pc : Nat} {ls st : List Vl} {M : Mem}
theorem mj_callV (hJ : OkJ G own ini cc maxL d nC nS J) {idx maxL' n d' ci k sz nC' nS' : Nat} {y : MethodName} {cc' : ByteArray} {ret' : Option FieldType} {Q' : Option Vl → Mem → Prop} {C : String} {T : u_T} {N : Nat} (xs : List Vl) (hd : decode cc pc = .ok (.invokevirtual idx, 3)) (cw : CwV own idx y cc' maxL' ret' n) (hk : M.2.2[k]? = some (ci, sz)) (hc : vwCl[ci]? = some (C, T, N)) (hy : y.cls = C) (hn : xs.length = n) (hst : st.length ≤ 4) (hdd : d' + 1 ≤ d)
    (h : Mth G y cc' maxL' ret' d' (vr k :: xs) M nC' nS' Q') (hC : nC' ≤ nC) (hS : nS' ≤ nS) (hC1 : M.2.2.length ≤ nC') (hS1 : ssum M.2.2 ≤ nS')
    (kk : ∀ r M', Q' r M' → (M'.2.2.length = nC' ∧ ssum M'.2.2 = nS') ∧ J (pc + 3) ls (r.toList ++ st) M') : J pc ls (xs.reverse ++ vr k :: st) M := by
  obtain ⟨p, e, s, m, args, below, meth, c0, R, α0, N0, n0, Qf, ⟨hx, hb, hml, hown, hin⟩, ⟨hts, hbs, hK, hE⟩, ⟨r1, r2, r3, r4⟩, rfl⟩ := hJ
  intro α H locs la hw
  have hs := hw.2.2.2.2.1
  have hst' : ∀ v ∈ st, okV M.2.2.length v := fun v hv => hs v (by simp [hv])
  have hxs : ∀ v ∈ vr k :: xs, okV M.2.2.length v := fun v hv => hs v (by
    rcases List.mem_cons.mp hv with rfl | hv
    · simp
    · simp [hv])
  obtain ⟨w1, w2, w3, w4, w5, w6, w7⟩ := cw
  have hc16 := (cl_ok hc).2.2.2
  have he := wd_at (G := G) (α := α) hk
  rw [cE_o hc16] at he
  have hM := h α hw.1.2 hw.2.2.1 hxs hC1 hS1 (by have := hw.2.2.2.2.2.2.2.2.2.2; omega)
  have hwc := hw.2.2.2.2.2.2
  have eX : (xs.reverse ++ vr k :: st).map (toV α) = (xs.map (toV α)).reverse ++ .ref (α k) :: st.map (toV α) := by
    rw [List.map_append, List.map_reverse]
    rfl
  rw [eX]
  refine mj_back (st := st) (a := ((vr k :: xs).map (toV α)).toArray) hw hst' hC hS hC1 hS1 ?_ kk
  refine va_runV (As := xs.map (toV α)) (nL := maxL) (Ts := lw_gd) (own := own) (C := C) (n := n) (ws := Cond.code y cc' maxL' ret' :: lw_gd) (b := α k) ⟨hx, hb, hml, hown, hts⟩ hM ⟨callB_of (ws' := lw_gd) n hts (code_in w5) rfl rfl rfl (hts _ w4) (hts _ w1) w6 ⟨by show d' + 1 ≤ R.frames; omega, by show 8 + (maxL' + 11) + (100 * d' + 100) ≤ R.locals; omega⟩, hts _ w2, by rw [← hy]; exact hts _ w3⟩ ⟨Pcx_blind, va_recv hK hw.2.1.1 hc he, fun U hU hW => Pcx_of hw hbs hK hE U hU hW⟩ rfl (by simpa using hn) hw.2.2.2.2.2.1.1 rfl ?_ hd ⟨by omega, by omega⟩
  show 2 * 0 + _ ≤ 8
  have := cat_le (α := α) st 4 hst
  omega
theorem mj_callS (hJ : OkJ G own ini cc maxL d nC nS J) {idx maxL' n d' nC' nS' : Nat} {y : MethodName} {cc' : ByteArray} {ret' : Option FieldType} {Q' : Option Vl → Mem → Prop} (xs : List Vl) (hd : decode cc pc = .ok (.invokestatic idx, 3)) (cw : CwS own idx y cc' maxL' ret' n) (hn : xs.length = n) (hst : st.length ≤ 4) (hdd : d' + 1 ≤ d)
    (h : Mth G y cc' maxL' ret' d' xs M nC' nS' Q') (hC : nC' ≤ nC) (hS : nS' ≤ nS) (hC1 : M.2.2.length ≤ nC') (hS1 : ssum M.2.2 ≤ nS')
    (kk : ∀ r M', Q' r M' → (M'.2.2.length = nC' ∧ ssum M'.2.2 = nS') ∧ J (pc + 3) ls (r.toList ++ st) M') : J pc ls (xs.reverse ++ st) M := by
  obtain ⟨p, e, s, m, args, below, meth, c0, R, α0, N0, n0, Qf, ⟨hx, hb, hml, hown, hin⟩, ⟨hts, hbs, hK, hE⟩, ⟨r1, r2, r3, r4⟩, rfl⟩ := hJ
  intro α H locs la hw
  have hs := hw.2.2.2.2.1
  have hst' : ∀ v ∈ st, okV M.2.2.length v := fun v hv => hs v (by simp [hv])
  have hxs : ∀ v ∈ xs, okV M.2.2.length v := fun v hv => hs v (by simp [hv])
  obtain ⟨w1, w2, w4, w5, w6, w7⟩ := cw
  have hM := h α hw.1.2 hw.2.2.1 hxs hC1 hS1 (by have := hw.2.2.2.2.2.2.2.2.2.2; omega)
  have hwc := hw.2.2.2.2.2.2
  have eX : (xs.reverse ++ st).map (toV α) = (xs.map (toV α)).reverse ++ st.map (toV α) := by
    rw [List.map_append, List.map_reverse]
  rw [eX]
  refine mj_back (st := st) (a := (xs.map (toV α)).toArray) hw hst' hC hS hC1 hS1 ?_ kk
  have hcat : 2 * (F0 m pc la ((xs.map (toV α)).reverse ++ st.map (toV α))).monitorRoom + ((st.map (toV α)).map fun v => v.category).sum ≤ 8 := by
    show 2 * 0 + _ ≤ 8
    have := cat_le (α := α) st 4 hst
    omega
  rcases w1 with w1 | ⟨host, w1⟩
  · exact va_runS (As := xs.map (toV α)) (nL := maxL) (Ts := lw_gd) (own := own) (n := n) (ws := Cond.code y cc' maxL' ret' :: lw_gd) ⟨hx, hb, hml, hown, hts⟩ hM ⟨callB_of (ws' := lw_gd) n hts (code_in w5) rfl rfl rfl (hts _ w4) (hts _ w1) w6 ⟨by show d' + 1 ≤ R.frames; omega, by show 8 + (maxL' + 11) + (100 * d' + 100) ≤ R.locals; omega⟩, hts _ w2⟩ ⟨Pcx_blind, fun U hU hW => Pcx_of hw hbs hK hE U hU hW⟩ rfl (by simpa using hn) hw.2.2.2.2.2.1.1 rfl hcat hd ⟨by omega, by omega⟩
  · exact va_runSN (As := xs.map (toV α)) (nL := maxL) (Ts := lw_gd) (own := own) (n := n) (host := host) (ws := Cond.code y cc' maxL' ret' :: lw_gd) ⟨hx, hb, hml, hown, hts⟩ hM ⟨va_cnB (ws' := lw_gd) n hts (code_in w5) rfl rfl rfl (hE.2.2.2.2.2.1 _ w1) (hts _ w4) w6 ⟨by show d' + 1 ≤ R.frames; omega, by show 8 + (maxL' + 11) + (100 * d' + 100) ≤ R.locals; omega⟩, hts _ w2, trivial⟩ ⟨Pcx_blind, fun U hU hW => Pcx_of hw hbs hK hE U hU hW⟩ rfl (by simpa using hn) hw.2.2.2.2.2.1.1 rfl hcat hd ⟨by omega, by omega⟩
theorem mj_callI (hJ : OkJ G own ini cc maxL d nC nS J) {idx maxL' n d' k nC' nS' : Nat} {y : MethodName} {host : String} {cc' : ByteArray} {Q' : Option Vl → Mem → Prop} (xs : List Vl) (hd : decode cc pc = .ok (.invokespecial idx, 3)) (cw : CwI own idx y host cc' maxL' n) (hn : xs.length = n) (hst : st.length ≤ 4) (hdd : d' + 1 ≤ d)
    (h : Mth G y cc' maxL' none d' (vr k :: xs) M nC' nS' Q') (hC : nC' ≤ nC) (hS : nS' ≤ nS) (hC1 : M.2.2.length ≤ nC') (hS1 : ssum M.2.2 ≤ nS')
    (kk : ∀ r M', Q' r M' → (M'.2.2.length = nC' ∧ ssum M'.2.2 = nS') ∧ J (pc + 3) ls (r.toList ++ st) M') : J pc ls (xs.reverse ++ vr k :: st) M := by
  obtain ⟨p, e, s, m, args, below, meth, c0, R, α0, N0, n0, Qf, ⟨hx, hb, hml, hown, hin⟩, ⟨hts, hbs, hK, hE⟩, ⟨r1, r2, r3, r4⟩, rfl⟩ := hJ
  intro α H locs la hw
  have hs := hw.2.2.2.2.1
  have hst' : ∀ v ∈ st, okV M.2.2.length v := fun v hv => hs v (by simp [hv])
  have hxs : ∀ v ∈ vr k :: xs, okV M.2.2.length v := fun v hv => hs v (by
    rcases List.mem_cons.mp hv with rfl | hv
    · simp
    · simp [hv])
  obtain ⟨w1, w2, w3, w4, w5, w6, w7⟩ := cw
  have hM := h α hw.1.2 hw.2.2.1 hxs hC1 hS1 (by have := hw.2.2.2.2.2.2.2.2.2.2; omega)
  have hwc := hw.2.2.2.2.2.2
  have eX : (xs.reverse ++ vr k :: st).map (toV α) = (xs.map (toV α)).reverse ++ .ref (α k) :: st.map (toV α) := by
    rw [List.map_append, List.map_reverse]
    rfl
  rw [eX]
  refine mj_back (st := st) (a := ((vr k :: xs).map (toV α)).toArray) hw hst' hC hS hC1 hS1 ?_ kk
  have hcat : 2 * (F0 m pc la ((xs.map (toV α)).reverse ++ .ref (α k) :: st.map (toV α))).monitorRoom + ((st.map (toV α)).map fun v => v.category).sum ≤ 8 := by
    show 2 * 0 + _ ≤ 8
    have := cat_le (α := α) st 4 hst
    omega
  rcases w1 with w1 | w1
  · exact va_runI (As := xs.map (toV α)) (nL := maxL) (Ts := lw_gd) (own := own) (n := n) (ws := Cond.code y cc' maxL' none :: lw_gd) (b := α k) ⟨hx, hb, hml, hown, hts⟩ hM ⟨callB_of (ws' := lw_gd) n hts (code_in w5) rfl rfl rfl (hts _ w4) (hts _ w1) w6 ⟨by show d' + 1 ≤ R.frames; omega, by show 8 + (maxL' + 11) + (100 * d' + 100) ≤ R.locals; omega⟩, w3, hts _ w2⟩ ⟨Pcx_blind, fun U hU hW => Pcx_of (as := vr k :: xs) hw hbs hK hE U hU hW⟩ rfl (by simpa using hn) hw.2.2.2.2.2.1.1 rfl hcat hd ⟨by omega, by omega⟩
  · exact va_runIN (As := xs.map (toV α)) (nL := maxL) (Ts := lw_gd) (own := own) (n := n) (host := host) (ws := Cond.code y cc' maxL' none :: lw_gd) (b := α k) ⟨hx, hb, hml, hown, hts⟩ hM ⟨va_cnB (ws' := lw_gd) n hts (code_in w5) rfl rfl rfl (hE.2.2.2.2.2.1 _ w1) (hts _ w4) w6 ⟨by show d' + 1 ≤ R.frames; omega, by show 8 + (maxL' + 11) + (100 * d' + 100) ≤ R.locals; omega⟩, w3, hts _ w2⟩ ⟨Pcx_blind, fun U hU hW => Pcx_of (as := vr k :: xs) hw hbs hK hE U hU hW⟩ rfl (by simpa using hn) hw.2.2.2.2.2.1.1 rfl hcat hd ⟨by omega, by omega⟩
end MJE
/-! how a method begins and ends -/
def entL : List Vl → List Vl
  | [] => []
  | .inr (.inl z) :: r => vj z :: vu :: entL r
  | .inl z :: r => vi z :: entL r
  | .inr (.inr q) :: r => .inr (.inr q) :: entL r
theorem lvs_vu {α : Nat → Nat} : ∀ (k n : Nat), lvs α n (List.replicate k vu) = []
  | 0, _ => rfl
  | k + 1, n => by rw [List.replicate_succ]; exact lvs_vu k (n + 1)
theorem entL_len {α : Nat → Nat} : ∀ as : List Vl, (lg_sl (as.map (toV α))).length = (entL as).length
  | [] => rfl
  | .inr (.inl z) :: r => by
    have h := entL_len (α := α) r
    simp only [lg_sl, List.map_cons, List.flatMap_cons, List.length_append, entL, List.length_cons] at h ⊢
    rw [h]
    simp [toV, Value.category]
    omega
  | .inl z :: r => by
    have h := entL_len (α := α) r
    simp only [lg_sl, List.map_cons, List.flatMap_cons, List.length_append, entL, List.length_cons] at h ⊢
    rw [h]
    simp [toV, Value.category]
    omega
  | .inr (.inr none) :: r => by
    have h := entL_len (α := α) r
    simp only [lg_sl, List.map_cons, List.flatMap_cons, List.length_append, entL, List.length_cons] at h ⊢
    rw [h]
    simp [toV, Value.category]
    omega
  | .inr (.inr (some k)) :: r => by
    have h := entL_len (α := α) r
    simp only [lg_sl, List.map_cons, List.flatMap_cons, List.length_append, entL, List.length_cons] at h ⊢
    rw [h]
    simp [toV, Value.category]
    omega
theorem entL_args {α : Nat → Nat} (k : Nat) : ∀ (as : List Vl) (n : Nat) (q : Nat × Value), q ∈ lvs α n (entL as ++ List.replicate k vu) → q ∈ lv_args n (as.map (toV α))
  | [], n, q, h => by
    rw [show entL [] ++ List.replicate k vu = List.replicate k vu from rfl, lvs_vu] at h
    cases h
  | .inr (.inl z) :: r, n, q, h => by
    rcases List.mem_cons.mp (show q ∈ (n, toV α (vj z)) :: lvs α (n + 2) (entL r ++ List.replicate k vu) from h) with h | h
    · exact h ▸ List.mem_cons_self
    · exact List.mem_cons_of_mem _ (entL_args k r (n + 2) q h)
  | .inl z :: r, n, q, h => by
    rcases List.mem_cons.mp (show q ∈ (n, toV α (vi z)) :: lvs α (n + 1) (entL r ++ List.replicate k vu) from h) with h | h
    · exact h ▸ List.mem_cons_self
    · exact List.mem_cons_of_mem _ (entL_args k r (n + 1) q h)
  | .inr (.inr none) :: r, n, q, h => List.mem_cons_of_mem _ (entL_args k r (n + 1) q h)
  | .inr (.inr (some a)) :: r, n, q, h => by
    rcases List.mem_cons.mp (show q ∈ (n, toV α (vr a)) :: lvs α (n + 1) (entL r ++ List.replicate k vu) from h) with h | h
    · exact h ▸ List.mem_cons_self
    · exact List.mem_cons_of_mem _ (entL_args k r (n + 1) q h)
theorem entL_ok {N : Nat} : ∀ (as : List Vl), (∀ v ∈ as, okV N v) → ∀ v ∈ entL as, okV N v
  | [], _ => fun v h => by cases h
  | .inr (.inl z) :: r, h => ok_cons trivial (ok_cons trivial (entL_ok r (ok_t h)))
  | .inl z :: r, h => ok_cons (ok_h h) (entL_ok r (ok_t h))
  | .inr (.inr q) :: r, h => ok_cons (ok_h h) (entL_ok r (ok_t h))
def RetI (cc : ByteArray) (ty : FieldType) (Q : Option Vl → Mem → Prop) (J : Jd) : Prop := ∀ (pc : Nat) (ls : List Vl) (z : Int) (M : Mem), decode cc pc = .ok (.ireturn, 1) → narrow ty (.int (i32 z)) = .int (i32 z) → Q (some (vi z)) M → J pc ls [vi z] M
def RetV (cc : ByteArray) (Q : Option Vl → Mem → Prop) (J : Jd) : Prop := ∀ (pc : Nat) (ls : List Vl) (M : Mem), decode cc pc = .ok (.return_, 1) → Q none M → J pc ls [] M
set_option maxHeartbeats 4000000 in
theorem mth_enter {G : GE} {y : MethodName} {cc : ByteArray} {maxL : Nat} {ret : Option FieldType} {d : Nat} {as : List Vl} {M : Mem} {nC nS : Nat} {Q : Option Vl → Mem → Prop} {own : String} {ini : Bool} (hown0 : y.cls = own) (hini : ini = true → y.name = "<init>") (hy : plainName y.cls = true) (hl : (entL as).length ≤ maxL)
    (body : ∀ J : Jd, OkJ G own ini cc maxL d nC nS J → (∀ ty, ret = some ty → RetI cc ty Q J) → (ret = none → RetV cc Q J) → J 0 (entL as ++ List.replicate (maxL - (entL as).length) vu) [] M) : Mth G y cc maxL ret d as M nC nS Q := by
  intro α hα hm has hC hS hC9
  subst hown0
  refine Met.ofW (cc := cc) (maxL := maxL) (ret := ret) hy rfl ?_
  intro p e s m args below meth c s₁ B hml hv
  obtain ⟨rfl, hbs, hK, hE, hP, hD⟩ := hv
  have hx := B.exec
  have hb := B.bytes
  have hr := B.returns
  have hts := atoms_spec (ws := Cond.code y cc maxL ret :: lw_gd) B.pre
  have hown : s.vm.findClass y.cls = some m.cls := findClass_of_methodNamed B.named
  have hlocks := B.notSynchronized
  have hin : meth.name = y.name := (name_of_methodNamed B.named B.method).1
  have hl0 := lv_entry (as.map (toV α)) (n := maxL) (by rw [entL_len]; exact hl)
  rw [lg_entry_eq]
  generalize hla : ((lg_sl (as.map (toV α)) ++ List.replicate (maxL - (lg_sl (as.map (toV α))).length) Slot.unset).toArray) = la at hl0 ⊢
  let R : Room := { frames := d, cells := nC - M.2.2.length, slots := nS - ssum M.2.2, locals := 100 * d + 100 }
  have hcells : ∀ {α' : Nat → Nat} {H : Heap} {locs : List Loc} {la' : Array Slot} {ls st : List Vl} {M' : Mem}, Wi G s α M.2.2.length (ssum M.2.2) maxL nC nS α' H locs la' ls st M' → M'.2.2.length - M.2.2.length ≤ nC - M.2.2.length ∧ ssum M'.2.2 - ssum M.2.2 ≤ nS - ssum M.2.2 := fun h => by
    have := h.2.2.2.2.2.2
    omega
  have hJ : OkJ G y.cls ini cc maxL d nC nS (Wp G p e s m (as.map (toV α)).toArray below meth c R α M.2.2.length (ssum M.2.2) maxL nC nS (MQ below (Qcx G α M nC nS Q) (as.map (toV α)).toArray s (nC - M.2.2.length) (nS - ssum M.2.2) (gB G))) :=
    ⟨p, e, s, m, (as.map (toV α)).toArray, below, meth, c, R, α, M.2.2.length, ssum M.2.2, _, ⟨hx, hb, hml, hown, fun q => hin.trans (hini q)⟩, ⟨fun w hw => hts w (List.mem_cons_of_mem _ hw), hbs, hK, hE⟩, ⟨rfl, rfl, by show nC - M.2.2.length + M.2.2.length = nC; omega, by show nS - ssum M.2.2 + ssum M.2.2 = nS; omega⟩, rfl⟩
  have key := body _ hJ ?_ ?_ α s.heap [] la ⟨⟨fun _ _ => rfl, hα⟩, ⟨hP, hD, va_S.rf⟩, hm, fun v hv => ?_, fun v hv => by (cases hv), ⟨hl0.1, hl0.2.1, fun q hq => hl0.2.2 q (entL_args _ as 0 q hq)⟩, Nat.le_refl _, Nat.le_refl _, hC, hS, hC9⟩
  · have e1 : M.2.2.length - M.2.2.length = 0 := Nat.sub_self _
    have e2 : ssum M.2.2 - ssum M.2.2 = 0 := Nat.sub_self _
    rw [e1, e2] at key
    exact key
  · intro ty hty pc ls z M' hd hn hq α' H locs la' hw
    obtain ⟨⟨a1, a2⟩, ⟨hP', hD', hS'⟩, hm', hls, hst, hlv, b⟩ := id hw
    refine W.widen (hcells hw).1 (hcells hw).2 ?_
    exact W.zret (v := i32 z) (ty := ty) hx hb (hr.trans hty) hn (fun t ht hW => ⟨⟨some (vi z), M', α', rfl, hq, ⟨a1, a2⟩, ⟨by rw [ht]; exact hP', hD'⟩, hm', hst, b.1, b.2.1, b.2.2.1, b.2.2.2.1⟩, hS'.F ht⟩) hS'.2.2 hd
  · intro hty pc ls M' hd hq α' H locs la' hw
    obtain ⟨⟨a1, a2⟩, ⟨hP', hD', hS'⟩, hm', hls, hst, hlv, b⟩ := id hw
    refine W.widen (hcells hw).1 (hcells hw).2 ?_
    exact W.vret hx hb (hr.trans hty) (fun t ht hW => ⟨⟨none, M', α', rfl, hq, ⟨a1, a2⟩, ⟨by rw [ht]; exact hP', hD'⟩, hm', hst, b.1, b.2.1, b.2.2.1, b.2.2.2.1⟩, hS'.F ht⟩) hS'.2.2 hd
  · rcases List.mem_append.mp hv with h | h
    · exact entL_ok as has v h
    · rw [List.eq_of_mem_replicate h]
      exact trivial
