/-! a method of a class that isn't plainly named, for which the table of natives has no row (the statics of Math) -/
section RU3
theorem Met_ofWF {l : Launch} {y : MethodName} {ws ws' : List Cond} {rm : Room} {Pc : Array Value → State → Prop} {Qc : Array Value → State → Outcome → State → Prop} {mc ms : Nat} {free : Addr → Prop} {cc : ByteArray} {maxL : Nat} {ret : Option FieldType}
    (hy : plainFor y = true) (hw : ws = Cond.code y cc maxL ret :: ws')
    (body : ∀ p e s m args below meth c s₁, BodyLoose p l y (headSpec ws rm) cc maxL ret e s m args below meth c s₁ → c.maxLocals = maxL → Pc args s →
      W p l e (headSpec ws rm).room s m args below meth c s.heap [] 0 0 (MQ below Qc args s mc ms free) (entryFrame m args maxL)) : Met l y ws rm Pc Qc mc ms free := by
  refine MetFree.of_bodySF (code := cc) (maxLocals := maxL) (ret := ret) hy ?_ ?_
  · intro args s m h hn
    obtain ⟨meth, c, h1, h2, h3, h4, h5, h6, -, -⟩ := Cond.code_spec hn (atoms_spec (ws := ws) h _ (by rw [hw]; exact List.mem_cons_self))
    exact ⟨meth, c, h1, h2, h3, h4, h5, h6⟩
  · intro p e s m args below meth c s₁ B hml hP _
    have hh0 : s₁.heap = s.heap := by rw [B.state]; rfl
    obtain ⟨t, a1, o, b1, b2, b3⟩ := body p e s m args below meth c s₁ B hml hP s₁ hh0 (Stand.of_body B)
    exact ⟨t, o, a1, b1, b2, ⟨b3.1, b3.2⟩⟩
set_option maxHeartbeats 4000000 in
theorem mth_enterF {G : GE} {y : MethodName} {cc : ByteArray} {maxL : Nat} {ret : Option FieldType} {d : Nat} {as : List Vl} {M : Mem} {nC nS : Nat} {Q : Option Vl → Mem → Prop} {own : String} {ini : Bool} (hown0 : y.cls = own) (hini : ini = true → y.name = "<init>") (hy : plainFor y = true) (hl : (entL as).length ≤ maxL)
    (body : ∀ J : Jd, OkJ G own ini cc maxL d nC nS J → (∀ ty, ret = some ty → RetI cc ty Q J) → (ret = none → RetV cc Q J) → J 0 (entL as ++ List.replicate (maxL - (entL as).length) vu) [] M) : Mth G y cc maxL ret d as M nC nS Q := by
  intro α hα hm has hC hS hC9
  subst hown0
  refine Met_ofWF (cc := cc) (maxL := maxL) (ret := ret) hy rfl ?_
  intro p e s m args below meth c s₁ B hml hv
  obtain ⟨rfl, hbs, hK, hE, hP, hD⟩ := hv
  have hx := B.exec
  have hb := B.bytes
  have hr := B.returns
  have hts := atoms_spec (ws := Cond.code y cc maxL ret :: lw_gd) B.pre
  have hown : s.vm.findClass y.cls = some m.cls := findClass_of_methodNamed B.named
  have hlocks := B.notSynchronized
  have hin : meth.name = y.name := (name_of_methodNamed B.named B.method).1
  have hl0 := lv_entry (as.map (toV α)) (n := maxL) (by rw [entL_len]; exact hl)
  rw [lg_entry_eq]
  generalize hla : ((lg_sl (as.map (toV α)) ++ List.replicate (maxL - (lg_sl (as.map (toV α))).length) Slot.unset).toArray) = la at hl0 ⊢
  let R : Room := { frames := d, cells := nC - M.2.2.length, slots := nS - ssum M.2.2, locals := 100 * d + 100 }
  have hcells : ∀ {α' : Nat → Nat} {H : Heap} {locs : List Loc} {la' : Array Slot} {ls st : List Vl} {M' : Mem}, Wi G s α M.2.2.length (ssum M.2.2) maxL nC nS α' H locs la' ls st M' → M'.2.2.length - M.2.2.length ≤ nC - M.2.2.length ∧ ssum M'.2.2 - ssum M.2.2 ≤ nS - ssum M.2.2 := fun h => by
    have := h.2.2.2.2.2.2
    omega
  have hJ : OkJ G y.cls ini cc maxL d nC nS (Wp G p e s m (as.map (toV α)).toArray below meth c R α M.2.2.length (ssum M.2.2) maxL nC nS (MQ below (Qcx G α M nC nS Q) (as.map (toV α)).toArray s (nC - M.2.2.length) (nS - ssum M.2.2) (gB G))) :=
    ⟨p, e, s, m, (as.map (toV α)).toArray, below, meth, c, R, α, M.2.2.length, ssum M.2.2, _, ⟨hx, hb, hml, hown, fun q => hin.trans (hini q)⟩, ⟨fun w hw => hts w (List.mem_cons_of_mem _ hw), hbs, hK, hE⟩, ⟨rfl, rfl, by show nC - M.2.2.length + M.2.2.length = nC; omega, by show nS - ssum M.2.2 + ssum M.2.2 = nS; omega⟩, rfl⟩
  have key := body _ hJ ?_ ?_ α s.heap [] la ⟨⟨fun _ _ => rfl, hα⟩, ⟨hP, hD, va_S.rf⟩, hm, fun v hv => ?_, fun v hv => by (cases hv), ⟨hl0.1, hl0.2.1, fun q hq => hl0.2.2 q (entL_args _ as 0 q hq)⟩, Nat.le_refl _, Nat.le_refl _, hC, hS, hC9⟩
  · have e1 : M.2.2.length - M.2.2.length = 0 := Nat.sub_self _
    have e2 : ssum M.2.2 - ssum M.2.2 = 0 := Nat.sub_self _
    rw [e1, e2] at key
    exact key
  · intro ty hty pc ls z M' hd hn hq α' H locs la' hw
    obtain ⟨⟨a1, a2⟩, ⟨hP', hD', hS'⟩, hm', hls, hst, hlv, b⟩ := id hw
    refine W.widen (hcells hw).1 (hcells hw).2 ?_
    exact W.zret (v := i32 z) (ty := ty) hx hb (hr.trans hty) hn (fun t ht hW => ⟨⟨some (vi z), M', α', rfl, hq, ⟨a1, a2⟩, ⟨by rw [ht]; exact hP', hD'⟩, hm', hst, b.1, b.2.1, b.2.2.1, b.2.2.2.1⟩, hS'.F ht⟩) hS'.2.2 hd
  · intro hty pc ls M' hd hq α' H locs la' hw
    obtain ⟨⟨a1, a2⟩, ⟨hP', hD', hS'⟩, hm', hls, hst, hlv, b⟩ := id hw
    refine W.widen (hcells hw).1 (hcells hw).2 ?_
    exact W.vret hx hb (hr.trans hty) (fun t ht hW => ⟨⟨none, M', α', rfl, hq, ⟨a1, a2⟩, ⟨by rw [ht]; exact hP', hD'⟩, hm', hst, b.1, b.2.1, b.2.2.1, b.2.2.2.1⟩, hS'.F ht⟩) hS'.2.2 hd
  · rcases List.mem_append.mp hv with h | h
    · exact entL_ok as has v h
    · rw [List.eq_of_mem_replicate h]
      exact trivial
theorem mt_enterIF {G : GE} {own : String} {cc : ByteArray} {maxL d : Nat} {I : Ints} {b : Bool} {y : MethodName} {ret : Option FieldType} {ty : FieldType} {as ls0 : List Vl} {Q : Int → Ints → Bool → Prop} (hown : y.cls = own) (hy : plainFor y = true) (hl : (entL as).length ≤ maxL) (hret : ret = some ty) (hls : entL as ++ List.replicate (maxL - (entL as).length) vu = ls0)
    (body : ∀ J : Jd, OkJ G own false cc maxL d 143 9588 J → (∀ (pc : Nat) (ls : List Vl) (z : Int) (I' : Ints) (b' : Bool), decode cc pc = .ok (.ireturn, 1) → narrow ty (.int (i32 z)) = .int (i32 z) → Q z I' b' → J pc ls [vi z] (mk I' b')) → J 0 ls0 [] (mk I b)) : MtI G y cc maxL ret d as I b Q := by
  refine mth_enterF (own := own) (ini := false) hown (fun q => Bool.noConfusion q) hy hl (fun J hJ hR _ => ?_)
  rw [hls]
  exact body J hJ (fun pc ls z I' b' hd hn hq => hR ty hret pc ls z _ hd hn ⟨I', b', rfl, z, rfl, hq⟩)
end RU3
