/-! a text constant in its wide form -/
section RU2
variable {G : GE} {own : String} {ini : Bool} {cc : ByteArray} {maxL d nC nS : Nat} {J : Jd} {pc : Nat} {ls st : List Vl} {M : Mem}
theorem mj_ldcwS (hJ : OkJ G own ini cc maxL d nC nS J) {i idx : Nat} (hd : decode cc pc = .ok (.ldc_w idx, 3)) (hi : i < 22) (h1 : (sTx i).1 = own) (h2 : (sTx i).2.1 = idx) (kk : J (pc + 3) ls (vr (1000 + i) :: st) M) : J pc ls st M := by
  obtain ⟨p, e, s, m, args, below, meth, c0, R, α0, N0, n0, Qf, ⟨hx, hb, hml, hown, hin⟩, ⟨hts, hbs, hK, hE⟩, hR, rfl⟩ := hJ
  intro α H locs la hw
  have hs := hw.2.2.2.2.1
  have hk2 := kk α H locs la (Wi_st hw (ok_cons (Or.inr (by omega)) hs))
  have e2 : toV α (vr (1000 + i)) = .ref (gA G (1000 + i)) := congrArg Value.ref (gA_of hw (by omega))
  rw [List.map_cons, e2] at hk2
  have hZ := (hE.1 i hi).1
  rw [h1, h2] at hZ
  intro T hT X
  obtain ⟨t, a1, b1⟩ := hk2 T hT X
  exact ⟨t, X.ldcStringW hx hown (text := (sTx i).2.2.1) (a := gA G (1000 + i)) hZ.1 hZ.2 (g := F0 m pc la (st.map (toV α))) rfl (by rw [hb]; exact hd) t a1, b1⟩
end RU2
