/-! the memory behind the constructors: fixed shapes, fixed references (but the two rows that the storage swaps) -/
def S0 : List (Nat × Nat) := [(8, 14), (2, 8), (18, 6), (16, 6), (16, 6), (16, 6), (16, 6), (16, 6), (16, 6), (18, 6), (16, 13), (16, 13), (16, 13), (16, 13), (16, 13), (16, 13), (16, 6), (5, 6), (16, 8), (16, 8), (16, 8), (16, 200), (2, 8), (18, 6), (16, 6), (16, 6), (16, 6), (16, 6), (16, 6), (16, 6), (18, 6), (16, 13), (16, 13), (16, 13), (16, 13), (16, 13), (16, 13), (16, 6), (5, 6), (16, 8), (16, 8), (16, 8), (16, 200), (7, 7), (16, 6), (16, 6), (16, 6), (16, 6), (16, 6), (16, 6), (18, 7), (16, 149), (16, 149), (16, 149), (16, 149), (16, 149), (16, 149), (16, 149), (4, 5), (16, 6), (18, 6), (16, 5), (16, 5), (16, 5), (16, 5), (16, 5), (16, 5), (16, 5), (16, 5), (16, 9), (1, 2), (16, 6), (18, 7), (16, 121), (16, 121), (16, 121), (16, 121), (16, 121), (16, 121), (16, 121), (6, 7), (5, 6), (16, 8), (16, 8), (16, 8), (16, 200), (16, 200), (16, 201), (16, 201), (16, 201), (16, 6), (18, 6), (16, 3), (16, 3), (16, 3), (16, 3), (16, 3), (16, 3), (19, 4), (16, 4), (16, 4), (0, 6), (16, 30), (3, 3), (16, 40), (3, 3), (16, 40), (3, 3), (16, 40), (3, 3), (16, 40), (9, 44), (16, 356), (16, 356), (16, 1120), (16, 960), (16, 6), (16, 6), (16, 6), (16, 6), (16, 6), (16, 910), (16, 780), (16, 35), (16, 30), (16, 9), (17, 9), (16, 200), (16, 200), (16, 32), (16, 200), (16, 6), (16, 6), (16, 6), (16, 6), (16, 18), (16, 4), (16, 4), (16, 160), (16, 4), (16, 4), (16, 4), (16, 30)]
def RT : List (List (Option Nat)) := [
  [some 1, some 22, none, some 43, some 58, some 70, some 80, some 90, some 91, none, some 98, some 99, some 100, some 101],
  [none, some 2, some 9, none, some 16, none, none, some 17],
  [some 3, some 4, some 5, some 6, some 7, some 8],
  [],
  [],
  [],
  [],
  [],
  [],
  [some 10, some 11, some 12, some 13, some 14, some 15],
  [],
  [],
  [],
  [],
  [],
  [],
  [],
  [none, some 18, some 19, some 20, some 21, none],
  [],
  [],
  [],
  [],
  [none, some 23, some 30, none, some 37, none, none, some 38],
  [some 24, some 25, some 26, some 27, some 28, some 29],
  [],
  [],
  [],
  [],
  [],
  [],
  [some 31, some 32, some 33, some 34, some 35, some 36],
  [],
  [],
  [],
  [],
  [],
  [],
  [],
  [none, some 39, some 40, some 41, some 42, none],
  [],
  [],
  [],
  [],
  [some 44, some 45, some 46, some 47, some 48, some 49, some 50],
  [],
  [],
  [],
  [],
  [],
  [],
  [some 51, some 52, some 53, some 54, some 55, some 56, some 57],
  [],
  [],
  [],
  [],
  [],
  [],
  [],
  [some 59, some 60, some 67, some 68, some 69],
  [],
  [some 61, some 62, some 63, some 64, some 65, some 66],
  [],
  [],
  [],
  [],
  [],
  [],
  [],
  [],
  [],
  [some 71, some 72],
  [],
  [some 73, some 74, some 75, some 76, some 77, some 78, some 79],
  [],
  [],
  [],
  [],
  [],
  [],
  [],
  [none, some 81, some 86, some 87, some 88, some 89, none],
  [none, some 82, some 83, some 84, some 85, none],
  [],
  [],
  [],
  [],
  [],
  [],
  [],
  [],
  [],
  [some 92, some 93, some 94, some 95, some 96, some 97],
  [],
  [],
  [],
  [],
  [],
  [],
  [some 103, some 105, some 107, some 109],
  [],
  [],
  [some 102, none, none, none, none, none],
  [],
  [none, none, some 104],
  [],
  [none, none, some 106],
  [],
  [none, none, some 108],
  [],
  [none, none, some 110],
  [],
  [some 112, some 113, none, some 114, some 115, some 116, some 117, some 118, some 119, some 120, some 121, some 122, some 123, some 124, some 125, some 126, some 127, none, none, none, none, none, none, some 128, some 129, some 130, some 131, some 132, some 133, some 134, some 135, none, some 136, some 137, some 138, some 139, some 140, some 141, some 142, none, none, none, none, none],
  [],
  [],
  [],
  [],
  [],
  [],
  [],
  [],
  [],
  [],
  [],
  [],
  [],
  [],
  [],
  [],
  [],
  [],
  [],
  [],
  [],
  [],
  [],
  [],
  [],
  [],
  [],
  [],
  [],
  [],
  []]
def RR (b : Bool) (k : Nat) (j : Int) : Option Nat := if k = 58 ∧ j = 2 then (if b = true then some 67 else some 68) else if k = 58 ∧ j = 3 then (if b = true then some 68 else some 67) else if j < 0 then none else (RT.getD k []).getD j.toNat none
abbrev mk (I : Nat → Int → Int) (b : Bool) : Mem := (I, RR b, S0)
theorem S0_len : S0.length = 143 := by decide +kernel
theorem S0_sum : ssum S0 = 9588 := by decide +kernel
theorem RT_ok : RT.all (fun l => l.all (fun o => o.all (fun r => decide (r < 143)))) = true := by decide +kernel
theorem RR_ok {b : Bool} {k : Nat} {j : Int} {r : Nat} (h : RR b k j = some r) : r < 143 := by
  unfold RR at h
  split at h
  · split at h <;> (cases h; decide)
  · split at h
    · split at h <;> (cases h; decide)
    · split at h
      · cases h
      · rw [List.getD_eq_getElem?_getD, List.getD_eq_getElem?_getD] at h
        cases h1 : RT[k]? with
        | none => rw [h1] at h; simp at h
        | some l =>
          rw [h1] at h
          cases h2 : l[j.toNat]? with
          | none => simp [h2] at h
          | some o =>
            simp [h2] at h
            subst h
            have h3 := List.all_eq_true.mp (List.all_eq_true.mp RT_ok l (List.mem_of_getElem? h1)) _ (List.mem_of_getElem? h2)
            simpa using h3
theorem gr_2 {b : Bool} {v : Int} (h0 : 0 ≤ v) (h1 : v < 6) : RR b 2 v = some (3 + v.toNat) ∧ S0[3 + v.toNat]? = some (16, 6) := by
  obtain ⟨n, rfl⟩ := Int.eq_ofNat_of_zero_le h0
  match n, h1 with
  | 0, _ => exact ⟨rfl, rfl⟩
  | 1, _ => exact ⟨rfl, rfl⟩
  | 2, _ => exact ⟨rfl, rfl⟩
  | 3, _ => exact ⟨rfl, rfl⟩
  | 4, _ => exact ⟨rfl, rfl⟩
  | 5, _ => exact ⟨rfl, rfl⟩
  | q + 6, h1 => omega
theorem gr_9 {b : Bool} {v : Int} (h0 : 0 ≤ v) (h1 : v < 6) : RR b 9 v = some (10 + v.toNat) ∧ S0[10 + v.toNat]? = some (16, 13) := by
  obtain ⟨n, rfl⟩ := Int.eq_ofNat_of_zero_le h0
  match n, h1 with
  | 0, _ => exact ⟨rfl, rfl⟩
  | 1, _ => exact ⟨rfl, rfl⟩
  | 2, _ => exact ⟨rfl, rfl⟩
  | 3, _ => exact ⟨rfl, rfl⟩
  | 4, _ => exact ⟨rfl, rfl⟩
  | 5, _ => exact ⟨rfl, rfl⟩
  | q + 6, h1 => omega
theorem gr_23 {b : Bool} {v : Int} (h0 : 0 ≤ v) (h1 : v < 6) : RR b 23 v = some (24 + v.toNat) ∧ S0[24 + v.toNat]? = some (16, 6) := by
  obtain ⟨n, rfl⟩ := Int.eq_ofNat_of_zero_le h0
  match n, h1 with
  | 0, _ => exact ⟨rfl, rfl⟩
  | 1, _ => exact ⟨rfl, rfl⟩
  | 2, _ => exact ⟨rfl, rfl⟩
  | 3, _ => exact ⟨rfl, rfl⟩
  | 4, _ => exact ⟨rfl, rfl⟩
  | 5, _ => exact ⟨rfl, rfl⟩
  | q + 6, h1 => omega
theorem gr_30 {b : Bool} {v : Int} (h0 : 0 ≤ v) (h1 : v < 6) : RR b 30 v = some (31 + v.toNat) ∧ S0[31 + v.toNat]? = some (16, 13) := by
  obtain ⟨n, rfl⟩ := Int.eq_ofNat_of_zero_le h0
  match n, h1 with
  | 0, _ => exact ⟨rfl, rfl⟩
  | 1, _ => exact ⟨rfl, rfl⟩
  | 2, _ => exact ⟨rfl, rfl⟩
  | 3, _ => exact ⟨rfl, rfl⟩
  | 4, _ => exact ⟨rfl, rfl⟩
  | 5, _ => exact ⟨rfl, rfl⟩
  | q + 6, h1 => omega
theorem gr_50 {b : Bool} {v : Int} (h0 : 0 ≤ v) (h1 : v < 7) : RR b 50 v = some (51 + v.toNat) ∧ S0[51 + v.toNat]? = some (16, 149) := by
  obtain ⟨n, rfl⟩ := Int.eq_ofNat_of_zero_le h0
  match n, h1 with
  | 0, _ => exact ⟨rfl, rfl⟩
  | 1, _ => exact ⟨rfl, rfl⟩
  | 2, _ => exact ⟨rfl, rfl⟩
  | 3, _ => exact ⟨rfl, rfl⟩
  | 4, _ => exact ⟨rfl, rfl⟩
  | 5, _ => exact ⟨rfl, rfl⟩
  | 6, _ => exact ⟨rfl, rfl⟩
  | q + 7, h1 => omega
theorem gr_60 {b : Bool} {v : Int} (h0 : 0 ≤ v) (h1 : v < 6) : RR b 60 v = some (61 + v.toNat) ∧ S0[61 + v.toNat]? = some (16, 5) := by
  obtain ⟨n, rfl⟩ := Int.eq_ofNat_of_zero_le h0
  match n, h1 with
  | 0, _ => exact ⟨rfl, rfl⟩
  | 1, _ => exact ⟨rfl, rfl⟩
  | 2, _ => exact ⟨rfl, rfl⟩
  | 3, _ => exact ⟨rfl, rfl⟩
  | 4, _ => exact ⟨rfl, rfl⟩
  | 5, _ => exact ⟨rfl, rfl⟩
  | q + 6, h1 => omega
theorem gr_72 {b : Bool} {v : Int} (h0 : 0 ≤ v) (h1 : v < 7) : RR b 72 v = some (73 + v.toNat) ∧ S0[73 + v.toNat]? = some (16, 121) := by
  obtain ⟨n, rfl⟩ := Int.eq_ofNat_of_zero_le h0
  match n, h1 with
  | 0, _ => exact ⟨rfl, rfl⟩
  | 1, _ => exact ⟨rfl, rfl⟩
  | 2, _ => exact ⟨rfl, rfl⟩
  | 3, _ => exact ⟨rfl, rfl⟩
  | 4, _ => exact ⟨rfl, rfl⟩
  | 5, _ => exact ⟨rfl, rfl⟩
  | 6, _ => exact ⟨rfl, rfl⟩
  | q + 7, h1 => omega
theorem gr_91 {b : Bool} {v : Int} (h0 : 0 ≤ v) (h1 : v < 6) : RR b 91 v = some (92 + v.toNat) ∧ S0[92 + v.toNat]? = some (16, 3) := by
  obtain ⟨n, rfl⟩ := Int.eq_ofNat_of_zero_le h0
  match n, h1 with
  | 0, _ => exact ⟨rfl, rfl⟩
  | 1, _ => exact ⟨rfl, rfl⟩
  | 2, _ => exact ⟨rfl, rfl⟩
  | 3, _ => exact ⟨rfl, rfl⟩
  | 4, _ => exact ⟨rfl, rfl⟩
  | 5, _ => exact ⟨rfl, rfl⟩
  | q + 6, h1 => omega
theorem gr_98 {b : Bool} {v : Int} (h0 : 0 ≤ v) (h1 : v < 4) : RR b 98 v = some (103 + 2 * v.toNat) ∧ S0[103 + 2 * v.toNat]? = some (3, 3) := by
  obtain ⟨n, rfl⟩ := Int.eq_ofNat_of_zero_le h0
  match n, h1 with
  | 0, _ => exact ⟨rfl, rfl⟩
  | 1, _ => exact ⟨rfl, rfl⟩
  | 2, _ => exact ⟨rfl, rfl⟩
  | 3, _ => exact ⟨rfl, rfl⟩
  | q + 4, h1 => omega
theorem gi_98 {b : Bool} {v : Int} (h0 : 0 ≤ v) (h1 : v < 4) : RR b (103 + 2 * v.toNat) 2 = some (104 + 2 * v.toNat) ∧ S0[104 + 2 * v.toNat]? = some (16, 40) := by
  obtain ⟨n, rfl⟩ := Int.eq_ofNat_of_zero_le h0
  match n, h1 with
  | 0, _ => exact ⟨rfl, rfl⟩
  | 1, _ => exact ⟨rfl, rfl⟩
  | 2, _ => exact ⟨rfl, rfl⟩
  | 3, _ => exact ⟨rfl, rfl⟩
  | q + 4, h1 => omega
abbrev Ints : Type := Nat → Int → Int
/-- a method's contract over the fixed shapes -/
def Mt (G : GE) (y : MethodName) (cc : ByteArray) (maxL : Nat) (ret : Option FieldType) (d : Nat) (as : List Vl) (I : Ints) (b : Bool) (Q : Option Vl → Ints → Bool → Prop) : Prop :=
  Mth G y cc maxL ret d as (mk I b) 143 9588 (fun r M' => ∃ I' b', M' = mk I' b' ∧ Q r I' b')
abbrev MtI (G : GE) (y : MethodName) (cc : ByteArray) (maxL : Nat) (ret : Option FieldType) (d : Nat) (as : List Vl) (I : Ints) (b : Bool) (Q : Int → Ints → Bool → Prop) : Prop :=
  Mt G y cc maxL ret d as I b (fun r I' b' => ∃ z, r = some (vi z) ∧ Q z I' b')
abbrev MtV (G : GE) (y : MethodName) (cc : ByteArray) (maxL : Nat) (d : Nat) (as : List Vl) (I : Ints) (b : Bool) (Q : Ints → Bool → Prop) : Prop :=
  Mt G y cc maxL none d as I b (fun r I' b' => r = none ∧ Q I' b')
/-- it answers z and changes nothing -/
abbrev MtP (G : GE) (y : MethodName) (cc : ByteArray) (maxL : Nat) (ret : Option FieldType) (d : Nat) (as : List Vl) (I : Ints) (b : Bool) (z : Int) : Prop :=
  MtI G y cc maxL ret d as I b (fun r I' b' => r = z ∧ I' = I ∧ b' = b)
section MKA
variable {G : GE} {own : String} {ini : Bool} {cc : ByteArray} {maxL d : Nat} {J : Jd} {pc : Nat} {ls st : List Vl} {I : Ints} {b : Bool}
theorem mt_enterI {y : MethodName} {ret : Option FieldType} {ty : FieldType} {as ls0 : List Vl} {Q : Int → Ints → Bool → Prop} (hown : y.cls = own) (hy : plainName y.cls = true) (hl : (entL as).length ≤ maxL) (hret : ret = some ty) (hls : entL as ++ List.replicate (maxL - (entL as).length) vu = ls0)
    (body : ∀ J : Jd, OkJ G own false cc maxL d 143 9588 J → (∀ (pc : Nat) (ls : List Vl) (z : Int) (I' : Ints) (b' : Bool), decode cc pc = .ok (.ireturn, 1) → narrow ty (.int (i32 z)) = .int (i32 z) → Q z I' b' → J pc ls [vi z] (mk I' b')) → J 0 ls0 [] (mk I b)) : MtI G y cc maxL ret d as I b Q := by
  refine mth_enter (own := own) (ini := false) hown (fun q => Bool.noConfusion q) hy hl (fun J hJ hR _ => ?_)
  rw [hls]
  exact body J hJ (fun pc ls z I' b' hd hn hq => hR ty hret pc ls z _ hd hn ⟨I', b', rfl, z, rfl, hq⟩)
theorem mt_enterV {y : MethodName} {as ls0 : List Vl} {Q : Ints → Bool → Prop} (hown : y.cls = own) (hy : plainName y.cls = true) (hl : (entL as).length ≤ maxL) (hls : entL as ++ List.replicate (maxL - (entL as).length) vu = ls0)
    (body : ∀ J : Jd, OkJ G own false cc maxL d 143 9588 J → (∀ (pc : Nat) (ls : List Vl) (I' : Ints) (b' : Bool), decode cc pc = .ok (.return_, 1) → Q I' b' → J pc ls [] (mk I' b')) → J 0 ls0 [] (mk I b)) : MtV G y cc maxL d as I b Q := by
  refine mth_enter (own := own) (ini := false) hown (fun q => Bool.noConfusion q) hy hl (fun J hJ _ hR => ?_)
  rw [hls]
  exact body J hJ (fun pc ls I' b' hd hq => hR rfl pc ls _ hd ⟨I', b', rfl, rfl, hq⟩)
theorem nar_i {z : Int} : narrow .int (.int (i32 z)) = .int (i32 z) := rfl
theorem nar_z {z : Int} (h : z = 0 ∨ z = 1) : narrow .boolean (.int (i32 z)) = .int (i32 z) := by rcases h with rfl | rfl <;> rfl
theorem mk_getI (hJ : OkJ G own ini cc maxL d 143 9588 J) {idx c j k n : Nat} {fin : Bool} {j' : Int} (hd : decode cc pc = .ok (.getfield idx, 3)) (hf : Fw own idx c j fin) (hk : S0[k]? = some (c, n)) (hn : j < n) (hr : fR c j = false) (hj : (j : Int) = j') (kk : J (pc + 3) ls (vi (I k j') :: st) (mk I b)) : J pc ls (vr k :: st) (mk I b) :=
  mj_getI hJ hd hf hk hn hr (by rw [hj]; exact kk)
theorem mk_getR (hJ : OkJ G own ini cc maxL d 143 9588 J) {idx c j k n r : Nat} {fin : Bool} (hd : decode cc pc = .ok (.getfield idx, 3)) (hf : Fw own idx c j fin) (hk : S0[k]? = some (c, n)) (hn : j < n) (hr : fR c j = true) (hv : RR b k j = some r) (kk : J (pc + 3) ls (vr r :: st) (mk I b)) : J pc ls (vr k :: st) (mk I b) :=
  mj_getR hJ hd hf hk hn hr hv kk
theorem mk_putI (hJ : OkJ G own ini cc maxL d 143 9588 J) {idx c j k n : Nat} {z j' : Int} (hd : decode cc pc = .ok (.putfield idx, 3)) (hf : Fw own idx c j false) (hk : S0[k]? = some (c, n)) (hn : j < n) (ht : tyOf c j = .int) (hj : (j : Int) = j') (kk : J (pc + 3) ls st (mk (upI I k j' z) b)) : J pc ls (vi z :: vr k :: st) (mk I b) :=
  mj_putI hJ hd hf hk hn ht (by rw [hj]; exact kk)
theorem mk_putZ (hJ : OkJ G own ini cc maxL d 143 9588 J) {idx c j k n : Nat} {z j' : Int} (hd : decode cc pc = .ok (.putfield idx, 3)) (hf : Fw own idx c j false) (hk : S0[k]? = some (c, n)) (hn : j < n) (ht : tyOf c j = .boolean) (hz : z = 0 ∨ z = 1) (hj : (j : Int) = j') (kk : J (pc + 3) ls st (mk (upI I k j' z) b)) : J pc ls (vi z :: vr k :: st) (mk I b) :=
  mj_putZ hJ hd hf hk hn ht hz (by rw [hj]; exact kk)
theorem mk_iald (hJ : OkJ G own ini cc maxL d 143 9588 J) {k n : Nat} {i : Int} (hd : decode cc pc = .ok (.iaload, 1)) (hk : S0[k]? = some (16, n)) (h0 : 0 ≤ i) (hi : i < n) (kk : J (pc + 1) ls (vi (I k i) :: st) (mk I b)) : J pc ls (vi i :: vr k :: st) (mk I b) := mj_iald hJ hd hk h0 hi kk
theorem mk_zald (hJ : OkJ G own ini cc maxL d 143 9588 J) {k n : Nat} {i : Int} (hd : decode cc pc = .ok (.baload, 1)) (hk : S0[k]? = some (17, n)) (h0 : 0 ≤ i) (hi : i < n) (kk : J (pc + 1) ls (vi (I k i) :: st) (mk I b)) : J pc ls (vi i :: vr k :: st) (mk I b) := mj_zald hJ hd hk h0 hi kk
theorem mk_iast (hJ : OkJ G own ini cc maxL d 143 9588 J) {k n : Nat} {i z : Int} (hd : decode cc pc = .ok (.iastore, 1)) (hk : S0[k]? = some (16, n)) (h0 : 0 ≤ i) (hi : i < n) (kk : J (pc + 1) ls st (mk (upI I k i z) b)) : J pc ls (vi z :: vi i :: vr k :: st) (mk I b) := mj_iast hJ hd hk h0 hi kk
theorem mk_zast (hJ : OkJ G own ini cc maxL d 143 9588 J) {k n : Nat} {i z : Int} (hd : decode cc pc = .ok (.bastore, 1)) (hk : S0[k]? = some (17, n)) (h0 : 0 ≤ i) (hi : i < n) (hz : z = 0 ∨ z = 1) (kk : J (pc + 1) ls st (mk (upI I k i z) b)) : J pc ls (vi z :: vi i :: vr k :: st) (mk I b) := mj_zast hJ hd hk h0 hi hz kk
theorem mk_aald (hJ : OkJ G own ini cc maxL d 143 9588 J) {k n r kd : Nat} {i : Int} (hd : decode cc pc = .ok (.aaload, 1)) (hk : S0[k]? = some (kd, n)) (hkd : kd = 18 ∨ kd = 19) (h0 : 0 ≤ i) (hi : i < n) (hr : RR b k i = some r) (kk : J (pc + 1) ls (vr r :: st) (mk I b)) : J pc ls (vi i :: vr k :: st) (mk I b) := mj_aald hJ hd hk hkd h0 hi hr kk
theorem mk_alen (hJ : OkJ G own ini cc maxL d 143 9588 J) {k n : Nat} (hd : decode cc pc = .ok (.arraylength, 1)) (hk : S0[k]? = some (16, n)) (hn : n < 2147483648) (kk : J (pc + 1) ls (vi n :: st) (mk I b)) : J pc ls (vr k :: st) (mk I b) := mj_alen hJ hd hk hn kk
theorem mk_copy (hJ : OkJ G own ini cc maxL d 143 9588 J) {idx k0 k1 n0' n1' : Nat} {sp dp n : Int} (hd : decode cc pc = .ok (.invokestatic idx, 3)) (cw : CopW own idx) (hk0 : S0[k0]? = some (16, n0')) (hk1 : S0[k1]? = some (16, n1')) (h1 : 0 ≤ sp) (h2 : 0 ≤ dp) (h3 : 0 ≤ n) (h4 : sp + n ≤ n0') (h5 : dp + n ≤ n1') (hdd : 1 ≤ d) (hst : st.length ≤ 4) (kk : J (pc + 3) ls st (mk (cpI I k0 k1 sp dp n) b)) : J pc ls (vi n :: vi dp :: vr k1 :: vi sp :: vr k0 :: st) (mk I b) := mj_copy hJ hd cw hk0 hk1 h1 h2 h3 h4 h5 hdd hst kk
theorem mk_copyT (hJ : OkJ G own ini cc maxL d 143 9588 J) {idx t tn k1 n1' : Nat} {f : Int → Int} {sp dp n : Int} (hd : decode cc pc = .ok (.invokestatic idx, 3)) (cw : CopW own idx) (ht : t < 6) (hG : gT G t = (tn, f)) (hfR : ∀ z, inR (f z)) (hk1 : S0[k1]? = some (16, n1')) (h1 : 0 ≤ sp) (h2 : 0 ≤ dp) (h3 : 0 ≤ n) (h4 : sp + n ≤ tn) (h5 : dp + n ≤ n1') (hdd : 1 ≤ d) (hst : st.length ≤ 4) (kk : J (pc + 3) ls st (mk (cpT I f k1 sp dp n) b)) : J pc ls (vi n :: vi dp :: vr k1 :: vi sp :: vr (2000 + t) :: st) (mk I b) := mj_copyT hJ hd cw ht hG hfR hk1 h1 h2 h3 h4 h5 hdd hst kk
theorem mk_rng (hJ : OkJ G own ini cc maxL d 143 9588 J) (kk : (∀ v ∈ st, okV 143 v) → (∀ v ∈ ls, okV 143 v) → (∀ k j, inR (I k j)) → J pc ls st (mk I b)) : J pc ls st (mk I b) :=
  mj_rng hJ (fun h1 h2 h3 => kk (by rw [show 143 = (mk I b).2.2.length from S0_len.symm]; exact h1) (by rw [show 143 = (mk I b).2.2.length from S0_len.symm]; exact h2) h3.1)
theorem mk_Vi0 (hJ : OkJ G own ini cc maxL d 143 9588 J) {ci k sz : Nat} {C : String} {T : u_T} {N : Nat} {idx maxL' n d' : Nat} {y : MethodName} {cc' : ByteArray} {ret' : Option FieldType} {Q' : Int → Ints → Bool → Prop} (hd : decode cc pc = .ok (.invokevirtual idx, 3)) (cw : CwV own idx y cc' maxL' ret' n) (hk : S0[k]? = some (ci, sz)) (hc : vwCl[ci]? = some (C, T, N)) (hy : y.cls = C) (hn : ([] : List Vl).length = n) (hst : st.length ≤ 4) (hdd : d' + 1 ≤ d) (h : MtI G y cc' maxL' ret' d' (vr k :: ([] : List Vl)) I b Q') (kk : ∀ z I' b', Q' z I' b' → J (pc + 3) ls (vi z :: st) (mk I' b')) : J pc ls (vr k :: st) (mk I b) :=
  mj_callV (xs := ([] : List Vl)) hJ hd cw hk hc hy hn hst hdd h (Nat.le_refl _) (Nat.le_refl _) (by rw [show (mk I b).2.2.length = 143 from S0_len]; exact Nat.le_refl _) (by rw [show ssum (mk I b).2.2 = 9588 from S0_sum]; exact Nat.le_refl _) (fun r M' hq => by
    obtain ⟨I', b', rfl, z, rfl, hq⟩ := hq
    exact ⟨⟨S0_len, S0_sum⟩, kk z I' b' hq⟩)
theorem mk_Vp0 (hJ : OkJ G own ini cc maxL d 143 9588 J) {ci k sz : Nat} {C : String} {T : u_T} {N : Nat} {idx maxL' n d' : Nat} {y : MethodName} {cc' : ByteArray} {ret' : Option FieldType} {z0 : Int} (hd : decode cc pc = .ok (.invokevirtual idx, 3)) (cw : CwV own idx y cc' maxL' ret' n) (hk : S0[k]? = some (ci, sz)) (hc : vwCl[ci]? = some (C, T, N)) (hy : y.cls = C) (hn : ([] : List Vl).length = n) (hst : st.length ≤ 4) (hdd : d' + 1 ≤ d) (h : MtP G y cc' maxL' ret' d' (vr k :: ([] : List Vl)) I b z0) (kk : J (pc + 3) ls (vi z0 :: st) (mk I b)) : J pc ls (vr k :: st) (mk I b) :=
  mj_callV (xs := ([] : List Vl)) hJ hd cw hk hc hy hn hst hdd h (Nat.le_refl _) (Nat.le_refl _) (by rw [show (mk I b).2.2.length = 143 from S0_len]; exact Nat.le_refl _) (by rw [show ssum (mk I b).2.2 = 9588 from S0_sum]; exact Nat.le_refl _) (fun r M' hq => by
    obtain ⟨I', b', rfl, z, rfl, rfl, rfl, rfl⟩ := hq
    exact ⟨⟨S0_len, S0_sum⟩, kk⟩)
theorem mk_Vv0 (hJ : OkJ G own ini cc maxL d 143 9588 J) {ci k sz : Nat} {C : String} {T : u_T} {N : Nat} {idx maxL' n d' : Nat} {y : MethodName} {cc' : ByteArray} {Q' : Ints → Bool → Prop} (hd : decode cc pc = .ok (.invokevirtual idx, 3)) (cw : CwV own idx y cc' maxL' none n) (hk : S0[k]? = some (ci, sz)) (hc : vwCl[ci]? = some (C, T, N)) (hy : y.cls = C) (hn : ([] : List Vl).length = n) (hst : st.length ≤ 4) (hdd : d' + 1 ≤ d) (h : MtV G y cc' maxL' d' (vr k :: ([] : List Vl)) I b Q') (kk : ∀ I' b', Q' I' b' → J (pc + 3) ls st (mk I' b')) : J pc ls (vr k :: st) (mk I b) :=
  mj_callV (xs := ([] : List Vl)) hJ hd cw hk hc hy hn hst hdd h (Nat.le_refl _) (Nat.le_refl _) (by rw [show (mk I b).2.2.length = 143 from S0_len]; exact Nat.le_refl _) (by rw [show ssum (mk I b).2.2 = 9588 from S0_sum]; exact Nat.le_refl _) (fun r M' hq => by
    obtain ⟨I', b', rfl, rfl, hq⟩ := hq
    exact ⟨⟨S0_len, S0_sum⟩, kk I' b' hq⟩)
theorem mk_Vi1 (hJ : OkJ G own ini cc maxL d 143 9588 J) {ci k sz : Nat} {C : String} {T : u_T} {N : Nat} {x1 : Vl} {idx maxL' n d' : Nat} {y : MethodName} {cc' : ByteArray} {ret' : Option FieldType} {Q' : Int → Ints → Bool → Prop} (hd : decode cc pc = .ok (.invokevirtual idx, 3)) (cw : CwV own idx y cc' maxL' ret' n) (hk : S0[k]? = some (ci, sz)) (hc : vwCl[ci]? = some (C, T, N)) (hy : y.cls = C) (hn : ([x1] : List Vl).length = n) (hst : st.length ≤ 4) (hdd : d' + 1 ≤ d) (h : MtI G y cc' maxL' ret' d' (vr k :: ([x1] : List Vl)) I b Q') (kk : ∀ z I' b', Q' z I' b' → J (pc + 3) ls (vi z :: st) (mk I' b')) : J pc ls (x1 :: vr k :: st) (mk I b) :=
  mj_callV (xs := ([x1] : List Vl)) hJ hd cw hk hc hy hn hst hdd h (Nat.le_refl _) (Nat.le_refl _) (by rw [show (mk I b).2.2.length = 143 from S0_len]; exact Nat.le_refl _) (by rw [show ssum (mk I b).2.2 = 9588 from S0_sum]; exact Nat.le_refl _) (fun r M' hq => by
    obtain ⟨I', b', rfl, z, rfl, hq⟩ := hq
    exact ⟨⟨S0_len, S0_sum⟩, kk z I' b' hq⟩)
theorem mk_Vp1 (hJ : OkJ G own ini cc maxL d 143 9588 J) {ci k sz : Nat} {C : String} {T : u_T} {N : Nat} {x1 : Vl} {idx maxL' n d' : Nat} {y : MethodName} {cc' : ByteArray} {ret' : Option FieldType} {z0 : Int} (hd : decode cc pc = .ok (.invokevirtual idx, 3)) (cw : CwV own idx y cc' maxL' ret' n) (hk : S0[k]? = some (ci, sz)) (hc : vwCl[ci]? = some (C, T, N)) (hy : y.cls = C) (hn : ([x1] : List Vl).length = n) (hst : st.length ≤ 4) (hdd : d' + 1 ≤ d) (h : MtP G y cc' maxL' ret' d' (vr k :: ([x1] : List Vl)) I b z0) (kk : J (pc + 3) ls (vi z0 :: st) (mk I b)) : J pc ls (x1 :: vr k :: st) (mk I b) :=
  mj_callV (xs := ([x1] : List Vl)) hJ hd cw hk hc hy hn hst hdd h (Nat.le_refl _) (Nat.le_refl _) (by rw [show (mk I b).2.2.length = 143 from S0_len]; exact Nat.le_refl _) (by rw [show ssum (mk I b).2.2 = 9588 from S0_sum]; exact Nat.le_refl _) (fun r M' hq => by
    obtain ⟨I', b', rfl, z, rfl, rfl, rfl, rfl⟩ := hq
    exact ⟨⟨S0_len, S0_sum⟩, kk⟩)
theorem mk_Vv1 (hJ : OkJ G own ini cc maxL d 143 9588 J) {ci k sz : Nat} {C : String} {T : u_T} {N : Nat} {x1 : Vl} {idx maxL' n d' : Nat} {y : MethodName} {cc' : ByteArray} {Q' : Ints → Bool → Prop} (hd : decode cc pc = .ok (.invokevirtual idx, 3)) (cw : CwV own idx y cc' maxL' none n) (hk : S0[k]? = some (ci, sz)) (hc : vwCl[ci]? = some (C, T, N)) (hy : y.cls = C) (hn : ([x1] : List Vl).length = n) (hst : st.length ≤ 4) (hdd : d' + 1 ≤ d) (h : MtV G y cc' maxL' d' (vr k :: ([x1] : List Vl)) I b Q') (kk : ∀ I' b', Q' I' b' → J (pc + 3) ls st (mk I' b')) : J pc ls (x1 :: vr k :: st) (mk I b) :=
  mj_callV (xs := ([x1] : List Vl)) hJ hd cw hk hc hy hn hst hdd h (Nat.le_refl _) (Nat.le_refl _) (by rw [show (mk I b).2.2.length = 143 from S0_len]; exact Nat.le_refl _) (by rw [show ssum (mk I b).2.2 = 9588 from S0_sum]; exact Nat.le_refl _) (fun r M' hq => by
    obtain ⟨I', b', rfl, rfl, hq⟩ := hq
    exact ⟨⟨S0_len, S0_sum⟩, kk I' b' hq⟩)
theorem mk_Vi2 (hJ : OkJ G own ini cc maxL d 143 9588 J) {ci k sz : Nat} {C : String} {T : u_T} {N : Nat} {x1 x2 : Vl} {idx maxL' n d' : Nat} {y : MethodName} {cc' : ByteArray} {ret' : Option FieldType} {Q' : Int → Ints → Bool → Prop} (hd : decode cc pc = .ok (.invokevirtual idx, 3)) (cw : CwV own idx y cc' maxL' ret' n) (hk : S0[k]? = some (ci, sz)) (hc : vwCl[ci]? = some (C, T, N)) (hy : y.cls = C) (hn : ([x1, x2] : List Vl).length = n) (hst : st.length ≤ 4) (hdd : d' + 1 ≤ d) (h : MtI G y cc' maxL' ret' d' (vr k :: ([x1, x2] : List Vl)) I b Q') (kk : ∀ z I' b', Q' z I' b' → J (pc + 3) ls (vi z :: st) (mk I' b')) : J pc ls (x2 :: x1 :: vr k :: st) (mk I b) :=
  mj_callV (xs := ([x1, x2] : List Vl)) hJ hd cw hk hc hy hn hst hdd h (Nat.le_refl _) (Nat.le_refl _) (by rw [show (mk I b).2.2.length = 143 from S0_len]; exact Nat.le_refl _) (by rw [show ssum (mk I b).2.2 = 9588 from S0_sum]; exact Nat.le_refl _) (fun r M' hq => by
    obtain ⟨I', b', rfl, z, rfl, hq⟩ := hq
    exact ⟨⟨S0_len, S0_sum⟩, kk z I' b' hq⟩)
theorem mk_Vp2 (hJ : OkJ G own ini cc maxL d 143 9588 J) {ci k sz : Nat} {C : String} {T : u_T} {N : Nat} {x1 x2 : Vl} {idx maxL' n d' : Nat} {y : MethodName} {cc' : ByteArray} {ret' : Option FieldType} {z0 : Int} (hd : decode cc pc = .ok (.invokevirtual idx, 3)) (cw : CwV own idx y cc' maxL' ret' n) (hk : S0[k]? = some (ci, sz)) (hc : vwCl[ci]? = some (C, T, N)) (hy : y.cls = C) (hn : ([x1, x2] : List Vl).length = n) (hst : st.length ≤ 4) (hdd : d' + 1 ≤ d) (h : MtP G y cc' maxL' ret' d' (vr k :: ([x1, x2] : List Vl)) I b z0) (kk : J (pc + 3) ls (vi z0 :: st) (mk I b)) : J pc ls (x2 :: x1 :: vr k :: st) (mk I b) :=
  mj_callV (xs := ([x1, x2] : List Vl)) hJ hd cw hk hc hy hn hst hdd h (Nat.le_refl _) (Nat.le_refl _) (by rw [show (mk I b).2.2.length = 143 from S0_len]; exact Nat.le_refl _) (by rw [show ssum (mk I b).2.2 = 9588 from S0_sum]; exact Nat.le_refl _) (fun r M' hq => by
    obtain ⟨I', b', rfl, z, rfl, rfl, rfl, rfl⟩ := hq
    exact ⟨⟨S0_len, S0_sum⟩, kk⟩)
theorem mk_Vv2 (hJ : OkJ G own ini cc maxL d 143 9588 J) {ci k sz : Nat} {C : String} {T : u_T} {N : Nat} {x1 x2 : Vl} {idx maxL' n d' : Nat} {y : MethodName} {cc' : ByteArray} {Q' : Ints → Bool → Prop} (hd : decode cc pc = .ok (.invokevirtual idx, 3)) (cw : CwV own idx y cc' maxL' none n) (hk : S0[k]? = some (ci, sz)) (hc : vwCl[ci]? = some (C, T, N)) (hy : y.cls = C) (hn : ([x1, x2] : List Vl).length = n) (hst : st.length ≤ 4) (hdd : d' + 1 ≤ d) (h : MtV G y cc' maxL' d' (vr k :: ([x1, x2] : List Vl)) I b Q') (kk : ∀ I' b', Q' I' b' → J (pc + 3) ls st (mk I' b')) : J pc ls (x2 :: x1 :: vr k :: st) (mk I b) :=
  mj_callV (xs := ([x1, x2] : List Vl)) hJ hd cw hk hc hy hn hst hdd h (Nat.le_refl _) (Nat.le_refl _) (by rw [show (mk I b).2.2.length = 143 from S0_len]; exact Nat.le_refl _) (by rw [show ssum (mk I b).2.2 = 9588 from S0_sum]; exact Nat.le_refl _) (fun r M' hq => by
    obtain ⟨I', b', rfl, rfl, hq⟩ := hq
    exact ⟨⟨S0_len, S0_sum⟩, kk I' b' hq⟩)
theorem mk_Vi3 (hJ : OkJ G own ini cc maxL d 143 9588 J) {ci k sz : Nat} {C : String} {T : u_T} {N : Nat} {x1 x2 x3 : Vl} {idx maxL' n d' : Nat} {y : MethodName} {cc' : ByteArray} {ret' : Option FieldType} {Q' : Int → Ints → Bool → Prop} (hd : decode cc pc = .ok (.invokevirtual idx, 3)) (cw : CwV own idx y cc' maxL' ret' n) (hk : S0[k]? = some (ci, sz)) (hc : vwCl[ci]? = some (C, T, N)) (hy : y.cls = C) (hn : ([x1, x2, x3] : List Vl).length = n) (hst : st.length ≤ 4) (hdd : d' + 1 ≤ d) (h : MtI G y cc' maxL' ret' d' (vr k :: ([x1, x2, x3] : List Vl)) I b Q') (kk : ∀ z I' b', Q' z I' b' → J (pc + 3) ls (vi z :: st) (mk I' b')) : J pc ls (x3 :: x2 :: x1 :: vr k :: st) (mk I b) :=
  mj_callV (xs := ([x1, x2, x3] : List Vl)) hJ hd cw hk hc hy hn hst hdd h (Nat.le_refl _) (Nat.le_refl _) (by rw [show (mk I b).2.2.length = 143 from S0_len]; exact Nat.le_refl _) (by rw [show ssum (mk I b).2.2 = 9588 from S0_sum]; exact Nat.le_refl _) (fun r M' hq => by
    obtain ⟨I', b', rfl, z, rfl, hq⟩ := hq
    exact ⟨⟨S0_len, S0_sum⟩, kk z I' b' hq⟩)
theorem mk_Vp3 (hJ : OkJ G own ini cc maxL d 143 9588 J) {ci k sz : Nat} {C : String} {T : u_T} {N : Nat} {x1 x2 x3 : Vl} {idx maxL' n d' : Nat} {y : MethodName} {cc' : ByteArray} {ret' : Option FieldType} {z0 : Int} (hd : decode cc pc = .ok (.invokevirtual idx, 3)) (cw : CwV own idx y cc' maxL' ret' n) (hk : S0[k]? = some (ci, sz)) (hc : vwCl[ci]? = some (C, T, N)) (hy : y.cls = C) (hn : ([x1, x2, x3] : List Vl).length = n) (hst : st.length ≤ 4) (hdd : d' + 1 ≤ d) (h : MtP G y cc' maxL' ret' d' (vr k :: ([x1, x2, x3] : List Vl)) I b z0) (kk : J (pc + 3) ls (vi z0 :: st) (mk I b)) : J pc ls (x3 :: x2 :: x1 :: vr k :: st) (mk I b) :=
  mj_callV (xs := ([x1, x2, x3] : List Vl)) hJ hd cw hk hc hy hn hst hdd h (Nat.le_refl _) (Nat.le_refl _) (by rw [show (mk I b).2.2.length = 143 from S0_len]; exact Nat.le_refl _) (by rw [show ssum (mk I b).2.2 = 9588 from S0_sum]; exact Nat.le_refl _) (fun r M' hq => by
    obtain ⟨I', b', rfl, z, rfl, rfl, rfl, rfl⟩ := hq
    exact ⟨⟨S0_len, S0_sum⟩, kk⟩)
theorem mk_Vv3 (hJ : OkJ G own ini cc maxL d 143 9588 J) {ci k sz : Nat} {C : String} {T : u_T} {N : Nat} {x1 x2 x3 : Vl} {idx maxL' n d' : Nat} {y : MethodName} {cc' : ByteArray} {Q' : Ints → Bool → Prop} (hd : decode cc pc = .ok (.invokevirtual idx, 3)) (cw : CwV own idx y cc' maxL' none n) (hk : S0[k]? = some (ci, sz)) (hc : vwCl[ci]? = some (C, T, N)) (hy : y.cls = C) (hn : ([x1, x2, x3] : List Vl).length = n) (hst : st.length ≤ 4) (hdd : d' + 1 ≤ d) (h : MtV G y cc' maxL' d' (vr k :: ([x1, x2, x3] : List Vl)) I b Q') (kk : ∀ I' b', Q' I' b' → J (pc + 3) ls st (mk I' b')) : J pc ls (x3 :: x2 :: x1 :: vr k :: st) (mk I b) :=
  mj_callV (xs := ([x1, x2, x3] : List Vl)) hJ hd cw hk hc hy hn hst hdd h (Nat.le_refl _) (Nat.le_refl _) (by rw [show (mk I b).2.2.length = 143 from S0_len]; exact Nat.le_refl _) (by rw [show ssum (mk I b).2.2 = 9588 from S0_sum]; exact Nat.le_refl _) (fun r M' hq => by
    obtain ⟨I', b', rfl, rfl, hq⟩ := hq
    exact ⟨⟨S0_len, S0_sum⟩, kk I' b' hq⟩)
theorem mk_Vi4 (hJ : OkJ G own ini cc maxL d 143 9588 J) {ci k sz : Nat} {C : String} {T : u_T} {N : Nat} {x1 x2 x3 x4 : Vl} {idx maxL' n d' : Nat} {y : MethodName} {cc' : ByteArray} {ret' : Option FieldType} {Q' : Int → Ints → Bool → Prop} (hd : decode cc pc = .ok (.invokevirtual idx, 3)) (cw : CwV own idx y cc' maxL' ret' n) (hk : S0[k]? = some (ci, sz)) (hc : vwCl[ci]? = some (C, T, N)) (hy : y.cls = C) (hn : ([x1, x2, x3, x4] : List Vl).length = n) (hst : st.length ≤ 4) (hdd : d' + 1 ≤ d) (h : MtI G y cc' maxL' ret' d' (vr k :: ([x1, x2, x3, x4] : List Vl)) I b Q') (kk : ∀ z I' b', Q' z I' b' → J (pc + 3) ls (vi z :: st) (mk I' b')) : J pc ls (x4 :: x3 :: x2 :: x1 :: vr k :: st) (mk I b) :=
  mj_callV (xs := ([x1, x2, x3, x4] : List Vl)) hJ hd cw hk hc hy hn hst hdd h (Nat.le_refl _) (Nat.le_refl _) (by rw [show (mk I b).2.2.length = 143 from S0_len]; exact Nat.le_refl _) (by rw [show ssum (mk I b).2.2 = 9588 from S0_sum]; exact Nat.le_refl _) (fun r M' hq => by
    obtain ⟨I', b', rfl, z, rfl, hq⟩ := hq
    exact ⟨⟨S0_len, S0_sum⟩, kk z I' b' hq⟩)
theorem mk_Vp4 (hJ : OkJ G own ini cc maxL d 143 9588 J) {ci k sz : Nat} {C : String} {T : u_T} {N : Nat} {x1 x2 x3 x4 : Vl} {idx maxL' n d' : Nat} {y : MethodName} {cc' : ByteArray} {ret' : Option FieldType} {z0 : Int} (hd : decode cc pc = .ok (.invokevirtual idx, 3)) (cw : CwV own idx y cc' maxL' ret' n) (hk : S0[k]? = some (ci, sz)) (hc : vwCl[ci]? = some (C, T, N)) (hy : y.cls = C) (hn : ([x1, x2, x3, x4] : List Vl).length = n) (hst : st.length ≤ 4) (hdd : d' + 1 ≤ d) (h : MtP G y cc' maxL' ret' d' (vr k :: ([x1, x2, x3, x4] : List Vl)) I b z0) (kk : J (pc + 3) ls (vi z0 :: st) (mk I b)) : J pc ls (x4 :: x3 :: x2 :: x1 :: vr k :: st) (mk I b) :=
  mj_callV (xs := ([x1, x2, x3, x4] : List Vl)) hJ hd cw hk hc hy hn hst hdd h (Nat.le_refl _) (Nat.le_refl _) (by rw [show (mk I b).2.2.length = 143 from S0_len]; exact Nat.le_refl _) (by rw [show ssum (mk I b).2.2 = 9588 from S0_sum]; exact Nat.le_refl _) (fun r M' hq => by
    obtain ⟨I', b', rfl, z, rfl, rfl, rfl, rfl⟩ := hq
    exact ⟨⟨S0_len, S0_sum⟩, kk⟩)
theorem mk_Vv4 (hJ : OkJ G own ini cc maxL d 143 9588 J) {ci k sz : Nat} {C : String} {T : u_T} {N : Nat} {x1 x2 x3 x4 : Vl} {idx maxL' n d' : Nat} {y : MethodName} {cc' : ByteArray} {Q' : Ints → Bool → Prop} (hd : decode cc pc = .ok (.invokevirtual idx, 3)) (cw : CwV own idx y cc' maxL' none n) (hk : S0[k]? = some (ci, sz)) (hc : vwCl[ci]? = some (C, T, N)) (hy : y.cls = C) (hn : ([x1, x2, x3, x4] : List Vl).length = n) (hst : st.length ≤ 4) (hdd : d' + 1 ≤ d) (h : MtV G y cc' maxL' d' (vr k :: ([x1, x2, x3, x4] : List Vl)) I b Q') (kk : ∀ I' b', Q' I' b' → J (pc + 3) ls st (mk I' b')) : J pc ls (x4 :: x3 :: x2 :: x1 :: vr k :: st) (mk I b) :=
  mj_callV (xs := ([x1, x2, x3, x4] : List Vl)) hJ hd cw hk hc hy hn hst hdd h (Nat.le_refl _) (Nat.le_refl _) (by rw [show (mk I b).2.2.length = 143 from S0_len]; exact Nat.le_refl _) (by rw [show ssum (mk I b).2.2 = 9588 from S0_sum]; exact Nat.le_refl _) (fun r M' hq => by
    obtain ⟨I', b', rfl, rfl, hq⟩ := hq
    exact ⟨⟨S0_len, S0_sum⟩, kk I' b' hq⟩)
theorem mk_Vi5 (hJ : OkJ G own ini cc maxL d 143 9588 J) {ci k sz : Nat} {C : String} {T : u_T} {N : Nat} {x1 x2 x3 x4 x5 : Vl} {idx maxL' n d' : Nat} {y : MethodName} {cc' : ByteArray} {ret' : Option FieldType} {Q' : Int → Ints → Bool → Prop} (hd : decode cc pc = .ok (.invokevirtual idx, 3)) (cw : CwV own idx y cc' maxL' ret' n) (hk : S0[k]? = some (ci, sz)) (hc : vwCl[ci]? = some (C, T, N)) (hy : y.cls = C) (hn : ([x1, x2, x3, x4, x5] : List Vl).length = n) (hst : st.length ≤ 4) (hdd : d' + 1 ≤ d) (h : MtI G y cc' maxL' ret' d' (vr k :: ([x1, x2, x3, x4, x5] : List Vl)) I b Q') (kk : ∀ z I' b', Q' z I' b' → J (pc + 3) ls (vi z :: st) (mk I' b')) : J pc ls (x5 :: x4 :: x3 :: x2 :: x1 :: vr k :: st) (mk I b) :=
  mj_callV (xs := ([x1, x2, x3, x4, x5] : List Vl)) hJ hd cw hk hc hy hn hst hdd h (Nat.le_refl _) (Nat.le_refl _) (by rw [show (mk I b).2.2.length = 143 from S0_len]; exact Nat.le_refl _) (by rw [show ssum (mk I b).2.2 = 9588 from S0_sum]; exact Nat.le_refl _) (fun r M' hq => by
    obtain ⟨I', b', rfl, z, rfl, hq⟩ := hq
    exact ⟨⟨S0_len, S0_sum⟩, kk z I' b' hq⟩)
theorem mk_Vp5 (hJ : OkJ G own ini cc maxL d 143 9588 J) {ci k sz : Nat} {C : String} {T : u_T} {N : Nat} {x1 x2 x3 x4 x5 : Vl} {idx maxL' n d' : Nat} {y : MethodName} {cc' : ByteArray} {ret' : Option FieldType} {z0 : Int} (hd : decode cc pc = .ok (.invokevirtual idx, 3)) (cw : CwV own idx y cc' maxL' ret' n) (hk : S0[k]? = some (ci, sz)) (hc : vwCl[ci]? = some (C, T, N)) (hy : y.cls = C) (hn : ([x1, x2, x3, x4, x5] : List Vl).length = n) (hst : st.length ≤ 4) (hdd : d' + 1 ≤ d) (h : MtP G y cc' maxL' ret' d' (vr k :: ([x1, x2, x3, x4, x5] : List Vl)) I b z0) (kk : J (pc + 3) ls (vi z0 :: st) (mk I b)) : J pc ls (x5 :: x4 :: x3 :: x2 :: x1 :: vr k :: st) (mk I b) :=
  mj_callV (xs := ([x1, x2, x3, x4, x5] : List Vl)) hJ hd cw hk hc hy hn hst hdd h (Nat.le_refl _) (Nat.le_refl _) (by rw [show (mk I b).2.2.length = 143 from S0_len]; exact Nat.le_refl _) (by rw [show ssum (mk I b).2.2 = 9588 from S0_sum]; exact Nat.le_refl _) (fun r M' hq => by
    obtain ⟨I', b', rfl, z, rfl, rfl, rfl, rfl⟩ := hq
    exact ⟨⟨S0_len, S0_sum⟩, kk⟩)
theorem mk_Vv5 (hJ : OkJ G own ini cc maxL d 143 9588 J) {ci k sz : Nat} {C : String} {T : u_T} {N : Nat} {x1 x2 x3 x4 x5 : Vl} {idx maxL' n d' : Nat} {y : MethodName} {cc' : ByteArray} {Q' : Ints → Bool → Prop} (hd : decode cc pc = .ok (.invokevirtual idx, 3)) (cw : CwV own idx y cc' maxL' none n) (hk : S0[k]? = some (ci, sz)) (hc : vwCl[ci]? = some (C, T, N)) (hy : y.cls = C) (hn : ([x1, x2, x3, x4, x5] : List Vl).length = n) (hst : st.length ≤ 4) (hdd : d' + 1 ≤ d) (h : MtV G y cc' maxL' d' (vr k :: ([x1, x2, x3, x4, x5] : List Vl)) I b Q') (kk : ∀ I' b', Q' I' b' → J (pc + 3) ls st (mk I' b')) : J pc ls (x5 :: x4 :: x3 :: x2 :: x1 :: vr k :: st) (mk I b) :=
  mj_callV (xs := ([x1, x2, x3, x4, x5] : List Vl)) hJ hd cw hk hc hy hn hst hdd h (Nat.le_refl _) (Nat.le_refl _) (by rw [show (mk I b).2.2.length = 143 from S0_len]; exact Nat.le_refl _) (by rw [show ssum (mk I b).2.2 = 9588 from S0_sum]; exact Nat.le_refl _) (fun r M' hq => by
    obtain ⟨I', b', rfl, rfl, hq⟩ := hq
    exact ⟨⟨S0_len, S0_sum⟩, kk I' b' hq⟩)
theorem mk_Vi6 (hJ : OkJ G own ini cc maxL d 143 9588 J) {ci k sz : Nat} {C : String} {T : u_T} {N : Nat} {x1 x2 x3 x4 x5 x6 : Vl} {idx maxL' n d' : Nat} {y : MethodName} {cc' : ByteArray} {ret' : Option FieldType} {Q' : Int → Ints → Bool → Prop} (hd : decode cc pc = .ok (.invokevirtual idx, 3)) (cw : CwV own idx y cc' maxL' ret' n) (hk : S0[k]? = some (ci, sz)) (hc : vwCl[ci]? = some (C, T, N)) (hy : y.cls = C) (hn : ([x1, x2, x3, x4, x5, x6] : List Vl).length = n) (hst : st.length ≤ 4) (hdd : d' + 1 ≤ d) (h : MtI G y cc' maxL' ret' d' (vr k :: ([x1, x2, x3, x4, x5, x6] : List Vl)) I b Q') (kk : ∀ z I' b', Q' z I' b' → J (pc + 3) ls (vi z :: st) (mk I' b')) : J pc ls (x6 :: x5 :: x4 :: x3 :: x2 :: x1 :: vr k :: st) (mk I b) :=
  mj_callV (xs := ([x1, x2, x3, x4, x5, x6] : List Vl)) hJ hd cw hk hc hy hn hst hdd h (Nat.le_refl _) (Nat.le_refl _) (by rw [show (mk I b).2.2.length = 143 from S0_len]; exact Nat.le_refl _) (by rw [show ssum (mk I b).2.2 = 9588 from S0_sum]; exact Nat.le_refl _) (fun r M' hq => by
    obtain ⟨I', b', rfl, z, rfl, hq⟩ := hq
    exact ⟨⟨S0_len, S0_sum⟩, kk z I' b' hq⟩)
theorem mk_Vp6 (hJ : OkJ G own ini cc maxL d 143 9588 J) {ci k sz : Nat} {C : String} {T : u_T} {N : Nat} {x1 x2 x3 x4 x5 x6 : Vl} {idx maxL' n d' : Nat} {y : MethodName} {cc' : ByteArray} {ret' : Option FieldType} {z0 : Int} (hd : decode cc pc = .ok (.invokevirtual idx, 3)) (cw : CwV own idx y cc' maxL' ret' n) (hk : S0[k]? = some (ci, sz)) (hc : vwCl[ci]? = some (C, T, N)) (hy : y.cls = C) (hn : ([x1, x2, x3, x4, x5, x6] : List Vl).length = n) (hst : st.length ≤ 4) (hdd : d' + 1 ≤ d) (h : MtP G y cc' maxL' ret' d' (vr k :: ([x1, x2, x3, x4, x5, x6] : List Vl)) I b z0) (kk : J (pc + 3) ls (vi z0 :: st) (mk I b)) : J pc ls (x6 :: x5 :: x4 :: x3 :: x2 :: x1 :: vr k :: st) (mk I b) :=
  mj_callV (xs := ([x1, x2, x3, x4, x5, x6] : List Vl)) hJ hd cw hk hc hy hn hst hdd h (Nat.le_refl _) (Nat.le_refl _) (by rw [show (mk I b).2.2.length = 143 from S0_len]; exact Nat.le_refl _) (by rw [show ssum (mk I b).2.2 = 9588 from S0_sum]; exact Nat.le_refl _) (fun r M' hq => by
    obtain ⟨I', b', rfl, z, rfl, rfl, rfl, rfl⟩ := hq
    exact ⟨⟨S0_len, S0_sum⟩, kk⟩)
theorem mk_Vv6 (hJ : OkJ G own ini cc maxL d 143 9588 J) {ci k sz : Nat} {C : String} {T : u_T} {N : Nat} {x1 x2 x3 x4 x5 x6 : Vl} {idx maxL' n d' : Nat} {y : MethodName} {cc' : ByteArray} {Q' : Ints → Bool → Prop} (hd : decode cc pc = .ok (.invokevirtual idx, 3)) (cw : CwV own idx y cc' maxL' none n) (hk : S0[k]? = some (ci, sz)) (hc : vwCl[ci]? = some (C, T, N)) (hy : y.cls = C) (hn : ([x1, x2, x3, x4, x5, x6] : List Vl).length = n) (hst : st.length ≤ 4) (hdd : d' + 1 ≤ d) (h : MtV G y cc' maxL' d' (vr k :: ([x1, x2, x3, x4, x5, x6] : List Vl)) I b Q') (kk : ∀ I' b', Q' I' b' → J (pc + 3) ls st (mk I' b')) : J pc ls (x6 :: x5 :: x4 :: x3 :: x2 :: x1 :: vr k :: st) (mk I b) :=
  mj_callV (xs := ([x1, x2, x3, x4, x5, x6] : List Vl)) hJ hd cw hk hc hy hn hst hdd h (Nat.le_refl _) (Nat.le_refl _) (by rw [show (mk I b).2.2.length = 143 from S0_len]; exact Nat.le_refl _) (by rw [show ssum (mk I b).2.2 = 9588 from S0_sum]; exact Nat.le_refl _) (fun r M' hq => by
    obtain ⟨I', b', rfl, rfl, hq⟩ := hq
    exact ⟨⟨S0_len, S0_sum⟩, kk I' b' hq⟩)
theorem mk_Si1 (hJ : OkJ G own ini cc maxL d 143 9588 J) {x1 : Vl} {idx maxL' n d' : Nat} {y : MethodName} {cc' : ByteArray} {ret' : Option FieldType} {Q' : Int → Ints → Bool → Prop} (hd : decode cc pc = .ok (.invokestatic idx, 3)) (cw : CwS own idx y cc' maxL' ret' n) (hn : ([x1] : List Vl).length = n) (hst : st.length ≤ 4) (hdd : d' + 1 ≤ d) (h : MtI G y cc' maxL' ret' d' (([x1] : List Vl)) I b Q') (kk : ∀ z I' b', Q' z I' b' → J (pc + 3) ls (vi z :: st) (mk I' b')) : J pc ls (x1 :: st) (mk I b) :=
  mj_callS (xs := ([x1] : List Vl)) hJ hd cw hn hst hdd h (Nat.le_refl _) (Nat.le_refl _) (by rw [show (mk I b).2.2.length = 143 from S0_len]; exact Nat.le_refl _) (by rw [show ssum (mk I b).2.2 = 9588 from S0_sum]; exact Nat.le_refl _) (fun r M' hq => by
    obtain ⟨I', b', rfl, z, rfl, hq⟩ := hq
    exact ⟨⟨S0_len, S0_sum⟩, kk z I' b' hq⟩)
theorem mk_Sp1 (hJ : OkJ G own ini cc maxL d 143 9588 J) {x1 : Vl} {idx maxL' n d' : Nat} {y : MethodName} {cc' : ByteArray} {ret' : Option FieldType} {z0 : Int} (hd : decode cc pc = .ok (.invokestatic idx, 3)) (cw : CwS own idx y cc' maxL' ret' n) (hn : ([x1] : List Vl).length = n) (hst : st.length ≤ 4) (hdd : d' + 1 ≤ d) (h : MtP G y cc' maxL' ret' d' (([x1] : List Vl)) I b z0) (kk : J (pc + 3) ls (vi z0 :: st) (mk I b)) : J pc ls (x1 :: st) (mk I b) :=
  mj_callS (xs := ([x1] : List Vl)) hJ hd cw hn hst hdd h (Nat.le_refl _) (Nat.le_refl _) (by rw [show (mk I b).2.2.length = 143 from S0_len]; exact Nat.le_refl _) (by rw [show ssum (mk I b).2.2 = 9588 from S0_sum]; exact Nat.le_refl _) (fun r M' hq => by
    obtain ⟨I', b', rfl, z, rfl, rfl, rfl, rfl⟩ := hq
    exact ⟨⟨S0_len, S0_sum⟩, kk⟩)
theorem mk_Sv1 (hJ : OkJ G own ini cc maxL d 143 9588 J) {x1 : Vl} {idx maxL' n d' : Nat} {y : MethodName} {cc' : ByteArray} {Q' : Ints → Bool → Prop} (hd : decode cc pc = .ok (.invokestatic idx, 3)) (cw : CwS own idx y cc' maxL' none n) (hn : ([x1] : List Vl).length = n) (hst : st.length ≤ 4) (hdd : d' + 1 ≤ d) (h : MtV G y cc' maxL' d' (([x1] : List Vl)) I b Q') (kk : ∀ I' b', Q' I' b' → J (pc + 3) ls st (mk I' b')) : J pc ls (x1 :: st) (mk I b) :=
  mj_callS (xs := ([x1] : List Vl)) hJ hd cw hn hst hdd h (Nat.le_refl _) (Nat.le_refl _) (by rw [show (mk I b).2.2.length = 143 from S0_len]; exact Nat.le_refl _) (by rw [show ssum (mk I b).2.2 = 9588 from S0_sum]; exact Nat.le_refl _) (fun r M' hq => by
    obtain ⟨I', b', rfl, rfl, hq⟩ := hq
    exact ⟨⟨S0_len, S0_sum⟩, kk I' b' hq⟩)
theorem mk_Si2 (hJ : OkJ G own ini cc maxL d 143 9588 J) {x1 x2 : Vl} {idx maxL' n d' : Nat} {y : MethodName} {cc' : ByteArray} {ret' : Option FieldType} {Q' : Int → Ints → Bool → Prop} (hd : decode cc pc = .ok (.invokestatic idx, 3)) (cw : CwS own idx y cc' maxL' ret' n) (hn : ([x1, x2] : List Vl).length = n) (hst : st.length ≤ 4) (hdd : d' + 1 ≤ d) (h : MtI G y cc' maxL' ret' d' (([x1, x2] : List Vl)) I b Q') (kk : ∀ z I' b', Q' z I' b' → J (pc + 3) ls (vi z :: st) (mk I' b')) : J pc ls (x2 :: x1 :: st) (mk I b) :=
  mj_callS (xs := ([x1, x2] : List Vl)) hJ hd cw hn hst hdd h (Nat.le_refl _) (Nat.le_refl _) (by rw [show (mk I b).2.2.length = 143 from S0_len]; exact Nat.le_refl _) (by rw [show ssum (mk I b).2.2 = 9588 from S0_sum]; exact Nat.le_refl _) (fun r M' hq => by
    obtain ⟨I', b', rfl, z, rfl, hq⟩ := hq
    exact ⟨⟨S0_len, S0_sum⟩, kk z I' b' hq⟩)
theorem mk_Sp2 (hJ : OkJ G own ini cc maxL d 143 9588 J) {x1 x2 : Vl} {idx maxL' n d' : Nat} {y : MethodName} {cc' : ByteArray} {ret' : Option FieldType} {z0 : Int} (hd : decode cc pc = .ok (.invokestatic idx, 3)) (cw : CwS own idx y cc' maxL' ret' n) (hn : ([x1, x2] : List Vl).length = n) (hst : st.length ≤ 4) (hdd : d' + 1 ≤ d) (h : MtP G y cc' maxL' ret' d' (([x1, x2] : List Vl)) I b z0) (kk : J (pc + 3) ls (vi z0 :: st) (mk I b)) : J pc ls (x2 :: x1 :: st) (mk I b) :=
  mj_callS (xs := ([x1, x2] : List Vl)) hJ hd cw hn hst hdd h (Nat.le_refl _) (Nat.le_refl _) (by rw [show (mk I b).2.2.length = 143 from S0_len]; exact Nat.le_refl _) (by rw [show ssum (mk I b).2.2 = 9588 from S0_sum]; exact Nat.le_refl _) (fun r M' hq => by
    obtain ⟨I', b', rfl, z, rfl, rfl, rfl, rfl⟩ := hq
    exact ⟨⟨S0_len, S0_sum⟩, kk⟩)
theorem mk_Sv2 (hJ : OkJ G own ini cc maxL d 143 9588 J) {x1 x2 : Vl} {idx maxL' n d' : Nat} {y : MethodName} {cc' : ByteArray} {Q' : Ints → Bool → Prop} (hd : decode cc pc = .ok (.invokestatic idx, 3)) (cw : CwS own idx y cc' maxL' none n) (hn : ([x1, x2] : List Vl).length = n) (hst : st.length ≤ 4) (hdd : d' + 1 ≤ d) (h : MtV G y cc' maxL' d' (([x1, x2] : List Vl)) I b Q') (kk : ∀ I' b', Q' I' b' → J (pc + 3) ls st (mk I' b')) : J pc ls (x2 :: x1 :: st) (mk I b) :=
  mj_callS (xs := ([x1, x2] : List Vl)) hJ hd cw hn hst hdd h (Nat.le_refl _) (Nat.le_refl _) (by rw [show (mk I b).2.2.length = 143 from S0_len]; exact Nat.le_refl _) (by rw [show ssum (mk I b).2.2 = 9588 from S0_sum]; exact Nat.le_refl _) (fun r M' hq => by
    obtain ⟨I', b', rfl, rfl, hq⟩ := hq
    exact ⟨⟨S0_len, S0_sum⟩, kk I' b' hq⟩)
theorem mk_Si3 (hJ : OkJ G own ini cc maxL d 143 9588 J) {x1 x2 x3 : Vl} {idx maxL' n d' : Nat} {y : MethodName} {cc' : ByteArray} {ret' : Option FieldType} {Q' : Int → Ints → Bool → Prop} (hd : decode cc pc = .ok (.invokestatic idx, 3)) (cw : CwS own idx y cc' maxL' ret' n) (hn : ([x1, x2, x3] : List Vl).length = n) (hst : st.length ≤ 4) (hdd : d' + 1 ≤ d) (h : MtI G y cc' maxL' ret' d' (([x1, x2, x3] : List Vl)) I b Q') (kk : ∀ z I' b', Q' z I' b' → J (pc + 3) ls (vi z :: st) (mk I' b')) : J pc ls (x3 :: x2 :: x1 :: st) (mk I b) :=
  mj_callS (xs := ([x1, x2, x3] : List Vl)) hJ hd cw hn hst hdd h (Nat.le_refl _) (Nat.le_refl _) (by rw [show (mk I b).2.2.length = 143 from S0_len]; exact Nat.le_refl _) (by rw [show ssum (mk I b).2.2 = 9588 from S0_sum]; exact Nat.le_refl _) (fun r M' hq => by
    obtain ⟨I', b', rfl, z, rfl, hq⟩ := hq
    exact ⟨⟨S0_len, S0_sum⟩, kk z I' b' hq⟩)
theorem mk_Sp3 (hJ : OkJ G own ini cc maxL d 143 9588 J) {x1 x2 x3 : Vl} {idx maxL' n d' : Nat} {y : MethodName} {cc' : ByteArray} {ret' : Option FieldType} {z0 : Int} (hd : decode cc pc = .ok (.invokestatic idx, 3)) (cw : CwS own idx y cc' maxL' ret' n) (hn : ([x1, x2, x3] : List Vl).length = n) (hst : st.length ≤ 4) (hdd : d' + 1 ≤ d) (h : MtP G y cc' maxL' ret' d' (([x1, x2, x3] : List Vl)) I b z0) (kk : J (pc + 3) ls (vi z0 :: st) (mk I b)) : J pc ls (x3 :: x2 :: x1 :: st) (mk I b) :=
  mj_callS (xs := ([x1, x2, x3] : List Vl)) hJ hd cw hn hst hdd h (Nat.le_refl _) (Nat.le_refl _) (by rw [show (mk I b).2.2.length = 143 from S0_len]; exact Nat.le_refl _) (by rw [show ssum (mk I b).2.2 = 9588 from S0_sum]; exact Nat.le_refl _) (fun r M' hq => by
    obtain ⟨I', b', rfl, z, rfl, rfl, rfl, rfl⟩ := hq
    exact ⟨⟨S0_len, S0_sum⟩, kk⟩)
theorem mk_Sv3 (hJ : OkJ G own ini cc maxL d 143 9588 J) {x1 x2 x3 : Vl} {idx maxL' n d' : Nat} {y : MethodName} {cc' : ByteArray} {Q' : Ints → Bool → Prop} (hd : decode cc pc = .ok (.invokestatic idx, 3)) (cw : CwS own idx y cc' maxL' none n) (hn : ([x1, x2, x3] : List Vl).length = n) (hst : st.length ≤ 4) (hdd : d' + 1 ≤ d) (h : MtV G y cc' maxL' d' (([x1, x2, x3] : List Vl)) I b Q') (kk : ∀ I' b', Q' I' b' → J (pc + 3) ls st (mk I' b')) : J pc ls (x3 :: x2 :: x1 :: st) (mk I b) :=
  mj_callS (xs := ([x1, x2, x3] : List Vl)) hJ hd cw hn hst hdd h (Nat.le_refl _) (Nat.le_refl _) (by rw [show (mk I b).2.2.length = 143 from S0_len]; exact Nat.le_refl _) (by rw [show ssum (mk I b).2.2 = 9588 from S0_sum]; exact Nat.le_refl _) (fun r M' hq => by
    obtain ⟨I', b', rfl, rfl, hq⟩ := hq
    exact ⟨⟨S0_len, S0_sum⟩, kk I' b' hq⟩)
theorem mk_Si4 (hJ : OkJ G own ini cc maxL d 143 9588 J) {x1 x2 x3 x4 : Vl} {idx maxL' n d' : Nat} {y : MethodName} {cc' : ByteArray} {ret' : Option FieldType} {Q' : Int → Ints → Bool → Prop} (hd : decode cc pc = .ok (.invokestatic idx, 3)) (cw : CwS own idx y cc' maxL' ret' n) (hn : ([x1, x2, x3, x4] : List Vl).length = n) (hst : st.length ≤ 4) (hdd : d' + 1 ≤ d) (h : MtI G y cc' maxL' ret' d' (([x1, x2, x3, x4] : List Vl)) I b Q') (kk : ∀ z I' b', Q' z I' b' → J (pc + 3) ls (vi z :: st) (mk I' b')) : J pc ls (x4 :: x3 :: x2 :: x1 :: st) (mk I b) :=
  mj_callS (xs := ([x1, x2, x3, x4] : List Vl)) hJ hd cw hn hst hdd h (Nat.le_refl _) (Nat.le_refl _) (by rw [show (mk I b).2.2.length = 143 from S0_len]; exact Nat.le_refl _) (by rw [show ssum (mk I b).2.2 = 9588 from S0_sum]; exact Nat.le_refl _) (fun r M' hq => by
    obtain ⟨I', b', rfl, z, rfl, hq⟩ := hq
    exact ⟨⟨S0_len, S0_sum⟩, kk z I' b' hq⟩)
theorem mk_Sp4 (hJ : OkJ G own ini cc maxL d 143 9588 J) {x1 x2 x3 x4 : Vl} {idx maxL' n d' : Nat} {y : MethodName} {cc' : ByteArray} {ret' : Option FieldType} {z0 : Int} (hd : decode cc pc = .ok (.invokestatic idx, 3)) (cw : CwS own idx y cc' maxL' ret' n) (hn : ([x1, x2, x3, x4] : List Vl).length = n) (hst : st.length ≤ 4) (hdd : d' + 1 ≤ d) (h : MtP G y cc' maxL' ret' d' (([x1, x2, x3, x4] : List Vl)) I b z0) (kk : J (pc + 3) ls (vi z0 :: st) (mk I b)) : J pc ls (x4 :: x3 :: x2 :: x1 :: st) (mk I b) :=
  mj_callS (xs := ([x1, x2, x3, x4] : List Vl)) hJ hd cw hn hst hdd h (Nat.le_refl _) (Nat.le_refl _) (by rw [show (mk I b).2.2.length = 143 from S0_len]; exact Nat.le_refl _) (by rw [show ssum (mk I b).2.2 = 9588 from S0_sum]; exact Nat.le_refl _) (fun r M' hq => by
    obtain ⟨I', b', rfl, z, rfl, rfl, rfl, rfl⟩ := hq
    exact ⟨⟨S0_len, S0_sum⟩, kk⟩)
theorem mk_Sv4 (hJ : OkJ G own ini cc maxL d 143 9588 J) {x1 x2 x3 x4 : Vl} {idx maxL' n d' : Nat} {y : MethodName} {cc' : ByteArray} {Q' : Ints → Bool → Prop} (hd : decode cc pc = .ok (.invokestatic idx, 3)) (cw : CwS own idx y cc' maxL' none n) (hn : ([x1, x2, x3, x4] : List Vl).length = n) (hst : st.length ≤ 4) (hdd : d' + 1 ≤ d) (h : MtV G y cc' maxL' d' (([x1, x2, x3, x4] : List Vl)) I b Q') (kk : ∀ I' b', Q' I' b' → J (pc + 3) ls st (mk I' b')) : J pc ls (x4 :: x3 :: x2 :: x1 :: st) (mk I b) :=
  mj_callS (xs := ([x1, x2, x3, x4] : List Vl)) hJ hd cw hn hst hdd h (Nat.le_refl _) (Nat.le_refl _) (by rw [show (mk I b).2.2.length = 143 from S0_len]; exact Nat.le_refl _) (by rw [show ssum (mk I b).2.2 = 9588 from S0_sum]; exact Nat.le_refl _) (fun r M' hq => by
    obtain ⟨I', b', rfl, rfl, hq⟩ := hq
    exact ⟨⟨S0_len, S0_sum⟩, kk I' b' hq⟩)
theorem mk_Si5 (hJ : OkJ G own ini cc maxL d 143 9588 J) {x1 x2 x3 x4 x5 : Vl} {idx maxL' n d' : Nat} {y : MethodName} {cc' : ByteArray} {ret' : Option FieldType} {Q' : Int → Ints → Bool → Prop} (hd : decode cc pc = .ok (.invokestatic idx, 3)) (cw : CwS own idx y cc' maxL' ret' n) (hn : ([x1, x2, x3, x4, x5] : List Vl).length = n) (hst : st.length ≤ 4) (hdd : d' + 1 ≤ d) (h : MtI G y cc' maxL' ret' d' (([x1, x2, x3, x4, x5] : List Vl)) I b Q') (kk : ∀ z I' b', Q' z I' b' → J (pc + 3) ls (vi z :: st) (mk I' b')) : J pc ls (x5 :: x4 :: x3 :: x2 :: x1 :: st) (mk I b) :=
  mj_callS (xs := ([x1, x2, x3, x4, x5] : List Vl)) hJ hd cw hn hst hdd h (Nat.le_refl _) (Nat.le_refl _) (by rw [show (mk I b).2.2.length = 143 from S0_len]; exact Nat.le_refl _) (by rw [show ssum (mk I b).2.2 = 9588 from S0_sum]; exact Nat.le_refl _) (fun r M' hq => by
    obtain ⟨I', b', rfl, z, rfl, hq⟩ := hq
    exact ⟨⟨S0_len, S0_sum⟩, kk z I' b' hq⟩)
theorem mk_Sp5 (hJ : OkJ G own ini cc maxL d 143 9588 J) {x1 x2 x3 x4 x5 : Vl} {idx maxL' n d' : Nat} {y : MethodName} {cc' : ByteArray} {ret' : Option FieldType} {z0 : Int} (hd : decode cc pc = .ok (.invokestatic idx, 3)) (cw : CwS own idx y cc' maxL' ret' n) (hn : ([x1, x2, x3, x4, x5] : List Vl).length = n) (hst : st.length ≤ 4) (hdd : d' + 1 ≤ d) (h : MtP G y cc' maxL' ret' d' (([x1, x2, x3, x4, x5] : List Vl)) I b z0) (kk : J (pc + 3) ls (vi z0 :: st) (mk I b)) : J pc ls (x5 :: x4 :: x3 :: x2 :: x1 :: st) (mk I b) :=
  mj_callS (xs := ([x1, x2, x3, x4, x5] : List Vl)) hJ hd cw hn hst hdd h (Nat.le_refl _) (Nat.le_refl _) (by rw [show (mk I b).2.2.length = 143 from S0_len]; exact Nat.le_refl _) (by rw [show ssum (mk I b).2.2 = 9588 from S0_sum]; exact Nat.le_refl _) (fun r M' hq => by
    obtain ⟨I', b', rfl, z, rfl, rfl, rfl, rfl⟩ := hq
    exact ⟨⟨S0_len, S0_sum⟩, kk⟩)
theorem mk_Sv5 (hJ : OkJ G own ini cc maxL d 143 9588 J) {x1 x2 x3 x4 x5 : Vl} {idx maxL' n d' : Nat} {y : MethodName} {cc' : ByteArray} {Q' : Ints → Bool → Prop} (hd : decode cc pc = .ok (.invokestatic idx, 3)) (cw : CwS own idx y cc' maxL' none n) (hn : ([x1, x2, x3, x4, x5] : List Vl).length = n) (hst : st.length ≤ 4) (hdd : d' + 1 ≤ d) (h : MtV G y cc' maxL' d' (([x1, x2, x3, x4, x5] : List Vl)) I b Q') (kk : ∀ I' b', Q' I' b' → J (pc + 3) ls st (mk I' b')) : J pc ls (x5 :: x4 :: x3 :: x2 :: x1 :: st) (mk I b) :=
  mj_callS (xs := ([x1, x2, x3, x4, x5] : List Vl)) hJ hd cw hn hst hdd h (Nat.le_refl _) (Nat.le_refl _) (by rw [show (mk I b).2.2.length = 143 from S0_len]; exact Nat.le_refl _) (by rw [show ssum (mk I b).2.2 = 9588 from S0_sum]; exact Nat.le_refl _) (fun r M' hq => by
    obtain ⟨I', b', rfl, rfl, hq⟩ := hq
    exact ⟨⟨S0_len, S0_sum⟩, kk I' b' hq⟩)
end MKA
