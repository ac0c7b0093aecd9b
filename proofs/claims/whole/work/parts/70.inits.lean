/-! the constructors: memories in a normal form: U the references not yet set, V the places of -1, n how many cells -/
def nfI (V : List (Nat × Int)) : Ints := fun a j => if (a, j) ∈ V then -1 else 0
def nfR (U : List (Nat × Int)) (n : Nat) : Nat → Int → Option Nat := fun a j => if n ≤ a ∨ (a, j) ∈ U then none else RR true a j
abbrev nf (U V : List (Nat × Int)) (n : Nat) : Mem := (nfI V, nfR U n, S0.take n)
abbrev ltF (n : Nat) (V : List (Nat × Int)) : Prop := ∀ p ∈ V, p.1 < n
theorem RT_44 : RT.all (fun l => decide (l.length ≤ 44)) = true := by decide +kernel
theorem RR_out {n : Nat} {j : Int} (h : j < 0 ∨ 44 ≤ j) : RR true n j = none := by
  unfold RR
  rw [if_neg (by omega), if_neg (by omega)]
  by_cases c : j < 0
  · rw [if_pos c]
  · rw [if_neg c]
    have hl : (RT.getD n []).length ≤ 44 := by
      rw [List.getD_eq_getElem?_getD]
      cases e : RT[n]? with
      | none => exact Nat.zero_le _
      | some l =>
        have := List.all_eq_true.mp RT_44 l (List.mem_of_getElem? e)
        exact of_decide_eq_true this
    rw [List.getD_eq_getElem?_getD, List.getElem?_eq_none (by omega)]
    rfl
theorem nf_push {U V L : List (Nat × Int)} {n : Nat} {s : Nat × Nat} (hs : S0[n]? = some s) (hV : ltF n V) (hL : ∀ j : Fin 44, RR true n (j.val : Int) = none ∨ (n, (j.val : Int)) ∈ L) (hL2 : ∀ p ∈ L, p.1 = n) : pushM (nf U V n) s = nf (L ++ U) V (n + 1) := by
  have hn : n < S0.length := (List.getElem?_eq_some_iff.mp hs).1
  have hl : (S0.take n).length = n := by rw [List.length_take]; omega
  unfold pushM
  refine Prod.ext ?_ (Prod.ext ?_ ?_)
  · show clI (nfI V) (S0.take n).length = nfI V
    rw [hl]
    funext a j
    unfold clI
    by_cases c : n ≤ a
    · rw [if_pos c]
      unfold nfI
      rw [if_neg (fun q => by have := hV _ q; omega)]
    · rw [if_neg c]
  · show clR (nfR U n) (S0.take n).length = nfR (L ++ U) (n + 1)
    rw [hl]
    funext a j
    unfold clR nfR
    by_cases c : n ≤ a
    · rw [if_pos c]
      by_cases c2 : n + 1 ≤ a
      · rw [if_pos (Or.inl c2)]
      · have e : a = n := by omega
        subst e
        by_cases c3 : (a, j) ∈ L
        · rw [if_pos (Or.inr (List.mem_append_left _ c3))]
        · have hr : RR true a j = none := by
            by_cases c4 : j < 0 ∨ 44 ≤ j
            · exact RR_out c4
            · have q := hL ⟨j.toNat, by omega⟩
              have ej : ((j.toNat : Nat) : Int) = j := by omega
              simp only [] at q
              rw [ej] at q
              exact q.resolve_right c3
          by_cases c5 : a + 1 ≤ a ∨ (a, j) ∈ L ++ U
          · rw [if_pos c5]
          · rw [if_neg c5, hr]
    · rw [if_neg c]
      by_cases c2 : (a, j) ∈ U
      · rw [if_pos (Or.inr c2), if_pos (Or.inr (List.mem_append_right _ c2))]
      · have c3 : ¬(a, j) ∈ L ++ U := fun q => (List.mem_append.mp q).elim (fun z => by have := hL2 _ z; simp only [] at this; omega) c2
        rw [if_neg (fun q => q.elim c c2), if_neg (fun q => q.elim (fun z => by omega) c3)]
  · show S0.take n ++ [s] = S0.take (n + 1)
    rw [List.take_add_one, hs]
    rfl
theorem nf_upR {U U' V : List (Nat × Int)} {n k r : Nat} {j : Int} (hk : k < n) (hr : RR true k j = some r) (hU : U.filter (fun p => !decide (p = (k, j))) = U') : upR (nfR U n) k j (some r) = nfR U' n := by
  funext a i
  unfold upR nfR
  have hm : (a, i) ∈ U' ↔ (a, i) ∈ U ∧ (a, i) ≠ (k, j) := by
    rw [← hU, List.mem_filter, Bool.not_eq_true', decide_eq_false_iff_not]
  by_cases c : a = k ∧ i = j
  · obtain ⟨rfl, rfl⟩ := c
    rw [if_pos ⟨rfl, rfl⟩, if_neg (fun q => q.elim (fun z => by omega) (fun z => (hm.1 z).2 rfl)), hr]
  · rw [if_neg c]
    have hne : (a, i) ≠ (k, j) := fun q => c ⟨congrArg Prod.fst q, congrArg Prod.snd q⟩
    by_cases c2 : n ≤ a ∨ (a, i) ∈ U
    · rw [if_pos c2, if_pos (c2.imp id (fun z => hm.2 ⟨z, hne⟩))]
    · rw [if_neg c2, if_neg (fun q => c2 (q.imp id (fun z => (hm.1 z).1)))]
theorem nf_up0 {V : List (Nat × Int)} {k : Nat} {j : Int} (h : (k, j) ∉ V) : upI (nfI V) k j 0 = nfI V := by
  funext a i
  unfold upI nfI
  by_cases c : a = k ∧ i = j
  · obtain ⟨rfl, rfl⟩ := c
    rw [if_pos ⟨rfl, rfl⟩, if_neg h]
  · rw [if_neg c]
theorem nf_up1 {V : List (Nat × Int)} {k : Nat} {j : Int} : upI (nfI V) k j (-1) = nfI ((k, j) :: V) := by
  funext a i
  unfold upI nfI
  by_cases c : a = k ∧ i = j
  · obtain ⟨rfl, rfl⟩ := c
    rw [if_pos ⟨rfl, rfl⟩, if_pos List.mem_cons_self]
  · rw [if_neg c]
    have hne : (a, i) ≠ (k, j) := fun q => c ⟨congrArg Prod.fst q, congrArg Prod.snd q⟩
    by_cases c2 : (a, i) ∈ V
    · rw [if_pos c2, if_pos (List.mem_cons_of_mem _ c2)]
    · rw [if_neg c2, if_neg (fun q => (List.mem_cons.mp q).elim hne c2)]
theorem nf_mna {U V : List (Nat × Int)} {n k m n' : Nat} (hn : n < 143) (hS : S0.take n ++ (18, k) :: List.replicate k (16, m) = S0.take n') (hn' : n' = n + 1 + k) (hV : ltF n V) (hr : ∀ j : Fin 44, RR true n (j.val : Int) = if j.val < k then some (n + 1 + j.val) else none) (hk : k ≤ 44) (hrow : ∀ i : Fin k, ∀ j : Fin 44, RR true (n + 1 + i.val) (j.val : Int) = none) (hU : ltF n U) : mnaM (nf U V n) k m = nf U V n' := by
  have hl : (S0.take n).length = n := by rw [List.length_take]; show min n S0.length = n; rw [S0_len]; omega
  unfold mnaM
  refine Prod.ext ?_ (Prod.ext ?_ ?_)
  · show clI (nfI V) (S0.take n).length = nfI V
    rw [hl]
    funext a j
    unfold clI
    by_cases c : n ≤ a
    · rw [if_pos c]
      unfold nfI
      rw [if_neg (fun q => by have := hV _ q; omega)]
    · rw [if_neg c]
  · show (fun (a : Nat) (b : Int) => if a = (S0.take n).length ∧ 0 ≤ b ∧ b < k then some ((S0.take n).length + 1 + b.toNat) else clR (nfR U n) (S0.take n).length a b) = nfR U n'
    rw [hl, hn']
    funext a j
    unfold clR nfR
    have hU2 : n ≤ a → (a, j) ∉ U := fun c q => by have := hU _ q; omega
    by_cases c : n ≤ a
    · by_cases e : a = n
      · subst e
        have hrr : RR true a j = if 0 ≤ j ∧ j < k then some (a + 1 + j.toNat) else none := by
          by_cases c4 : j < 0 ∨ 44 ≤ j
          · rw [RR_out c4, if_neg (by omega)]
          · have q := hr ⟨j.toNat, by omega⟩
            have ej : ((j.toNat : Nat) : Int) = j := by omega
            simp only [] at q
            rw [ej] at q
            rw [q]
            by_cases c5 : j.toNat < k
            · rw [if_pos c5, if_pos (by omega)]
            · rw [if_neg c5, if_neg (by omega)]
        rw [if_neg (c := a + 1 + k ≤ a ∨ (a, j) ∈ U) (fun q => q.elim (fun z => by omega) (hU2 c)), hrr]
        by_cases c6 : 0 ≤ j ∧ j < k
        · rw [if_pos ⟨rfl, c6⟩, if_pos c6]
        · rw [if_neg (fun q => c6 q.2), if_pos c, if_neg c6]
      · rw [if_neg (fun q => e q.1), if_pos c]
        by_cases c2 : n + 1 + k ≤ a
        · rw [if_pos (Or.inl c2)]
        · rw [if_neg (fun q => q.elim c2 (hU2 c))]
          by_cases c4 : j < 0 ∨ 44 ≤ j
          · exact (RR_out c4).symm
          · have q := hrow ⟨a - (n + 1), by omega⟩ ⟨j.toNat, by omega⟩
            have ej : ((j.toNat : Nat) : Int) = j := by omega
            simp only [] at q
            rw [ej, show n + 1 + (a - (n + 1)) = a by omega] at q
            exact q.symm
    · rw [if_neg (fun q => c (by omega)), if_neg c]
      by_cases c2 : (a, j) ∈ U
      · rw [if_pos (Or.inr c2), if_pos (Or.inr c2)]
      · rw [if_neg (fun q => q.elim c c2), if_neg (fun q => q.elim (fun z => by omega) c2)]
  · exact hS
section KN
variable {G : GE} {own : String} {ini : Bool} {cc : ByteArray} {maxL d nC nS : Nat} {J : Jd} {pc : Nat} {ls st : List Vl} {U V : List (Nat × Int)} {n : Nat}
theorem nf_len (h : n < 143) : (nf U V n).2.2.length = n := by
  show (S0.take n).length = n
  rw [List.length_take, S0_len]
  omega
theorem kn_new (hJ : OkJ G own ini cc maxL d nC nS J) {idx ci N : Nat} {C : String} {T : u_T} (L : List (Nat × Int)) (hd : decode cc pc = .ok (.new idx, 3)) (hc : vwCl[ci]? = some (C, T, N)) (h1 : Cond.classLink own idx C ∈ lw_gd) (h2 : Cond.instantiable C N ∈ lw_gd) (h3 : Cond.initialized C ∈ lw_gd) (hn : n < 143) (hs : S0[n]? = some (ci, N)) (hV : ltF n V) (hL : ∀ j : Fin 44, RR true n (j.val : Int) = none ∨ (n, (j.val : Int)) ∈ L) (hL2 : ∀ p ∈ L, p.1 = n) (hC : n + 1 ≤ nC) (hS : ssum (S0.take n) + N ≤ nS) (kk : J (pc + 3) ls (vr n :: st) (nf (L ++ U) V (n + 1))) : J pc ls st (nf U V n) := by
  refine mj_new hJ hd hc h1 h2 h3 (by rw [nf_len hn]; exact hC) hS ?_
  rw [nf_len hn, nf_push hs hV hL hL2]
  exact kk
theorem kn_newa (hJ : OkJ G own ini cc maxL d nC nS J) (k : Nat) {at' : ArrayType} (kd : Nat) (hd : decode cc pc = .ok (.newarray at', 2)) (hat : (at' = .int ∧ kd = 16) ∨ (at' = .boolean ∧ kd = 17)) (hk : k ≤ 100000) (hn : n < 143) (hs : S0[n]? = some (kd, k)) (hV : ltF n V) (hL : ∀ j : Fin 44, RR true n (j.val : Int) = none ∨ (n, (j.val : Int)) ∈ ([] : List (Nat × Int))) (hC : n + 1 ≤ nC) (hS : ssum (S0.take n) + k ≤ nS) (kk : J (pc + 2) ls (vr n :: st) (nf U V (n + 1))) : J pc ls (vi k :: st) (nf U V n) := by
  refine mj_newa hJ kd hd hat ac_int ac_bool hk (by rw [nf_len hn]; exact hC) hS ?_
  rw [nf_len hn, nf_push hs hV hL (fun p hp => by cases hp)]
  exact kk
theorem kn_newq (hJ : OkJ G own ini cc maxL d nC nS J) (k : Nat) {idx : Nat} (L : List (Nat × Int)) (hd : decode cc pc = .ok (.anewarray idx, 3)) (h1 : Cond.classLink own idx "WaterThanks$Sheet" ∈ lw_gd) (hk : k ≤ 100000) (hn : n < 143) (hs : S0[n]? = some (19, k)) (hV : ltF n V) (hL : ∀ j : Fin 44, RR true n (j.val : Int) = none ∨ (n, (j.val : Int)) ∈ L) (hL2 : ∀ p ∈ L, p.1 = n) (hC : n + 1 ≤ nC) (hS : ssum (S0.take n) + k ≤ nS) (kk : J (pc + 3) ls (vr n :: st) (nf (L ++ U) V (n + 1))) : J pc ls (vi k :: st) (nf U V n) := by
  refine mj_newq hJ hd h1 hk (by rw [nf_len hn]; exact hC) hS ?_
  rw [nf_len hn, nf_push hs hV hL hL2]
  exact kk
theorem kn_mna (hJ : OkJ G own ini cc maxL d nC nS J) (k m n' : Nat) {idx : Nat} (hd : decode cc pc = .ok (.multianewarray idx 2, 4)) (h1 : Cond.classLink own idx "[[I" ∈ lw_gd) (hk : k ≤ 44) (hm : m ≤ 1000) (hn : n < 143) (hS0 : S0.take n ++ (18, k) :: List.replicate k (16, m) = S0.take n') (hn' : n' = n + 1 + k) (hV : ltF n V) (hr : ∀ j : Fin 44, RR true n (j.val : Int) = if j.val < k then some (n + 1 + j.val) else none) (hrow : ∀ i : Fin k, ∀ j : Fin 44, RR true (n + 1 + i.val) (j.val : Int) = none) (hU : ltF n U) (hC : n + 1 + k ≤ nC) (hS : ssum (S0.take n) + k + k * m ≤ nS) (hC9 : nC < 1000) (kk : J (pc + 4) ls (vr n :: st) (nf U V n')) : J pc ls (vi m :: vi k :: st) (nf U V n) := by
  refine mj_mna hJ hd h1 ac_int (by omega) hm (by rw [nf_len hn]; exact hC) hS hC9 ?_
  rw [nf_len hn, nf_mna hn hS0 hn' hV hr hk hrow hU]
  exact kk
abbrev KI (G : GE) (y : MethodName) (cc : ByteArray) (maxL d k : Nat) (U V : List (Nat × Int)) (n : Nat) (U' V' : List (Nat × Int)) (n' : Nat) : Prop := Mth G y cc maxL none d [vr k] (nf U V n) n' (ssum (S0.take n')) (fun r M' => r = none ∧ M' = nf U' V' n')
theorem nf_len' (h : n ≤ 143) : (nf U V n).2.2.length = n := by
  show (S0.take n).length = n
  rw [List.length_take, S0_len]
  omega
theorem kn_callI (hJ : OkJ G own ini cc maxL d nC nS J) {idx maxL' d' k n' : Nat} {y : MethodName} {host : String} {cc' : ByteArray} {U' V' : List (Nat × Int)} (hd : decode cc pc = .ok (.invokespecial idx, 3)) (cw : CwI own idx y host cc' maxL' 0) (hst : st.length ≤ 4) (hdd : d' + 1 ≤ d) (h : KI G y cc' maxL' d' k U V n U' V' n') (hn : n ≤ n') (hn' : n' ≤ 143) (hC : n' ≤ nC) (hS : ssum (S0.take n') ≤ nS) (hS1 : ssum (S0.take n) ≤ ssum (S0.take n')) (kk : J (pc + 3) ls st (nf U' V' n')) : J pc ls (vr k :: st) (nf U V n) := by
  refine mj_callI (xs := []) hJ hd cw rfl hst hdd h hC hS (by rw [nf_len' (by omega)]; exact hn) hS1 (fun r M' q => ?_)
  obtain ⟨rfl, rfl⟩ := q
  exact ⟨⟨nf_len' hn', rfl⟩, kk⟩
theorem k_enter {y : MethodName} {k n' : Nat} {U' V' : List (Nat × Int)} {ls0 : List Vl} (hown : y.cls = own) (hn : y.name = "<init>") (hy : plainName y.cls = true) (hl : 1 ≤ maxL) (hls : vr k :: List.replicate (maxL - 1) vu = ls0) (body : ∀ J, OkJ G own true cc maxL d n' (ssum (S0.take n')) J → (∀ pc ls, decode cc pc = .ok (.return_, 1) → J pc ls [] (nf U' V' n')) → J 0 ls0 [] (nf U V n)) : KI G y cc maxL d k U V n U' V' n' := by
  refine mth_enter (own := own) (ini := true) hown (fun _ => hn) hy hl (fun J hJ _ hR => ?_)
  have e : entL [vr k] ++ List.replicate (maxL - (entL [vr k]).length) vu = ls0 := hls
  rw [e]
  exact body J hJ (fun pc ls hd => hR rfl pc ls _ hd ⟨rfl, rfl⟩)
end KN
section KF
variable {G : GE} {own : String} {ini : Bool} {cc : ByteArray} {maxL d nC nS : Nat} {J : Jd} {pc : Nat} {ls st : List Vl} {U V : List (Nat × Int)} {n : Nat}
abbrev KF (G : GE) (y : MethodName) (cc : ByteArray) (maxL d k : Nat) (U V : List (Nat × Int)) (n : Nat) (U' V' : List (Nat × Int)) (n' : Nat) : Prop := Mth G y cc maxL none d [vr k, vi (-1)] (nf U V n) n' (ssum (S0.take n')) (fun r M' => r = none ∧ M' = nf U' V' n')
theorem kn_callS2 (hJ : OkJ G own ini cc maxL d nC nS J) {idx maxL' d' k : Nat} {y : MethodName} {cc' : ByteArray} {U' V' : List (Nat × Int)} (hd : decode cc pc = .ok (.invokestatic idx, 3)) (cw : CwS own idx y cc' maxL' none 2) (hst : st.length ≤ 4) (hdd : d' + 1 ≤ d) (h : KF G y cc' maxL' d' k U V n U' V' n) (hC : n ≤ nC ∧ n ≤ 143) (hS : ssum (S0.take n) ≤ nS) (kk : J (pc + 3) ls st (nf U' V' n)) : J pc ls (vi (-1) :: vr k :: st) (nf U V n) := by
  refine mj_callS (xs := [vr k, vi (-1)]) hJ hd cw rfl hst hdd h hC.1 hS (by rw [nf_len' hC.2]; exact Nat.le_refl _) (Nat.le_refl _) (fun r M' q => ?_)
  obtain ⟨rfl, rfl⟩ := q
  exact ⟨⟨nf_len' hC.2, rfl⟩, kk⟩
theorem k_enterF {y : MethodName} {k n' : Nat} {U' V' : List (Nat × Int)} {ls0 : List Vl} (hown : y.cls = own) (hy : plainName y.cls = true) (hl : 2 ≤ maxL) (hls : vr k :: vi (-1) :: List.replicate (maxL - 2) vu = ls0) (body : ∀ J, OkJ G own false cc maxL d n' (ssum (S0.take n')) J → (∀ pc ls, decode cc pc = .ok (.return_, 1) → J pc ls [] (nf U' V' n')) → J 0 ls0 [] (nf U V n)) : KF G y cc maxL d k U V n U' V' n' := by
  refine mth_enter (own := own) (ini := false) hown (fun q => Bool.noConfusion q) hy hl (fun J hJ _ hR => ?_)
  have e : entL [vr k, vi (-1)] ++ List.replicate (maxL - (entL [vr k, vi (-1)]).length) vu = ls0 := hls
  rw [e]
  exact body J hJ (fun pc ls hd => hR rfl pc ls _ hd ⟨rfl, rfl⟩)
end KF
set_option maxRecDepth 4000
theorem k_X5_17 {G : GE} : KI G yX5_init cX5_init 1 1 17 [(17, 1), (17, 2), (17, 3), (17, 4), (1, 7), (0, 0), (0, 1), (0, 3), (0, 4), (0, 5), (0, 6), (0, 7), (0, 8), (0, 10), (0, 11), (0, 12), (0, 13)] [(1, 5)] 18 [(1, 7), (0, 0), (0, 1), (0, 3), (0, 4), (0, 5), (0, 6), (0, 7), (0, 8), (0, 10), (0, 11), (0, 12), (0, 13)] [(1, 5)] 22 := by
  refine k_enter (own := RX5) rfl rfl (by decide +kernel) (by decide) rfl (fun J hJ hR => ?_)
  refine mj_aload_n hJ dX5_init_0 rfl ?_
  refine mj_oinit hJ dX5_init_1 oi_X5_1 oi_in oi_code (by decide) (by decide) ?_
  refine mj_aload_n hJ dX5_init_4 rfl ?_
  refine mj_iconst hJ dX5_init_5 (by decide) ?_
  refine mj_putI (k := 17) (j := 0) hJ dX5_init_6 fw_X5_7 rfl (by decide) rfl ?_
  rw [show ((0 : Nat) : Int) = 0 from rfl, nf_up0 (by decide)]
  show J _ _ _ (nf [(17, 1), (17, 2), (17, 3), (17, 4), (1, 7), (0, 0), (0, 1), (0, 3), (0, 4), (0, 5), (0, 6), (0, 7), (0, 8), (0, 10), (0, 11), (0, 12), (0, 13)] [(1, 5)] 18)
  refine mj_aload_n hJ dX5_init_9 rfl ?_
  refine mj_bipush hJ dX5_init_10 (by decide) ?_
  refine kn_newa hJ 8 16 dX5_init_12 (by decide) (by decide) (by decide) rfl (by decide) (by decide +kernel) (by decide) (by decide +kernel) ?_
  refine mj_putFR (k := 17) (j := 1) (r := 18) hJ dX5_init_14 fw_X5_13 (fun C T N h => by cases h; rfl) rfl (by decide) rfl ?_
  rw [nf_upR (V := [(1, 5)]) (U' := [(17, 2), (17, 3), (17, 4), (1, 7), (0, 0), (0, 1), (0, 3), (0, 4), (0, 5), (0, 6), (0, 7), (0, 8), (0, 10), (0, 11), (0, 12), (0, 13)]) (by decide) (by decide +kernel) (by decide)]
  show J _ _ _ (nf [(17, 2), (17, 3), (17, 4), (1, 7), (0, 0), (0, 1), (0, 3), (0, 4), (0, 5), (0, 6), (0, 7), (0, 8), (0, 10), (0, 11), (0, 12), (0, 13)] [(1, 5)] 19)
  refine mj_aload_n hJ dX5_init_17 rfl ?_
  refine mj_bipush hJ dX5_init_18 (by decide) ?_
  refine kn_newa hJ 8 16 dX5_init_20 (by decide) (by decide) (by decide) rfl (by decide) (by decide +kernel) (by decide) (by decide +kernel) ?_
  refine mj_putFR (k := 17) (j := 2) (r := 19) hJ dX5_init_22 fw_X5_17 (fun C T N h => by cases h; rfl) rfl (by decide) rfl ?_
  rw [nf_upR (V := [(1, 5)]) (U' := [(17, 3), (17, 4), (1, 7), (0, 0), (0, 1), (0, 3), (0, 4), (0, 5), (0, 6), (0, 7), (0, 8), (0, 10), (0, 11), (0, 12), (0, 13)]) (by decide) (by decide +kernel) (by decide)]
  show J _ _ _ (nf [(17, 3), (17, 4), (1, 7), (0, 0), (0, 1), (0, 3), (0, 4), (0, 5), (0, 6), (0, 7), (0, 8), (0, 10), (0, 11), (0, 12), (0, 13)] [(1, 5)] 20)
  refine mj_aload_n hJ dX5_init_25 rfl ?_
  refine mj_bipush hJ dX5_init_26 (by decide) ?_
  refine kn_newa hJ 8 16 dX5_init_28 (by decide) (by decide) (by decide) rfl (by decide) (by decide +kernel) (by decide) (by decide +kernel) ?_
  refine mj_putFR (k := 17) (j := 3) (r := 20) hJ dX5_init_30 fw_X5_20 (fun C T N h => by cases h; rfl) rfl (by decide) rfl ?_
  rw [nf_upR (V := [(1, 5)]) (U' := [(17, 4), (1, 7), (0, 0), (0, 1), (0, 3), (0, 4), (0, 5), (0, 6), (0, 7), (0, 8), (0, 10), (0, 11), (0, 12), (0, 13)]) (by decide) (by decide +kernel) (by decide)]
  show J _ _ _ (nf [(17, 4), (1, 7), (0, 0), (0, 1), (0, 3), (0, 4), (0, 5), (0, 6), (0, 7), (0, 8), (0, 10), (0, 11), (0, 12), (0, 13)] [(1, 5)] 21)
  refine mj_aload_n hJ dX5_init_33 rfl ?_
  refine mj_sipush hJ dX5_init_34 (by decide) ?_
  refine kn_newa hJ 200 16 dX5_init_37 (by decide) (by decide) (by decide) rfl (by decide) (by decide +kernel) (by decide) (by decide +kernel) ?_
  refine mj_putFR (k := 17) (j := 4) (r := 21) hJ dX5_init_39 fw_X5_23 (fun C T N h => by cases h; rfl) rfl (by decide) rfl ?_
  rw [nf_upR (V := [(1, 5)]) (U' := [(1, 7), (0, 0), (0, 1), (0, 3), (0, 4), (0, 5), (0, 6), (0, 7), (0, 8), (0, 10), (0, 11), (0, 12), (0, 13)]) (by decide) (by decide +kernel) (by decide)]
  show J _ _ _ (nf [(1, 7), (0, 0), (0, 1), (0, 3), (0, 4), (0, 5), (0, 6), (0, 7), (0, 8), (0, 10), (0, 11), (0, 12), (0, 13)] [(1, 5)] 22)
  refine mj_aload_n hJ dX5_init_42 rfl ?_
  refine mj_iconst hJ dX5_init_43 (by decide) ?_
  refine mj_putI (k := 17) (j := 5) hJ dX5_init_44 fw_X5_26 rfl (by decide) rfl ?_
  rw [show ((5 : Nat) : Int) = 5 from rfl, nf_up0 (by decide)]
  show J _ _ _ (nf [(1, 7), (0, 0), (0, 1), (0, 3), (0, 4), (0, 5), (0, 6), (0, 7), (0, 8), (0, 10), (0, 11), (0, 12), (0, 13)] [(1, 5)] 22)
  exact hR _ _ dX5_init_47
theorem k_X2_1 {G : GE} : KI G yX2_init cX2_init 1 2 1 [(1, 1), (1, 2), (1, 4), (1, 7), (0, 0), (0, 1), (0, 3), (0, 4), (0, 5), (0, 6), (0, 7), (0, 8), (0, 10), (0, 11), (0, 12), (0, 13)] [] 2 [(0, 0), (0, 1), (0, 3), (0, 4), (0, 5), (0, 6), (0, 7), (0, 8), (0, 10), (0, 11), (0, 12), (0, 13)] [(1, 5)] 22 := by
  refine k_enter (own := RX2) rfl rfl (by decide +kernel) (by decide) rfl (fun J hJ hR => ?_)
  refine mj_aload_n hJ dX2_init_0 rfl ?_
  refine mj_oinit hJ dX2_init_1 oi_X2_3 oi_in oi_code (by decide) (by decide) ?_
  refine mj_aload_n hJ dX2_init_4 rfl ?_
  refine mj_iconst hJ dX2_init_5 (by decide) ?_
  refine mj_putI (k := 1) (j := 0) hJ dX2_init_6 fw_X2_9 rfl (by decide) rfl ?_
  rw [show ((0 : Nat) : Int) = 0 from rfl, nf_up0 (by decide)]
  show J _ _ _ (nf [(1, 1), (1, 2), (1, 4), (1, 7), (0, 0), (0, 1), (0, 3), (0, 4), (0, 5), (0, 6), (0, 7), (0, 8), (0, 10), (0, 11), (0, 12), (0, 13)] [] 2)
  refine mj_aload_n hJ dX2_init_9 rfl ?_
  refine mj_bipush hJ dX2_init_10 (by decide) ?_
  refine mj_bipush hJ dX2_init_12 (by decide) ?_
  refine kn_mna hJ 6 6 9 dX2_init_14 cl_X2_15 (by decide) (by decide) (by decide) (by decide +kernel) (by decide) (by decide) (by decide +kernel) (by decide +kernel) (by decide) (by decide) (by decide +kernel) (by decide) ?_
  refine mj_putFR (k := 1) (j := 1) (r := 2) hJ dX2_init_18 fw_X2_17 (fun C T N h => by cases h; rfl) rfl (by decide) rfl ?_
  rw [nf_upR (V := []) (U' := [(1, 2), (1, 4), (1, 7), (0, 0), (0, 1), (0, 3), (0, 4), (0, 5), (0, 6), (0, 7), (0, 8), (0, 10), (0, 11), (0, 12), (0, 13)]) (by decide) (by decide +kernel) (by decide)]
  show J _ _ _ (nf [(1, 2), (1, 4), (1, 7), (0, 0), (0, 1), (0, 3), (0, 4), (0, 5), (0, 6), (0, 7), (0, 8), (0, 10), (0, 11), (0, 12), (0, 13)] [] 9)
  refine mj_aload_n hJ dX2_init_21 rfl ?_
  refine mj_bipush hJ dX2_init_22 (by decide) ?_
  refine mj_bipush hJ dX2_init_24 (by decide) ?_
  refine kn_mna hJ 6 13 16 dX2_init_26 cl_X2_15 (by decide) (by decide) (by decide) (by decide +kernel) (by decide) (by decide) (by decide +kernel) (by decide +kernel) (by decide) (by decide) (by decide +kernel) (by decide) ?_
  refine mj_putFR (k := 1) (j := 2) (r := 9) hJ dX2_init_30 fw_X2_20 (fun C T N h => by cases h; rfl) rfl (by decide) rfl ?_
  rw [nf_upR (V := []) (U' := [(1, 4), (1, 7), (0, 0), (0, 1), (0, 3), (0, 4), (0, 5), (0, 6), (0, 7), (0, 8), (0, 10), (0, 11), (0, 12), (0, 13)]) (by decide) (by decide +kernel) (by decide)]
  show J _ _ _ (nf [(1, 4), (1, 7), (0, 0), (0, 1), (0, 3), (0, 4), (0, 5), (0, 6), (0, 7), (0, 8), (0, 10), (0, 11), (0, 12), (0, 13)] [] 16)
  refine mj_aload_n hJ dX2_init_33 rfl ?_
  refine mj_iconst hJ dX2_init_34 (by decide) ?_
  refine mj_putI (k := 1) (j := 3) hJ dX2_init_35 fw_X2_23 rfl (by decide) rfl ?_
  rw [show ((3 : Nat) : Int) = 3 from rfl, nf_up0 (by decide)]
  show J _ _ _ (nf [(1, 4), (1, 7), (0, 0), (0, 1), (0, 3), (0, 4), (0, 5), (0, 6), (0, 7), (0, 8), (0, 10), (0, 11), (0, 12), (0, 13)] [] 16)
  refine mj_aload_n hJ dX2_init_38 rfl ?_
  refine mj_bipush hJ dX2_init_39 (by decide) ?_
  refine kn_newa hJ 6 16 dX2_init_41 (by decide) (by decide) (by decide) rfl (by decide) (by decide +kernel) (by decide) (by decide +kernel) ?_
  refine mj_putFR (k := 1) (j := 4) (r := 16) hJ dX2_init_43 fw_X2_26 (fun C T N h => by cases h; rfl) rfl (by decide) rfl ?_
  rw [nf_upR (V := []) (U' := [(1, 7), (0, 0), (0, 1), (0, 3), (0, 4), (0, 5), (0, 6), (0, 7), (0, 8), (0, 10), (0, 11), (0, 12), (0, 13)]) (by decide) (by decide +kernel) (by decide)]
  show J _ _ _ (nf [(1, 7), (0, 0), (0, 1), (0, 3), (0, 4), (0, 5), (0, 6), (0, 7), (0, 8), (0, 10), (0, 11), (0, 12), (0, 13)] [] 17)
  refine mj_aload_n hJ dX2_init_46 rfl ?_
  refine mj_iconst hJ dX2_init_47 (by decide) ?_
  refine mj_putI (k := 1) (j := 5) hJ dX2_init_48 fw_X2_30 rfl (by decide) rfl ?_
  rw [show ((5 : Nat) : Int) = 5 from rfl, nf_up1]
  show J _ _ _ (nf [(1, 7), (0, 0), (0, 1), (0, 3), (0, 4), (0, 5), (0, 6), (0, 7), (0, 8), (0, 10), (0, 11), (0, 12), (0, 13)] [(1, 5)] 17)
  refine mj_aload_n hJ dX2_init_51 rfl ?_
  refine mj_iconst hJ dX2_init_52 (by decide) ?_
  refine mj_putI (k := 1) (j := 6) hJ dX2_init_53 fw_X2_33 rfl (by decide) rfl ?_
  rw [show ((6 : Nat) : Int) = 6 from rfl, nf_up0 (by decide)]
  show J _ _ _ (nf [(1, 7), (0, 0), (0, 1), (0, 3), (0, 4), (0, 5), (0, 6), (0, 7), (0, 8), (0, 10), (0, 11), (0, 12), (0, 13)] [(1, 5)] 17)
  refine mj_aload_n hJ dX2_init_56 rfl ?_
  refine kn_new hJ (ci := 5) (N := 6) [(17, 1), (17, 2), (17, 3), (17, 4)] dX2_init_57 rfl cl_X2_36 ins_X5 ini_X5 (by decide) rfl (by decide) (by decide +kernel) (by decide) (by decide) (by decide +kernel) ?_
  refine mj_dupr hJ dX2_init_60 ?_
  refine kn_callI hJ dX2_init_61 cw_X2_38 (by decide) (by decide) (k_X5_17 (G := G)) (by decide) (by decide) (by decide) (by decide +kernel) (by decide +kernel) ?_
  refine mj_putFR (k := 1) (j := 7) (r := 17) hJ dX2_init_64 fw_X2_39 (fun C T N h => by cases h; rfl) rfl (by decide) rfl ?_
  rw [nf_upR (V := [(1, 5)]) (U' := [(0, 0), (0, 1), (0, 3), (0, 4), (0, 5), (0, 6), (0, 7), (0, 8), (0, 10), (0, 11), (0, 12), (0, 13)]) (by decide) (by decide +kernel) (by decide)]
  show J _ _ _ (nf [(0, 0), (0, 1), (0, 3), (0, 4), (0, 5), (0, 6), (0, 7), (0, 8), (0, 10), (0, 11), (0, 12), (0, 13)] [(1, 5)] 22)
  exact hR _ _ dX2_init_67
theorem k_X5_38 {G : GE} : KI G yX5_init cX5_init 1 1 38 [(38, 1), (38, 2), (38, 3), (38, 4), (22, 7), (0, 1), (0, 3), (0, 4), (0, 5), (0, 6), (0, 7), (0, 8), (0, 10), (0, 11), (0, 12), (0, 13)] [(22, 5), (1, 5)] 39 [(22, 7), (0, 1), (0, 3), (0, 4), (0, 5), (0, 6), (0, 7), (0, 8), (0, 10), (0, 11), (0, 12), (0, 13)] [(22, 5), (1, 5)] 43 := by
  refine k_enter (own := RX5) rfl rfl (by decide +kernel) (by decide) rfl (fun J hJ hR => ?_)
  refine mj_aload_n hJ dX5_init_0 rfl ?_
  refine mj_oinit hJ dX5_init_1 oi_X5_1 oi_in oi_code (by decide) (by decide) ?_
  refine mj_aload_n hJ dX5_init_4 rfl ?_
  refine mj_iconst hJ dX5_init_5 (by decide) ?_
  refine mj_putI (k := 38) (j := 0) hJ dX5_init_6 fw_X5_7 rfl (by decide) rfl ?_
  rw [show ((0 : Nat) : Int) = 0 from rfl, nf_up0 (by decide)]
  show J _ _ _ (nf [(38, 1), (38, 2), (38, 3), (38, 4), (22, 7), (0, 1), (0, 3), (0, 4), (0, 5), (0, 6), (0, 7), (0, 8), (0, 10), (0, 11), (0, 12), (0, 13)] [(22, 5), (1, 5)] 39)
  refine mj_aload_n hJ dX5_init_9 rfl ?_
  refine mj_bipush hJ dX5_init_10 (by decide) ?_
  refine kn_newa hJ 8 16 dX5_init_12 (by decide) (by decide) (by decide) rfl (by decide) (by decide +kernel) (by decide) (by decide +kernel) ?_
  refine mj_putFR (k := 38) (j := 1) (r := 39) hJ dX5_init_14 fw_X5_13 (fun C T N h => by cases h; rfl) rfl (by decide) rfl ?_
  rw [nf_upR (V := [(22, 5), (1, 5)]) (U' := [(38, 2), (38, 3), (38, 4), (22, 7), (0, 1), (0, 3), (0, 4), (0, 5), (0, 6), (0, 7), (0, 8), (0, 10), (0, 11), (0, 12), (0, 13)]) (by decide) (by decide +kernel) (by decide)]
  show J _ _ _ (nf [(38, 2), (38, 3), (38, 4), (22, 7), (0, 1), (0, 3), (0, 4), (0, 5), (0, 6), (0, 7), (0, 8), (0, 10), (0, 11), (0, 12), (0, 13)] [(22, 5), (1, 5)] 40)
  refine mj_aload_n hJ dX5_init_17 rfl ?_
  refine mj_bipush hJ dX5_init_18 (by decide) ?_
  refine kn_newa hJ 8 16 dX5_init_20 (by decide) (by decide) (by decide) rfl (by decide) (by decide +kernel) (by decide) (by decide +kernel) ?_
  refine mj_putFR (k := 38) (j := 2) (r := 40) hJ dX5_init_22 fw_X5_17 (fun C T N h => by cases h; rfl) rfl (by decide) rfl ?_
  rw [nf_upR (V := [(22, 5), (1, 5)]) (U' := [(38, 3), (38, 4), (22, 7), (0, 1), (0, 3), (0, 4), (0, 5), (0, 6), (0, 7), (0, 8), (0, 10), (0, 11), (0, 12), (0, 13)]) (by decide) (by decide +kernel) (by decide)]
  show J _ _ _ (nf [(38, 3), (38, 4), (22, 7), (0, 1), (0, 3), (0, 4), (0, 5), (0, 6), (0, 7), (0, 8), (0, 10), (0, 11), (0, 12), (0, 13)] [(22, 5), (1, 5)] 41)
  refine mj_aload_n hJ dX5_init_25 rfl ?_
  refine mj_bipush hJ dX5_init_26 (by decide) ?_
  refine kn_newa hJ 8 16 dX5_init_28 (by decide) (by decide) (by decide) rfl (by decide) (by decide +kernel) (by decide) (by decide +kernel) ?_
  refine mj_putFR (k := 38) (j := 3) (r := 41) hJ dX5_init_30 fw_X5_20 (fun C T N h => by cases h; rfl) rfl (by decide) rfl ?_
  rw [nf_upR (V := [(22, 5), (1, 5)]) (U' := [(38, 4), (22, 7), (0, 1), (0, 3), (0, 4), (0, 5), (0, 6), (0, 7), (0, 8), (0, 10), (0, 11), (0, 12), (0, 13)]) (by decide) (by decide +kernel) (by decide)]
  show J _ _ _ (nf [(38, 4), (22, 7), (0, 1), (0, 3), (0, 4), (0, 5), (0, 6), (0, 7), (0, 8), (0, 10), (0, 11), (0, 12), (0, 13)] [(22, 5), (1, 5)] 42)
  refine mj_aload_n hJ dX5_init_33 rfl ?_
  refine mj_sipush hJ dX5_init_34 (by decide) ?_
  refine kn_newa hJ 200 16 dX5_init_37 (by decide) (by decide) (by decide) rfl (by decide) (by decide +kernel) (by decide) (by decide +kernel) ?_
  refine mj_putFR (k := 38) (j := 4) (r := 42) hJ dX5_init_39 fw_X5_23 (fun C T N h => by cases h; rfl) rfl (by decide) rfl ?_
  rw [nf_upR (V := [(22, 5), (1, 5)]) (U' := [(22, 7), (0, 1), (0, 3), (0, 4), (0, 5), (0, 6), (0, 7), (0, 8), (0, 10), (0, 11), (0, 12), (0, 13)]) (by decide) (by decide +kernel) (by decide)]
  show J _ _ _ (nf [(22, 7), (0, 1), (0, 3), (0, 4), (0, 5), (0, 6), (0, 7), (0, 8), (0, 10), (0, 11), (0, 12), (0, 13)] [(22, 5), (1, 5)] 43)
  refine mj_aload_n hJ dX5_init_42 rfl ?_
  refine mj_iconst hJ dX5_init_43 (by decide) ?_
  refine mj_putI (k := 38) (j := 5) hJ dX5_init_44 fw_X5_26 rfl (by decide) rfl ?_
  rw [show ((5 : Nat) : Int) = 5 from rfl, nf_up0 (by decide)]
  show J _ _ _ (nf [(22, 7), (0, 1), (0, 3), (0, 4), (0, 5), (0, 6), (0, 7), (0, 8), (0, 10), (0, 11), (0, 12), (0, 13)] [(22, 5), (1, 5)] 43)
  exact hR _ _ dX5_init_47
theorem k_X2_22 {G : GE} : KI G yX2_init cX2_init 1 2 22 [(22, 1), (22, 2), (22, 4), (22, 7), (0, 1), (0, 3), (0, 4), (0, 5), (0, 6), (0, 7), (0, 8), (0, 10), (0, 11), (0, 12), (0, 13)] [(1, 5)] 23 [(0, 1), (0, 3), (0, 4), (0, 5), (0, 6), (0, 7), (0, 8), (0, 10), (0, 11), (0, 12), (0, 13)] [(22, 5), (1, 5)] 43 := by
  refine k_enter (own := RX2) rfl rfl (by decide +kernel) (by decide) rfl (fun J hJ hR => ?_)
  refine mj_aload_n hJ dX2_init_0 rfl ?_
  refine mj_oinit hJ dX2_init_1 oi_X2_3 oi_in oi_code (by decide) (by decide) ?_
  refine mj_aload_n hJ dX2_init_4 rfl ?_
  refine mj_iconst hJ dX2_init_5 (by decide) ?_
  refine mj_putI (k := 22) (j := 0) hJ dX2_init_6 fw_X2_9 rfl (by decide) rfl ?_
  rw [show ((0 : Nat) : Int) = 0 from rfl, nf_up0 (by decide)]
  show J _ _ _ (nf [(22, 1), (22, 2), (22, 4), (22, 7), (0, 1), (0, 3), (0, 4), (0, 5), (0, 6), (0, 7), (0, 8), (0, 10), (0, 11), (0, 12), (0, 13)] [(1, 5)] 23)
  refine mj_aload_n hJ dX2_init_9 rfl ?_
  refine mj_bipush hJ dX2_init_10 (by decide) ?_
  refine mj_bipush hJ dX2_init_12 (by decide) ?_
  refine kn_mna hJ 6 6 30 dX2_init_14 cl_X2_15 (by decide) (by decide) (by decide) (by decide +kernel) (by decide) (by decide) (by decide +kernel) (by decide +kernel) (by decide) (by decide) (by decide +kernel) (by decide) ?_
  refine mj_putFR (k := 22) (j := 1) (r := 23) hJ dX2_init_18 fw_X2_17 (fun C T N h => by cases h; rfl) rfl (by decide) rfl ?_
  rw [nf_upR (V := [(1, 5)]) (U' := [(22, 2), (22, 4), (22, 7), (0, 1), (0, 3), (0, 4), (0, 5), (0, 6), (0, 7), (0, 8), (0, 10), (0, 11), (0, 12), (0, 13)]) (by decide) (by decide +kernel) (by decide)]
  show J _ _ _ (nf [(22, 2), (22, 4), (22, 7), (0, 1), (0, 3), (0, 4), (0, 5), (0, 6), (0, 7), (0, 8), (0, 10), (0, 11), (0, 12), (0, 13)] [(1, 5)] 30)
  refine mj_aload_n hJ dX2_init_21 rfl ?_
  refine mj_bipush hJ dX2_init_22 (by decide) ?_
  refine mj_bipush hJ dX2_init_24 (by decide) ?_
  refine kn_mna hJ 6 13 37 dX2_init_26 cl_X2_15 (by decide) (by decide) (by decide) (by decide +kernel) (by decide) (by decide) (by decide +kernel) (by decide +kernel) (by decide) (by decide) (by decide +kernel) (by decide) ?_
  refine mj_putFR (k := 22) (j := 2) (r := 30) hJ dX2_init_30 fw_X2_20 (fun C T N h => by cases h; rfl) rfl (by decide) rfl ?_
  rw [nf_upR (V := [(1, 5)]) (U' := [(22, 4), (22, 7), (0, 1), (0, 3), (0, 4), (0, 5), (0, 6), (0, 7), (0, 8), (0, 10), (0, 11), (0, 12), (0, 13)]) (by decide) (by decide +kernel) (by decide)]
  show J _ _ _ (nf [(22, 4), (22, 7), (0, 1), (0, 3), (0, 4), (0, 5), (0, 6), (0, 7), (0, 8), (0, 10), (0, 11), (0, 12), (0, 13)] [(1, 5)] 37)
  refine mj_aload_n hJ dX2_init_33 rfl ?_
  refine mj_iconst hJ dX2_init_34 (by decide) ?_
  refine mj_putI (k := 22) (j := 3) hJ dX2_init_35 fw_X2_23 rfl (by decide) rfl ?_
  rw [show ((3 : Nat) : Int) = 3 from rfl, nf_up0 (by decide)]
  show J _ _ _ (nf [(22, 4), (22, 7), (0, 1), (0, 3), (0, 4), (0, 5), (0, 6), (0, 7), (0, 8), (0, 10), (0, 11), (0, 12), (0, 13)] [(1, 5)] 37)
  refine mj_aload_n hJ dX2_init_38 rfl ?_
  refine mj_bipush hJ dX2_init_39 (by decide) ?_
  refine kn_newa hJ 6 16 dX2_init_41 (by decide) (by decide) (by decide) rfl (by decide) (by decide +kernel) (by decide) (by decide +kernel) ?_
  refine mj_putFR (k := 22) (j := 4) (r := 37) hJ dX2_init_43 fw_X2_26 (fun C T N h => by cases h; rfl) rfl (by decide) rfl ?_
  rw [nf_upR (V := [(1, 5)]) (U' := [(22, 7), (0, 1), (0, 3), (0, 4), (0, 5), (0, 6), (0, 7), (0, 8), (0, 10), (0, 11), (0, 12), (0, 13)]) (by decide) (by decide +kernel) (by decide)]
  show J _ _ _ (nf [(22, 7), (0, 1), (0, 3), (0, 4), (0, 5), (0, 6), (0, 7), (0, 8), (0, 10), (0, 11), (0, 12), (0, 13)] [(1, 5)] 38)
  refine mj_aload_n hJ dX2_init_46 rfl ?_
  refine mj_iconst hJ dX2_init_47 (by decide) ?_
  refine mj_putI (k := 22) (j := 5) hJ dX2_init_48 fw_X2_30 rfl (by decide) rfl ?_
  rw [show ((5 : Nat) : Int) = 5 from rfl, nf_up1]
  show J _ _ _ (nf [(22, 7), (0, 1), (0, 3), (0, 4), (0, 5), (0, 6), (0, 7), (0, 8), (0, 10), (0, 11), (0, 12), (0, 13)] [(22, 5), (1, 5)] 38)
  refine mj_aload_n hJ dX2_init_51 rfl ?_
  refine mj_iconst hJ dX2_init_52 (by decide) ?_
  refine mj_putI (k := 22) (j := 6) hJ dX2_init_53 fw_X2_33 rfl (by decide) rfl ?_
  rw [show ((6 : Nat) : Int) = 6 from rfl, nf_up0 (by decide)]
  show J _ _ _ (nf [(22, 7), (0, 1), (0, 3), (0, 4), (0, 5), (0, 6), (0, 7), (0, 8), (0, 10), (0, 11), (0, 12), (0, 13)] [(22, 5), (1, 5)] 38)
  refine mj_aload_n hJ dX2_init_56 rfl ?_
  refine kn_new hJ (ci := 5) (N := 6) [(38, 1), (38, 2), (38, 3), (38, 4)] dX2_init_57 rfl cl_X2_36 ins_X5 ini_X5 (by decide) rfl (by decide) (by decide +kernel) (by decide) (by decide) (by decide +kernel) ?_
  refine mj_dupr hJ dX2_init_60 ?_
  refine kn_callI hJ dX2_init_61 cw_X2_38 (by decide) (by decide) (k_X5_38 (G := G)) (by decide) (by decide) (by decide) (by decide +kernel) (by decide +kernel) ?_
  refine mj_putFR (k := 22) (j := 7) (r := 38) hJ dX2_init_64 fw_X2_39 (fun C T N h => by cases h; rfl) rfl (by decide) rfl ?_
  rw [nf_upR (V := [(22, 5), (1, 5)]) (U' := [(0, 1), (0, 3), (0, 4), (0, 5), (0, 6), (0, 7), (0, 8), (0, 10), (0, 11), (0, 12), (0, 13)]) (by decide) (by decide +kernel) (by decide)]
  show J _ _ _ (nf [(0, 1), (0, 3), (0, 4), (0, 5), (0, 6), (0, 7), (0, 8), (0, 10), (0, 11), (0, 12), (0, 13)] [(22, 5), (1, 5)] 43)
  exact hR _ _ dX2_init_67
theorem k_X7_43 {G : GE} : KI G yX7_init cX7_init 1 1 43 [(43, 0), (43, 1), (43, 2), (43, 3), (43, 4), (43, 5), (43, 6), (0, 3), (0, 4), (0, 5), (0, 6), (0, 7), (0, 8), (0, 10), (0, 11), (0, 12), (0, 13)] [(22, 5), (1, 5)] 44 [(0, 3), (0, 4), (0, 5), (0, 6), (0, 7), (0, 8), (0, 10), (0, 11), (0, 12), (0, 13)] [(22, 5), (1, 5)] 58 := by
  refine k_enter (own := RX7) rfl rfl (by decide +kernel) (by decide) rfl (fun J hJ hR => ?_)
  refine mj_aload_n hJ dX7_init_0 rfl ?_
  refine mj_oinit hJ dX7_init_1 oi_X7_3 oi_in oi_code (by decide) (by decide) ?_
  refine mj_aload_n hJ dX7_init_4 rfl ?_
  refine mj_bipush hJ dX7_init_5 (by decide) ?_
  refine kn_newa hJ 6 16 dX7_init_7 (by decide) (by decide) (by decide) rfl (by decide) (by decide +kernel) (by decide) (by decide +kernel) ?_
  refine mj_putFR (k := 43) (j := 0) (r := 44) hJ dX7_init_9 fw_X7_9 (fun C T N h => by cases h; rfl) rfl (by decide) rfl ?_
  rw [nf_upR (V := [(22, 5), (1, 5)]) (U' := [(43, 1), (43, 2), (43, 3), (43, 4), (43, 5), (43, 6), (0, 3), (0, 4), (0, 5), (0, 6), (0, 7), (0, 8), (0, 10), (0, 11), (0, 12), (0, 13)]) (by decide) (by decide +kernel) (by decide)]
  show J _ _ _ (nf [(43, 1), (43, 2), (43, 3), (43, 4), (43, 5), (43, 6), (0, 3), (0, 4), (0, 5), (0, 6), (0, 7), (0, 8), (0, 10), (0, 11), (0, 12), (0, 13)] [(22, 5), (1, 5)] 45)
  refine mj_aload_n hJ dX7_init_12 rfl ?_
  refine mj_bipush hJ dX7_init_13 (by decide) ?_
  refine kn_newa hJ 6 16 dX7_init_15 (by decide) (by decide) (by decide) rfl (by decide) (by decide +kernel) (by decide) (by decide +kernel) ?_
  refine mj_putFR (k := 43) (j := 1) (r := 45) hJ dX7_init_17 fw_X7_15 (fun C T N h => by cases h; rfl) rfl (by decide) rfl ?_
  rw [nf_upR (V := [(22, 5), (1, 5)]) (U' := [(43, 2), (43, 3), (43, 4), (43, 5), (43, 6), (0, 3), (0, 4), (0, 5), (0, 6), (0, 7), (0, 8), (0, 10), (0, 11), (0, 12), (0, 13)]) (by decide) (by decide +kernel) (by decide)]
  show J _ _ _ (nf [(43, 2), (43, 3), (43, 4), (43, 5), (43, 6), (0, 3), (0, 4), (0, 5), (0, 6), (0, 7), (0, 8), (0, 10), (0, 11), (0, 12), (0, 13)] [(22, 5), (1, 5)] 46)
  refine mj_aload_n hJ dX7_init_20 rfl ?_
  refine mj_bipush hJ dX7_init_21 (by decide) ?_
  refine kn_newa hJ 6 16 dX7_init_23 (by decide) (by decide) (by decide) rfl (by decide) (by decide +kernel) (by decide) (by decide +kernel) ?_
  refine mj_putFR (k := 43) (j := 2) (r := 46) hJ dX7_init_25 fw_X7_18 (fun C T N h => by cases h; rfl) rfl (by decide) rfl ?_
  rw [nf_upR (V := [(22, 5), (1, 5)]) (U' := [(43, 3), (43, 4), (43, 5), (43, 6), (0, 3), (0, 4), (0, 5), (0, 6), (0, 7), (0, 8), (0, 10), (0, 11), (0, 12), (0, 13)]) (by decide) (by decide +kernel) (by decide)]
  show J _ _ _ (nf [(43, 3), (43, 4), (43, 5), (43, 6), (0, 3), (0, 4), (0, 5), (0, 6), (0, 7), (0, 8), (0, 10), (0, 11), (0, 12), (0, 13)] [(22, 5), (1, 5)] 47)
  refine mj_aload_n hJ dX7_init_28 rfl ?_
  refine mj_bipush hJ dX7_init_29 (by decide) ?_
  refine kn_newa hJ 6 16 dX7_init_31 (by decide) (by decide) (by decide) rfl (by decide) (by decide +kernel) (by decide) (by decide +kernel) ?_
  refine mj_putFR (k := 43) (j := 3) (r := 47) hJ dX7_init_33 fw_X7_21 (fun C T N h => by cases h; rfl) rfl (by decide) rfl ?_
  rw [nf_upR (V := [(22, 5), (1, 5)]) (U' := [(43, 4), (43, 5), (43, 6), (0, 3), (0, 4), (0, 5), (0, 6), (0, 7), (0, 8), (0, 10), (0, 11), (0, 12), (0, 13)]) (by decide) (by decide +kernel) (by decide)]
  show J _ _ _ (nf [(43, 4), (43, 5), (43, 6), (0, 3), (0, 4), (0, 5), (0, 6), (0, 7), (0, 8), (0, 10), (0, 11), (0, 12), (0, 13)] [(22, 5), (1, 5)] 48)
  refine mj_aload_n hJ dX7_init_36 rfl ?_
  refine mj_bipush hJ dX7_init_37 (by decide) ?_
  refine kn_newa hJ 6 16 dX7_init_39 (by decide) (by decide) (by decide) rfl (by decide) (by decide +kernel) (by decide) (by decide +kernel) ?_
  refine mj_putFR (k := 43) (j := 4) (r := 48) hJ dX7_init_41 fw_X7_24 (fun C T N h => by cases h; rfl) rfl (by decide) rfl ?_
  rw [nf_upR (V := [(22, 5), (1, 5)]) (U' := [(43, 5), (43, 6), (0, 3), (0, 4), (0, 5), (0, 6), (0, 7), (0, 8), (0, 10), (0, 11), (0, 12), (0, 13)]) (by decide) (by decide +kernel) (by decide)]
  show J _ _ _ (nf [(43, 5), (43, 6), (0, 3), (0, 4), (0, 5), (0, 6), (0, 7), (0, 8), (0, 10), (0, 11), (0, 12), (0, 13)] [(22, 5), (1, 5)] 49)
  refine mj_aload_n hJ dX7_init_44 rfl ?_
  refine mj_bipush hJ dX7_init_45 (by decide) ?_
  refine kn_newa hJ 6 16 dX7_init_47 (by decide) (by decide) (by decide) rfl (by decide) (by decide +kernel) (by decide) (by decide +kernel) ?_
  refine mj_putFR (k := 43) (j := 5) (r := 49) hJ dX7_init_49 fw_X7_27 (fun C T N h => by cases h; rfl) rfl (by decide) rfl ?_
  rw [nf_upR (V := [(22, 5), (1, 5)]) (U' := [(43, 6), (0, 3), (0, 4), (0, 5), (0, 6), (0, 7), (0, 8), (0, 10), (0, 11), (0, 12), (0, 13)]) (by decide) (by decide +kernel) (by decide)]
  show J _ _ _ (nf [(43, 6), (0, 3), (0, 4), (0, 5), (0, 6), (0, 7), (0, 8), (0, 10), (0, 11), (0, 12), (0, 13)] [(22, 5), (1, 5)] 50)
  refine mj_aload_n hJ dX7_init_52 rfl ?_
  refine mj_bipush hJ dX7_init_53 (by decide) ?_
  refine mj_sipush hJ dX7_init_55 (by decide) ?_
  refine kn_mna hJ 7 149 58 dX7_init_58 cl_X7_30 (by decide) (by decide) (by decide) (by decide +kernel) (by decide) (by decide) (by decide +kernel) (by decide +kernel) (by decide) (by decide) (by decide +kernel) (by decide) ?_
  refine mj_putFR (k := 43) (j := 6) (r := 50) hJ dX7_init_62 fw_X7_32 (fun C T N h => by cases h; rfl) rfl (by decide) rfl ?_
  rw [nf_upR (V := [(22, 5), (1, 5)]) (U' := [(0, 3), (0, 4), (0, 5), (0, 6), (0, 7), (0, 8), (0, 10), (0, 11), (0, 12), (0, 13)]) (by decide) (by decide +kernel) (by decide)]
  show J _ _ _ (nf [(0, 3), (0, 4), (0, 5), (0, 6), (0, 7), (0, 8), (0, 10), (0, 11), (0, 12), (0, 13)] [(22, 5), (1, 5)] 58)
  exact hR _ _ dX7_init_65
theorem k_X4_58 {G : GE} : KI G yX4_init cX4_init 1 1 58 [(58, 0), (58, 1), (58, 2), (58, 3), (58, 4), (0, 4), (0, 5), (0, 6), (0, 7), (0, 8), (0, 10), (0, 11), (0, 12), (0, 13)] [(22, 5), (1, 5)] 59 [(0, 4), (0, 5), (0, 6), (0, 7), (0, 8), (0, 10), (0, 11), (0, 12), (0, 13)] [(22, 5), (1, 5)] 70 := by
  refine k_enter (own := RX4) rfl rfl (by decide +kernel) (by decide) rfl (fun J hJ hR => ?_)
  refine mj_aload_n hJ dX4_init_0 rfl ?_
  refine mj_oinit hJ dX4_init_1 oi_X4_3 oi_in oi_code (by decide) (by decide) ?_
  refine mj_aload_n hJ dX4_init_4 rfl ?_
  refine mj_bipush hJ dX4_init_5 (by decide) ?_
  refine kn_newa hJ 6 16 dX4_init_7 (by decide) (by decide) (by decide) rfl (by decide) (by decide +kernel) (by decide) (by decide +kernel) ?_
  refine mj_putFR (k := 58) (j := 0) (r := 59) hJ dX4_init_9 fw_X4_9 (fun C T N h => by cases h; rfl) rfl (by decide) rfl ?_
  rw [nf_upR (V := [(22, 5), (1, 5)]) (U' := [(58, 1), (58, 2), (58, 3), (58, 4), (0, 4), (0, 5), (0, 6), (0, 7), (0, 8), (0, 10), (0, 11), (0, 12), (0, 13)]) (by decide) (by decide +kernel) (by decide)]
  show J _ _ _ (nf [(58, 1), (58, 2), (58, 3), (58, 4), (0, 4), (0, 5), (0, 6), (0, 7), (0, 8), (0, 10), (0, 11), (0, 12), (0, 13)] [(22, 5), (1, 5)] 60)
  refine mj_aload_n hJ dX4_init_12 rfl ?_
  refine mj_bipush hJ dX4_init_13 (by decide) ?_
  refine mj_iconst hJ dX4_init_15 (by decide) ?_
  refine kn_mna hJ 6 5 67 dX4_init_16 cl_X4_15 (by decide) (by decide) (by decide) (by decide +kernel) (by decide) (by decide) (by decide +kernel) (by decide +kernel) (by decide) (by decide) (by decide +kernel) (by decide) ?_
  refine mj_putFR (k := 58) (j := 1) (r := 60) hJ dX4_init_20 fw_X4_17 (fun C T N h => by cases h; rfl) rfl (by decide) rfl ?_
  rw [nf_upR (V := [(22, 5), (1, 5)]) (U' := [(58, 2), (58, 3), (58, 4), (0, 4), (0, 5), (0, 6), (0, 7), (0, 8), (0, 10), (0, 11), (0, 12), (0, 13)]) (by decide) (by decide +kernel) (by decide)]
  show J _ _ _ (nf [(58, 2), (58, 3), (58, 4), (0, 4), (0, 5), (0, 6), (0, 7), (0, 8), (0, 10), (0, 11), (0, 12), (0, 13)] [(22, 5), (1, 5)] 67)
  refine mj_aload_n hJ dX4_init_23 rfl ?_
  refine mj_iconst hJ dX4_init_24 (by decide) ?_
  refine kn_newa hJ 5 16 dX4_init_25 (by decide) (by decide) (by decide) rfl (by decide) (by decide +kernel) (by decide) (by decide +kernel) ?_
  refine mj_putR (k := 58) (j := 2) (r := 67) hJ dX4_init_27 fw_X4_20 rfl (by decide) rfl ?_
  rw [nf_upR (V := [(22, 5), (1, 5)]) (U' := [(58, 3), (58, 4), (0, 4), (0, 5), (0, 6), (0, 7), (0, 8), (0, 10), (0, 11), (0, 12), (0, 13)]) (by decide) (by decide +kernel) (by decide)]
  show J _ _ _ (nf [(58, 3), (58, 4), (0, 4), (0, 5), (0, 6), (0, 7), (0, 8), (0, 10), (0, 11), (0, 12), (0, 13)] [(22, 5), (1, 5)] 68)
  refine mj_aload_n hJ dX4_init_30 rfl ?_
  refine mj_iconst hJ dX4_init_31 (by decide) ?_
  refine kn_newa hJ 5 16 dX4_init_32 (by decide) (by decide) (by decide) rfl (by decide) (by decide +kernel) (by decide) (by decide +kernel) ?_
  refine mj_putR (k := 58) (j := 3) (r := 68) hJ dX4_init_34 fw_X4_23 rfl (by decide) rfl ?_
  rw [nf_upR (V := [(22, 5), (1, 5)]) (U' := [(58, 4), (0, 4), (0, 5), (0, 6), (0, 7), (0, 8), (0, 10), (0, 11), (0, 12), (0, 13)]) (by decide) (by decide +kernel) (by decide)]
  show J _ _ _ (nf [(58, 4), (0, 4), (0, 5), (0, 6), (0, 7), (0, 8), (0, 10), (0, 11), (0, 12), (0, 13)] [(22, 5), (1, 5)] 69)
  refine mj_aload_n hJ dX4_init_37 rfl ?_
  refine mj_bipush hJ dX4_init_38 (by decide) ?_
  refine kn_newa hJ 9 16 dX4_init_40 (by decide) (by decide) (by decide) rfl (by decide) (by decide +kernel) (by decide) (by decide +kernel) ?_
  refine mj_putFR (k := 58) (j := 4) (r := 69) hJ dX4_init_42 fw_X4_26 (fun C T N h => by cases h; rfl) rfl (by decide) rfl ?_
  rw [nf_upR (V := [(22, 5), (1, 5)]) (U' := [(0, 4), (0, 5), (0, 6), (0, 7), (0, 8), (0, 10), (0, 11), (0, 12), (0, 13)]) (by decide) (by decide +kernel) (by decide)]
  show J _ _ _ (nf [(0, 4), (0, 5), (0, 6), (0, 7), (0, 8), (0, 10), (0, 11), (0, 12), (0, 13)] [(22, 5), (1, 5)] 70)
  exact hR _ _ dX4_init_45
theorem k_X1_70 {G : GE} : KI G yX1_init cX1_init 1 1 70 [(70, 0), (70, 1), (0, 5), (0, 6), (0, 7), (0, 8), (0, 10), (0, 11), (0, 12), (0, 13)] [(22, 5), (1, 5)] 71 [(0, 5), (0, 6), (0, 7), (0, 8), (0, 10), (0, 11), (0, 12), (0, 13)] [(22, 5), (1, 5)] 80 := by
  refine k_enter (own := RX1) rfl rfl (by decide +kernel) (by decide) rfl (fun J hJ hR => ?_)
  refine mj_aload_n hJ dX1_init_0 rfl ?_
  refine mj_oinit hJ dX1_init_1 oi_X1_3 oi_in oi_code (by decide) (by decide) ?_
  refine mj_aload_n hJ dX1_init_4 rfl ?_
  refine mj_bipush hJ dX1_init_5 (by decide) ?_
  refine kn_newa hJ 6 16 dX1_init_7 (by decide) (by decide) (by decide) rfl (by decide) (by decide +kernel) (by decide) (by decide +kernel) ?_
  refine mj_putFR (k := 70) (j := 0) (r := 71) hJ dX1_init_9 fw_X1_9 (fun C T N h => by cases h; rfl) rfl (by decide) rfl ?_
  rw [nf_upR (V := [(22, 5), (1, 5)]) (U' := [(70, 1), (0, 5), (0, 6), (0, 7), (0, 8), (0, 10), (0, 11), (0, 12), (0, 13)]) (by decide) (by decide +kernel) (by decide)]
  show J _ _ _ (nf [(70, 1), (0, 5), (0, 6), (0, 7), (0, 8), (0, 10), (0, 11), (0, 12), (0, 13)] [(22, 5), (1, 5)] 72)
  refine mj_aload_n hJ dX1_init_12 rfl ?_
  refine mj_bipush hJ dX1_init_13 (by decide) ?_
  refine mj_bipush hJ dX1_init_15 (by decide) ?_
  refine kn_mna hJ 7 121 80 dX1_init_17 cl_X1_15 (by decide) (by decide) (by decide) (by decide +kernel) (by decide) (by decide) (by decide +kernel) (by decide +kernel) (by decide) (by decide) (by decide +kernel) (by decide) ?_
  refine mj_putFR (k := 70) (j := 1) (r := 72) hJ dX1_init_21 fw_X1_17 (fun C T N h => by cases h; rfl) rfl (by decide) rfl ?_
  rw [nf_upR (V := [(22, 5), (1, 5)]) (U' := [(0, 5), (0, 6), (0, 7), (0, 8), (0, 10), (0, 11), (0, 12), (0, 13)]) (by decide) (by decide +kernel) (by decide)]
  show J _ _ _ (nf [(0, 5), (0, 6), (0, 7), (0, 8), (0, 10), (0, 11), (0, 12), (0, 13)] [(22, 5), (1, 5)] 80)
  exact hR _ _ dX1_init_24
theorem k_X5_81 {G : GE} : KI G yX5_init cX5_init 1 1 81 [(81, 1), (81, 2), (81, 3), (81, 4), (80, 1), (80, 2), (80, 3), (80, 4), (80, 5), (0, 6), (0, 7), (0, 8), (0, 10), (0, 11), (0, 12), (0, 13)] [(22, 5), (1, 5)] 82 [(80, 1), (80, 2), (80, 3), (80, 4), (80, 5), (0, 6), (0, 7), (0, 8), (0, 10), (0, 11), (0, 12), (0, 13)] [(22, 5), (1, 5)] 86 := by
  refine k_enter (own := RX5) rfl rfl (by decide +kernel) (by decide) rfl (fun J hJ hR => ?_)
  refine mj_aload_n hJ dX5_init_0 rfl ?_
  refine mj_oinit hJ dX5_init_1 oi_X5_1 oi_in oi_code (by decide) (by decide) ?_
  refine mj_aload_n hJ dX5_init_4 rfl ?_
  refine mj_iconst hJ dX5_init_5 (by decide) ?_
  refine mj_putI (k := 81) (j := 0) hJ dX5_init_6 fw_X5_7 rfl (by decide) rfl ?_
  rw [show ((0 : Nat) : Int) = 0 from rfl, nf_up0 (by decide)]
  show J _ _ _ (nf [(81, 1), (81, 2), (81, 3), (81, 4), (80, 1), (80, 2), (80, 3), (80, 4), (80, 5), (0, 6), (0, 7), (0, 8), (0, 10), (0, 11), (0, 12), (0, 13)] [(22, 5), (1, 5)] 82)
  refine mj_aload_n hJ dX5_init_9 rfl ?_
  refine mj_bipush hJ dX5_init_10 (by decide) ?_
  refine kn_newa hJ 8 16 dX5_init_12 (by decide) (by decide) (by decide) rfl (by decide) (by decide +kernel) (by decide) (by decide +kernel) ?_
  refine mj_putFR (k := 81) (j := 1) (r := 82) hJ dX5_init_14 fw_X5_13 (fun C T N h => by cases h; rfl) rfl (by decide) rfl ?_
  rw [nf_upR (V := [(22, 5), (1, 5)]) (U' := [(81, 2), (81, 3), (81, 4), (80, 1), (80, 2), (80, 3), (80, 4), (80, 5), (0, 6), (0, 7), (0, 8), (0, 10), (0, 11), (0, 12), (0, 13)]) (by decide) (by decide +kernel) (by decide)]
  show J _ _ _ (nf [(81, 2), (81, 3), (81, 4), (80, 1), (80, 2), (80, 3), (80, 4), (80, 5), (0, 6), (0, 7), (0, 8), (0, 10), (0, 11), (0, 12), (0, 13)] [(22, 5), (1, 5)] 83)
  refine mj_aload_n hJ dX5_init_17 rfl ?_
  refine mj_bipush hJ dX5_init_18 (by decide) ?_
  refine kn_newa hJ 8 16 dX5_init_20 (by decide) (by decide) (by decide) rfl (by decide) (by decide +kernel) (by decide) (by decide +kernel) ?_
  refine mj_putFR (k := 81) (j := 2) (r := 83) hJ dX5_init_22 fw_X5_17 (fun C T N h => by cases h; rfl) rfl (by decide) rfl ?_
  rw [nf_upR (V := [(22, 5), (1, 5)]) (U' := [(81, 3), (81, 4), (80, 1), (80, 2), (80, 3), (80, 4), (80, 5), (0, 6), (0, 7), (0, 8), (0, 10), (0, 11), (0, 12), (0, 13)]) (by decide) (by decide +kernel) (by decide)]
  show J _ _ _ (nf [(81, 3), (81, 4), (80, 1), (80, 2), (80, 3), (80, 4), (80, 5), (0, 6), (0, 7), (0, 8), (0, 10), (0, 11), (0, 12), (0, 13)] [(22, 5), (1, 5)] 84)
  refine mj_aload_n hJ dX5_init_25 rfl ?_
  refine mj_bipush hJ dX5_init_26 (by decide) ?_
  refine kn_newa hJ 8 16 dX5_init_28 (by decide) (by decide) (by decide) rfl (by decide) (by decide +kernel) (by decide) (by decide +kernel) ?_
  refine mj_putFR (k := 81) (j := 3) (r := 84) hJ dX5_init_30 fw_X5_20 (fun C T N h => by cases h; rfl) rfl (by decide) rfl ?_
  rw [nf_upR (V := [(22, 5), (1, 5)]) (U' := [(81, 4), (80, 1), (80, 2), (80, 3), (80, 4), (80, 5), (0, 6), (0, 7), (0, 8), (0, 10), (0, 11), (0, 12), (0, 13)]) (by decide) (by decide +kernel) (by decide)]
  show J _ _ _ (nf [(81, 4), (80, 1), (80, 2), (80, 3), (80, 4), (80, 5), (0, 6), (0, 7), (0, 8), (0, 10), (0, 11), (0, 12), (0, 13)] [(22, 5), (1, 5)] 85)
  refine mj_aload_n hJ dX5_init_33 rfl ?_
  refine mj_sipush hJ dX5_init_34 (by decide) ?_
  refine kn_newa hJ 200 16 dX5_init_37 (by decide) (by decide) (by decide) rfl (by decide) (by decide +kernel) (by decide) (by decide +kernel) ?_
  refine mj_putFR (k := 81) (j := 4) (r := 85) hJ dX5_init_39 fw_X5_23 (fun C T N h => by cases h; rfl) rfl (by decide) rfl ?_
  rw [nf_upR (V := [(22, 5), (1, 5)]) (U' := [(80, 1), (80, 2), (80, 3), (80, 4), (80, 5), (0, 6), (0, 7), (0, 8), (0, 10), (0, 11), (0, 12), (0, 13)]) (by decide) (by decide +kernel) (by decide)]
  show J _ _ _ (nf [(80, 1), (80, 2), (80, 3), (80, 4), (80, 5), (0, 6), (0, 7), (0, 8), (0, 10), (0, 11), (0, 12), (0, 13)] [(22, 5), (1, 5)] 86)
  refine mj_aload_n hJ dX5_init_42 rfl ?_
  refine mj_iconst hJ dX5_init_43 (by decide) ?_
  refine mj_putI (k := 81) (j := 5) hJ dX5_init_44 fw_X5_26 rfl (by decide) rfl ?_
  rw [show ((5 : Nat) : Int) = 5 from rfl, nf_up0 (by decide)]
  show J _ _ _ (nf [(80, 1), (80, 2), (80, 3), (80, 4), (80, 5), (0, 6), (0, 7), (0, 8), (0, 10), (0, 11), (0, 12), (0, 13)] [(22, 5), (1, 5)] 86)
  exact hR _ _ dX5_init_47
theorem k_X6_80 {G : GE} : KI G yX6_init cX6_init 1 2 80 [(80, 1), (80, 2), (80, 3), (80, 4), (80, 5), (0, 6), (0, 7), (0, 8), (0, 10), (0, 11), (0, 12), (0, 13)] [(22, 5), (1, 5)] 81 [(0, 6), (0, 7), (0, 8), (0, 10), (0, 11), (0, 12), (0, 13)] [(22, 5), (1, 5)] 90 := by
  refine k_enter (own := RX6) rfl rfl (by decide +kernel) (by decide) rfl (fun J hJ hR => ?_)
  refine mj_aload_n hJ dX6_init_0 rfl ?_
  refine mj_oinit hJ dX6_init_1 oi_X6_3 oi_in oi_code (by decide) (by decide) ?_
  refine mj_aload_n hJ dX6_init_4 rfl ?_
  refine mj_iconst hJ dX6_init_5 (by decide) ?_
  refine mj_putI (k := 80) (j := 0) hJ dX6_init_6 fw_X6_9 rfl (by decide) rfl ?_
  rw [show ((0 : Nat) : Int) = 0 from rfl, nf_up0 (by decide)]
  show J _ _ _ (nf [(80, 1), (80, 2), (80, 3), (80, 4), (80, 5), (0, 6), (0, 7), (0, 8), (0, 10), (0, 11), (0, 12), (0, 13)] [(22, 5), (1, 5)] 81)
  refine mj_aload_n hJ dX6_init_9 rfl ?_
  refine kn_new hJ (ci := 5) (N := 6) [(81, 1), (81, 2), (81, 3), (81, 4)] dX6_init_10 rfl cl_X6_15 ins_X5 ini_X5 (by decide) rfl (by decide) (by decide +kernel) (by decide) (by decide) (by decide +kernel) ?_
  refine mj_dupr hJ dX6_init_13 ?_
  refine kn_callI hJ dX6_init_14 cw_X6_17 (by decide) (by decide) (k_X5_81 (G := G)) (by decide) (by decide) (by decide) (by decide +kernel) (by decide +kernel) ?_
  refine mj_putFR (k := 80) (j := 1) (r := 81) hJ dX6_init_17 fw_X6_18 (fun C T N h => by cases h; rfl) rfl (by decide) rfl ?_
  rw [nf_upR (V := [(22, 5), (1, 5)]) (U' := [(80, 2), (80, 3), (80, 4), (80, 5), (0, 6), (0, 7), (0, 8), (0, 10), (0, 11), (0, 12), (0, 13)]) (by decide) (by decide +kernel) (by decide)]
  show J _ _ _ (nf [(80, 2), (80, 3), (80, 4), (80, 5), (0, 6), (0, 7), (0, 8), (0, 10), (0, 11), (0, 12), (0, 13)] [(22, 5), (1, 5)] 86)
  refine mj_aload_n hJ dX6_init_20 rfl ?_
  refine mj_sipush hJ dX6_init_21 (by decide) ?_
  refine kn_newa hJ 200 16 dX6_init_24 (by decide) (by decide) (by decide) rfl (by decide) (by decide +kernel) (by decide) (by decide +kernel) ?_
  refine mj_putFR (k := 80) (j := 2) (r := 86) hJ dX6_init_26 fw_X6_22 (fun C T N h => by cases h; rfl) rfl (by decide) rfl ?_
  rw [nf_upR (V := [(22, 5), (1, 5)]) (U' := [(80, 3), (80, 4), (80, 5), (0, 6), (0, 7), (0, 8), (0, 10), (0, 11), (0, 12), (0, 13)]) (by decide) (by decide +kernel) (by decide)]
  show J _ _ _ (nf [(80, 3), (80, 4), (80, 5), (0, 6), (0, 7), (0, 8), (0, 10), (0, 11), (0, 12), (0, 13)] [(22, 5), (1, 5)] 87)
  refine mj_aload_n hJ dX6_init_29 rfl ?_
  refine mj_sipush hJ dX6_init_30 (by decide) ?_
  refine kn_newa hJ 201 16 dX6_init_33 (by decide) (by decide) (by decide) rfl (by decide) (by decide +kernel) (by decide) (by decide +kernel) ?_
  refine mj_putFR (k := 80) (j := 3) (r := 87) hJ dX6_init_35 fw_X6_26 (fun C T N h => by cases h; rfl) rfl (by decide) rfl ?_
  rw [nf_upR (V := [(22, 5), (1, 5)]) (U' := [(80, 4), (80, 5), (0, 6), (0, 7), (0, 8), (0, 10), (0, 11), (0, 12), (0, 13)]) (by decide) (by decide +kernel) (by decide)]
  show J _ _ _ (nf [(80, 4), (80, 5), (0, 6), (0, 7), (0, 8), (0, 10), (0, 11), (0, 12), (0, 13)] [(22, 5), (1, 5)] 88)
  refine mj_aload_n hJ dX6_init_38 rfl ?_
  refine mj_sipush hJ dX6_init_39 (by decide) ?_
  refine kn_newa hJ 201 16 dX6_init_42 (by decide) (by decide) (by decide) rfl (by decide) (by decide +kernel) (by decide) (by decide +kernel) ?_
  refine mj_putFR (k := 80) (j := 4) (r := 88) hJ dX6_init_44 fw_X6_29 (fun C T N h => by cases h; rfl) rfl (by decide) rfl ?_
  rw [nf_upR (V := [(22, 5), (1, 5)]) (U' := [(80, 5), (0, 6), (0, 7), (0, 8), (0, 10), (0, 11), (0, 12), (0, 13)]) (by decide) (by decide +kernel) (by decide)]
  show J _ _ _ (nf [(80, 5), (0, 6), (0, 7), (0, 8), (0, 10), (0, 11), (0, 12), (0, 13)] [(22, 5), (1, 5)] 89)
  refine mj_aload_n hJ dX6_init_47 rfl ?_
  refine mj_sipush hJ dX6_init_48 (by decide) ?_
  refine kn_newa hJ 201 16 dX6_init_51 (by decide) (by decide) (by decide) rfl (by decide) (by decide +kernel) (by decide) (by decide +kernel) ?_
  refine mj_putFR (k := 80) (j := 5) (r := 89) hJ dX6_init_53 fw_X6_32 (fun C T N h => by cases h; rfl) rfl (by decide) rfl ?_
  rw [nf_upR (V := [(22, 5), (1, 5)]) (U' := [(0, 6), (0, 7), (0, 8), (0, 10), (0, 11), (0, 12), (0, 13)]) (by decide) (by decide +kernel) (by decide)]
  show J _ _ _ (nf [(0, 6), (0, 7), (0, 8), (0, 10), (0, 11), (0, 12), (0, 13)] [(22, 5), (1, 5)] 90)
  refine mj_aload_n hJ dX6_init_56 rfl ?_
  refine mj_iconst hJ dX6_init_57 (by decide) ?_
  refine mj_putI (k := 80) (j := 6) hJ dX6_init_58 fw_X6_35 rfl (by decide) rfl ?_
  rw [show ((6 : Nat) : Int) = 6 from rfl, nf_up0 (by decide)]
  show J _ _ _ (nf [(0, 6), (0, 7), (0, 8), (0, 10), (0, 11), (0, 12), (0, 13)] [(22, 5), (1, 5)] 90)
  exact hR _ _ dX6_init_61
theorem k_X0_101 {G : GE} : KI G yX0_init cX0_init 1 1 101 [(101, 0), (98, 0), (98, 1), (98, 2), (98, 3), (0, 13)] [(22, 5), (1, 5)] 102 [(98, 0), (98, 1), (98, 2), (98, 3), (0, 13)] [(22, 5), (1, 5)] 103 := by
  refine k_enter (own := RX0) rfl rfl (by decide +kernel) (by decide) rfl (fun J hJ hR => ?_)
  refine mj_aload_n hJ dX0_init_0 rfl ?_
  refine mj_oinit hJ dX0_init_1 oi_X0_3 oi_in oi_code (by decide) (by decide) ?_
  refine mj_aload_n hJ dX0_init_4 rfl ?_
  refine mj_bipush hJ dX0_init_5 (by decide) ?_
  refine kn_newa hJ 30 16 dX0_init_7 (by decide) (by decide) (by decide) rfl (by decide) (by decide +kernel) (by decide) (by decide +kernel) ?_
  refine mj_putFR (k := 101) (j := 0) (r := 102) hJ dX0_init_9 fw_X0_11 (fun C T N h => by cases h; rfl) rfl (by decide) rfl ?_
  rw [nf_upR (V := [(22, 5), (1, 5)]) (U' := [(98, 0), (98, 1), (98, 2), (98, 3), (0, 13)]) (by decide) (by decide +kernel) (by decide)]
  show J _ _ _ (nf [(98, 0), (98, 1), (98, 2), (98, 3), (0, 13)] [(22, 5), (1, 5)] 103)
  refine mj_aload_n hJ dX0_init_12 rfl ?_
  refine mj_iconst hJ dX0_init_13 (by decide) ?_
  refine mj_putI (k := 101) (j := 1) hJ dX0_init_14 fw_X0_15 rfl (by decide) rfl ?_
  rw [show ((1 : Nat) : Int) = 1 from rfl, nf_up0 (by decide)]
  show J _ _ _ (nf [(98, 0), (98, 1), (98, 2), (98, 3), (0, 13)] [(22, 5), (1, 5)] 103)
  refine mj_aload_n hJ dX0_init_17 rfl ?_
  refine mj_iconst hJ dX0_init_18 (by decide) ?_
  refine mj_putI (k := 101) (j := 2) hJ dX0_init_19 fw_X0_19 rfl (by decide) rfl ?_
  rw [show ((2 : Nat) : Int) = 2 from rfl, nf_up0 (by decide)]
  show J _ _ _ (nf [(98, 0), (98, 1), (98, 2), (98, 3), (0, 13)] [(22, 5), (1, 5)] 103)
  refine mj_aload_n hJ dX0_init_22 rfl ?_
  refine mj_iconst hJ dX0_init_23 (by decide) ?_
  refine mj_putI (k := 101) (j := 3) hJ dX0_init_24 fw_X0_22 rfl (by decide) rfl ?_
  rw [show ((3 : Nat) : Int) = 3 from rfl, nf_up0 (by decide)]
  show J _ _ _ (nf [(98, 0), (98, 1), (98, 2), (98, 3), (0, 13)] [(22, 5), (1, 5)] 103)
  refine mj_aload_n hJ dX0_init_27 rfl ?_
  refine mj_iconst hJ dX0_init_28 (by decide) ?_
  refine mj_putI (k := 101) (j := 4) hJ dX0_init_29 fw_X0_25 rfl (by decide) rfl ?_
  rw [show ((4 : Nat) : Int) = 4 from rfl, nf_up0 (by decide)]
  show J _ _ _ (nf [(98, 0), (98, 1), (98, 2), (98, 3), (0, 13)] [(22, 5), (1, 5)] 103)
  refine mj_aload_n hJ dX0_init_32 rfl ?_
  refine mj_iconst hJ dX0_init_33 (by decide) ?_
  refine mj_putZ (k := 101) (j := 5) hJ dX0_init_34 fw_X0_28 rfl (by decide) rfl (Or.inl rfl) ?_
  rw [show ((5 : Nat) : Int) = 5 from rfl, nf_up0 (by decide)]
  show J _ _ _ (nf [(98, 0), (98, 1), (98, 2), (98, 3), (0, 13)] [(22, 5), (1, 5)] 103)
  exact hR _ _ dX0_init_37
theorem k_X3_103 {G : GE} : KI G yX3_init cX3_init 1 1 103 [(103, 2), (98, 0), (98, 1), (98, 2), (98, 3)] [(22, 5), (1, 5)] 104 [(98, 0), (98, 1), (98, 2), (98, 3)] [(103, 0), (22, 5), (1, 5)] 105 := by
  refine k_enter (own := RX3) rfl rfl (by decide +kernel) (by decide) rfl (fun J hJ hR => ?_)
  refine mj_aload_n hJ dX3_init_0 rfl ?_
  refine mj_oinit hJ dX3_init_1 oi_X3_3 oi_in oi_code (by decide) (by decide) ?_
  refine mj_aload_n hJ dX3_init_4 rfl ?_
  refine mj_iconst hJ dX3_init_5 (by decide) ?_
  refine mj_putI (k := 103) (j := 0) hJ dX3_init_6 fw_X3_9 rfl (by decide) rfl ?_
  rw [show ((0 : Nat) : Int) = 0 from rfl, nf_up1]
  show J _ _ _ (nf [(103, 2), (98, 0), (98, 1), (98, 2), (98, 3)] [(103, 0), (22, 5), (1, 5)] 104)
  refine mj_aload_n hJ dX3_init_9 rfl ?_
  refine mj_iconst hJ dX3_init_10 (by decide) ?_
  refine mj_putI (k := 103) (j := 1) hJ dX3_init_11 fw_X3_15 rfl (by decide) rfl ?_
  rw [show ((1 : Nat) : Int) = 1 from rfl, nf_up0 (by decide)]
  show J _ _ _ (nf [(103, 2), (98, 0), (98, 1), (98, 2), (98, 3)] [(103, 0), (22, 5), (1, 5)] 104)
  refine mj_aload_n hJ dX3_init_14 rfl ?_
  refine mj_bipush hJ dX3_init_15 (by decide) ?_
  refine kn_newa hJ 40 16 dX3_init_17 (by decide) (by decide) (by decide) rfl (by decide) (by decide +kernel) (by decide) (by decide +kernel) ?_
  refine mj_putFR (k := 103) (j := 2) (r := 104) hJ dX3_init_19 fw_X3_18 (fun C T N h => by cases h; rfl) rfl (by decide) rfl ?_
  rw [nf_upR (V := [(103, 0), (22, 5), (1, 5)]) (U' := [(98, 0), (98, 1), (98, 2), (98, 3)]) (by decide) (by decide +kernel) (by decide)]
  show J _ _ _ (nf [(98, 0), (98, 1), (98, 2), (98, 3)] [(103, 0), (22, 5), (1, 5)] 105)
  exact hR _ _ dX3_init_22
theorem k_X3_105 {G : GE} : KI G yX3_init cX3_init 1 1 105 [(105, 2), (98, 1), (98, 2), (98, 3)] [(103, 0), (22, 5), (1, 5)] 106 [(98, 1), (98, 2), (98, 3)] [(105, 0), (103, 0), (22, 5), (1, 5)] 107 := by
  refine k_enter (own := RX3) rfl rfl (by decide +kernel) (by decide) rfl (fun J hJ hR => ?_)
  refine mj_aload_n hJ dX3_init_0 rfl ?_
  refine mj_oinit hJ dX3_init_1 oi_X3_3 oi_in oi_code (by decide) (by decide) ?_
  refine mj_aload_n hJ dX3_init_4 rfl ?_
  refine mj_iconst hJ dX3_init_5 (by decide) ?_
  refine mj_putI (k := 105) (j := 0) hJ dX3_init_6 fw_X3_9 rfl (by decide) rfl ?_
  rw [show ((0 : Nat) : Int) = 0 from rfl, nf_up1]
  show J _ _ _ (nf [(105, 2), (98, 1), (98, 2), (98, 3)] [(105, 0), (103, 0), (22, 5), (1, 5)] 106)
  refine mj_aload_n hJ dX3_init_9 rfl ?_
  refine mj_iconst hJ dX3_init_10 (by decide) ?_
  refine mj_putI (k := 105) (j := 1) hJ dX3_init_11 fw_X3_15 rfl (by decide) rfl ?_
  rw [show ((1 : Nat) : Int) = 1 from rfl, nf_up0 (by decide)]
  show J _ _ _ (nf [(105, 2), (98, 1), (98, 2), (98, 3)] [(105, 0), (103, 0), (22, 5), (1, 5)] 106)
  refine mj_aload_n hJ dX3_init_14 rfl ?_
  refine mj_bipush hJ dX3_init_15 (by decide) ?_
  refine kn_newa hJ 40 16 dX3_init_17 (by decide) (by decide) (by decide) rfl (by decide) (by decide +kernel) (by decide) (by decide +kernel) ?_
  refine mj_putFR (k := 105) (j := 2) (r := 106) hJ dX3_init_19 fw_X3_18 (fun C T N h => by cases h; rfl) rfl (by decide) rfl ?_
  rw [nf_upR (V := [(105, 0), (103, 0), (22, 5), (1, 5)]) (U' := [(98, 1), (98, 2), (98, 3)]) (by decide) (by decide +kernel) (by decide)]
  show J _ _ _ (nf [(98, 1), (98, 2), (98, 3)] [(105, 0), (103, 0), (22, 5), (1, 5)] 107)
  exact hR _ _ dX3_init_22
theorem k_X3_107 {G : GE} : KI G yX3_init cX3_init 1 1 107 [(107, 2), (98, 2), (98, 3)] [(105, 0), (103, 0), (22, 5), (1, 5)] 108 [(98, 2), (98, 3)] [(107, 0), (105, 0), (103, 0), (22, 5), (1, 5)] 109 := by
  refine k_enter (own := RX3) rfl rfl (by decide +kernel) (by decide) rfl (fun J hJ hR => ?_)
  refine mj_aload_n hJ dX3_init_0 rfl ?_
  refine mj_oinit hJ dX3_init_1 oi_X3_3 oi_in oi_code (by decide) (by decide) ?_
  refine mj_aload_n hJ dX3_init_4 rfl ?_
  refine mj_iconst hJ dX3_init_5 (by decide) ?_
  refine mj_putI (k := 107) (j := 0) hJ dX3_init_6 fw_X3_9 rfl (by decide) rfl ?_
  rw [show ((0 : Nat) : Int) = 0 from rfl, nf_up1]
  show J _ _ _ (nf [(107, 2), (98, 2), (98, 3)] [(107, 0), (105, 0), (103, 0), (22, 5), (1, 5)] 108)
  refine mj_aload_n hJ dX3_init_9 rfl ?_
  refine mj_iconst hJ dX3_init_10 (by decide) ?_
  refine mj_putI (k := 107) (j := 1) hJ dX3_init_11 fw_X3_15 rfl (by decide) rfl ?_
  rw [show ((1 : Nat) : Int) = 1 from rfl, nf_up0 (by decide)]
  show J _ _ _ (nf [(107, 2), (98, 2), (98, 3)] [(107, 0), (105, 0), (103, 0), (22, 5), (1, 5)] 108)
  refine mj_aload_n hJ dX3_init_14 rfl ?_
  refine mj_bipush hJ dX3_init_15 (by decide) ?_
  refine kn_newa hJ 40 16 dX3_init_17 (by decide) (by decide) (by decide) rfl (by decide) (by decide +kernel) (by decide) (by decide +kernel) ?_
  refine mj_putFR (k := 107) (j := 2) (r := 108) hJ dX3_init_19 fw_X3_18 (fun C T N h => by cases h; rfl) rfl (by decide) rfl ?_
  rw [nf_upR (V := [(107, 0), (105, 0), (103, 0), (22, 5), (1, 5)]) (U' := [(98, 2), (98, 3)]) (by decide) (by decide +kernel) (by decide)]
  show J _ _ _ (nf [(98, 2), (98, 3)] [(107, 0), (105, 0), (103, 0), (22, 5), (1, 5)] 109)
  exact hR _ _ dX3_init_22
theorem k_X3_109 {G : GE} : KI G yX3_init cX3_init 1 1 109 [(109, 2), (98, 3)] [(107, 0), (105, 0), (103, 0), (22, 5), (1, 5)] 110 [(98, 3)] [(109, 0), (107, 0), (105, 0), (103, 0), (22, 5), (1, 5)] 111 := by
  refine k_enter (own := RX3) rfl rfl (by decide +kernel) (by decide) rfl (fun J hJ hR => ?_)
  refine mj_aload_n hJ dX3_init_0 rfl ?_
  refine mj_oinit hJ dX3_init_1 oi_X3_3 oi_in oi_code (by decide) (by decide) ?_
  refine mj_aload_n hJ dX3_init_4 rfl ?_
  refine mj_iconst hJ dX3_init_5 (by decide) ?_
  refine mj_putI (k := 109) (j := 0) hJ dX3_init_6 fw_X3_9 rfl (by decide) rfl ?_
  rw [show ((0 : Nat) : Int) = 0 from rfl, nf_up1]
  show J _ _ _ (nf [(109, 2), (98, 3)] [(109, 0), (107, 0), (105, 0), (103, 0), (22, 5), (1, 5)] 110)
  refine mj_aload_n hJ dX3_init_9 rfl ?_
  refine mj_iconst hJ dX3_init_10 (by decide) ?_
  refine mj_putI (k := 109) (j := 1) hJ dX3_init_11 fw_X3_15 rfl (by decide) rfl ?_
  rw [show ((1 : Nat) : Int) = 1 from rfl, nf_up0 (by decide)]
  show J _ _ _ (nf [(109, 2), (98, 3)] [(109, 0), (107, 0), (105, 0), (103, 0), (22, 5), (1, 5)] 110)
  refine mj_aload_n hJ dX3_init_14 rfl ?_
  refine mj_bipush hJ dX3_init_15 (by decide) ?_
  refine kn_newa hJ 40 16 dX3_init_17 (by decide) (by decide) (by decide) rfl (by decide) (by decide +kernel) (by decide) (by decide +kernel) ?_
  refine mj_putFR (k := 109) (j := 2) (r := 110) hJ dX3_init_19 fw_X3_18 (fun C T N h => by cases h; rfl) rfl (by decide) rfl ?_
  rw [nf_upR (V := [(109, 0), (107, 0), (105, 0), (103, 0), (22, 5), (1, 5)]) (U' := [(98, 3)]) (by decide) (by decide +kernel) (by decide)]
  show J _ _ _ (nf [(98, 3)] [(109, 0), (107, 0), (105, 0), (103, 0), (22, 5), (1, 5)] 111)
  exact hR _ _ dX3_init_22
theorem k_J7_fill_53178_99 {G : GE} : KF G yJ7_fill_53178 cJ7_fill_53178 4 0 99 [] [(109, 0), (107, 0), (105, 0), (103, 0), (22, 5), (1, 5)] 111 [] [(99, 3), (99, 2), (99, 1), (99, 0), (109, 0), (107, 0), (105, 0), (103, 0), (22, 5), (1, 5)] 111 := by
  refine k_enterF (own := RJ7) rfl (by decide +kernel) (by decide) rfl (fun J hJ hR => ?_)
  refine mj_iconst hJ dJ7_fill_53178_0 (by decide) ?_
  refine ms_istore_n (ls' := [_, _, _, _]) hJ dJ7_fill_53178_1 (by decide) rfl rfl ?_
  refine mj_aload_n hJ dJ7_fill_53178_2 rfl ?_
  refine mj_alen (k := 99) (n := 4) hJ dJ7_fill_53178_3 rfl (by decide) ?_
  rw [show ((4 : Nat) : Int) = 4 from rfl]
  refine ms_istore_n (ls' := [_, _, _, _]) hJ dJ7_fill_53178_4 (by decide) rfl rfl ?_
  refine mj_iload_n hJ dJ7_fill_53178_5 rfl ?_
  refine mj_iload_n hJ dJ7_fill_53178_6 rfl ?_
  refine mj_icmp_ge (tgt := 20) hJ dJ7_fill_53178_7 (by decide) (fun hyes => absurd hyes (by decide)) (fun _ => ?_)
  refine mj_aload_n hJ dJ7_fill_53178_10 rfl ?_
  refine mj_iload_n hJ dJ7_fill_53178_11 rfl ?_
  refine mj_iload_n hJ dJ7_fill_53178_12 rfl ?_
  refine mj_iast (k := 99) (i := 0) hJ dJ7_fill_53178_13 rfl (by decide) (by decide) ?_
  rw [nf_up1]
  show J _ _ _ (nf [] [(99, 0), (109, 0), (107, 0), (105, 0), (103, 0), (22, 5), (1, 5)] 111)
  refine ms_iinc (z' := 1) (ls' := [_, _, _, _]) hJ dJ7_fill_53178_14 rfl (by decide) rfl (by decide) rfl ?_
  refine mj_goto (tgt := 5) hJ dJ7_fill_53178_17 (by decide) ?_
  refine mj_iload_n hJ dJ7_fill_53178_5 rfl ?_
  refine mj_iload_n hJ dJ7_fill_53178_6 rfl ?_
  refine mj_icmp_ge (tgt := 20) hJ dJ7_fill_53178_7 (by decide) (fun hyes => absurd hyes (by decide)) (fun _ => ?_)
  refine mj_aload_n hJ dJ7_fill_53178_10 rfl ?_
  refine mj_iload_n hJ dJ7_fill_53178_11 rfl ?_
  refine mj_iload_n hJ dJ7_fill_53178_12 rfl ?_
  refine mj_iast (k := 99) (i := 1) hJ dJ7_fill_53178_13 rfl (by decide) (by decide) ?_
  rw [nf_up1]
  show J _ _ _ (nf [] [(99, 1), (99, 0), (109, 0), (107, 0), (105, 0), (103, 0), (22, 5), (1, 5)] 111)
  refine ms_iinc (z' := 2) (ls' := [_, _, _, _]) hJ dJ7_fill_53178_14 rfl (by decide) rfl (by decide) rfl ?_
  refine mj_goto (tgt := 5) hJ dJ7_fill_53178_17 (by decide) ?_
  refine mj_iload_n hJ dJ7_fill_53178_5 rfl ?_
  refine mj_iload_n hJ dJ7_fill_53178_6 rfl ?_
  refine mj_icmp_ge (tgt := 20) hJ dJ7_fill_53178_7 (by decide) (fun hyes => absurd hyes (by decide)) (fun _ => ?_)
  refine mj_aload_n hJ dJ7_fill_53178_10 rfl ?_
  refine mj_iload_n hJ dJ7_fill_53178_11 rfl ?_
  refine mj_iload_n hJ dJ7_fill_53178_12 rfl ?_
  refine mj_iast (k := 99) (i := 2) hJ dJ7_fill_53178_13 rfl (by decide) (by decide) ?_
  rw [nf_up1]
  show J _ _ _ (nf [] [(99, 2), (99, 1), (99, 0), (109, 0), (107, 0), (105, 0), (103, 0), (22, 5), (1, 5)] 111)
  refine ms_iinc (z' := 3) (ls' := [_, _, _, _]) hJ dJ7_fill_53178_14 rfl (by decide) rfl (by decide) rfl ?_
  refine mj_goto (tgt := 5) hJ dJ7_fill_53178_17 (by decide) ?_
  refine mj_iload_n hJ dJ7_fill_53178_5 rfl ?_
  refine mj_iload_n hJ dJ7_fill_53178_6 rfl ?_
  refine mj_icmp_ge (tgt := 20) hJ dJ7_fill_53178_7 (by decide) (fun hyes => absurd hyes (by decide)) (fun _ => ?_)
  refine mj_aload_n hJ dJ7_fill_53178_10 rfl ?_
  refine mj_iload_n hJ dJ7_fill_53178_11 rfl ?_
  refine mj_iload_n hJ dJ7_fill_53178_12 rfl ?_
  refine mj_iast (k := 99) (i := 3) hJ dJ7_fill_53178_13 rfl (by decide) (by decide) ?_
  rw [nf_up1]
  show J _ _ _ (nf [] [(99, 3), (99, 2), (99, 1), (99, 0), (109, 0), (107, 0), (105, 0), (103, 0), (22, 5), (1, 5)] 111)
  refine ms_iinc (z' := 4) (ls' := [_, _, _, _]) hJ dJ7_fill_53178_14 rfl (by decide) rfl (by decide) rfl ?_
  refine mj_goto (tgt := 5) hJ dJ7_fill_53178_17 (by decide) ?_
  refine mj_iload_n hJ dJ7_fill_53178_5 rfl ?_
  refine mj_iload_n hJ dJ7_fill_53178_6 rfl ?_
  refine mj_icmp_ge (tgt := 20) hJ dJ7_fill_53178_7 (by decide) (fun _ => ?_) (fun hno => absurd (by decide) hno)
  exact hR _ _ dJ7_fill_53178_20
theorem k_X8_0 {G : GE} : KI G yX8_init cX8_init 2 3 0 [(0, 0), (0, 1), (0, 3), (0, 4), (0, 5), (0, 6), (0, 7), (0, 8), (0, 10), (0, 11), (0, 12), (0, 13)] [] 1 [] [(99, 3), (99, 2), (99, 1), (99, 0), (109, 0), (107, 0), (105, 0), (103, 0), (22, 5), (1, 5)] 111 := by
  refine k_enter (own := RX8) rfl rfl (by decide +kernel) (by decide) rfl (fun J hJ hR => ?_)
  refine mj_aload_n hJ dX8_init_0 rfl ?_
  refine mj_oinit hJ dX8_init_1 oi_X8_3 oi_in oi_code (by decide) (by decide) ?_
  refine mj_aload_n hJ dX8_init_4 rfl ?_
  refine kn_new hJ (ci := 2) (N := 8) [(1, 1), (1, 2), (1, 4), (1, 7)] dX8_init_5 rfl cl_X8_9 ins_X2 ini_X2 (by decide) rfl (by decide) (by decide +kernel) (by decide) (by decide) (by decide +kernel) ?_
  refine mj_dupr hJ dX8_init_8 ?_
  refine kn_callI hJ dX8_init_9 cw_X8_11 (by decide) (by decide) (k_X2_1 (G := G)) (by decide) (by decide) (by decide) (by decide +kernel) (by decide +kernel) ?_
  refine mj_putFR (k := 0) (j := 0) (r := 1) hJ dX8_init_12 fw_X8_12 (fun C T N h => by cases h; rfl) rfl (by decide) rfl ?_
  rw [nf_upR (V := [(1, 5)]) (U' := [(0, 1), (0, 3), (0, 4), (0, 5), (0, 6), (0, 7), (0, 8), (0, 10), (0, 11), (0, 12), (0, 13)]) (by decide) (by decide +kernel) (by decide)]
  show J _ _ _ (nf [(0, 1), (0, 3), (0, 4), (0, 5), (0, 6), (0, 7), (0, 8), (0, 10), (0, 11), (0, 12), (0, 13)] [(1, 5)] 22)
  refine mj_aload_n hJ dX8_init_15 rfl ?_
  refine kn_new hJ (ci := 2) (N := 8) [(22, 1), (22, 2), (22, 4), (22, 7)] dX8_init_16 rfl cl_X8_9 ins_X2 ini_X2 (by decide) rfl (by decide) (by decide +kernel) (by decide) (by decide) (by decide +kernel) ?_
  refine mj_dupr hJ dX8_init_19 ?_
  refine kn_callI hJ dX8_init_20 cw_X8_11 (by decide) (by decide) (k_X2_22 (G := G)) (by decide) (by decide) (by decide) (by decide +kernel) (by decide +kernel) ?_
  refine mj_putFR (k := 0) (j := 1) (r := 22) hJ dX8_init_23 fw_X8_16 (fun C T N h => by cases h; rfl) rfl (by decide) rfl ?_
  rw [nf_upR (V := [(22, 5), (1, 5)]) (U' := [(0, 3), (0, 4), (0, 5), (0, 6), (0, 7), (0, 8), (0, 10), (0, 11), (0, 12), (0, 13)]) (by decide) (by decide +kernel) (by decide)]
  show J _ _ _ (nf [(0, 3), (0, 4), (0, 5), (0, 6), (0, 7), (0, 8), (0, 10), (0, 11), (0, 12), (0, 13)] [(22, 5), (1, 5)] 43)
  refine mj_aload_n hJ dX8_init_26 rfl ?_
  refine mj_iconst hJ dX8_init_27 (by decide) ?_
  refine mj_putZ (k := 0) (j := 2) hJ dX8_init_28 fw_X8_19 rfl (by decide) rfl (Or.inl rfl) ?_
  rw [show ((2 : Nat) : Int) = 2 from rfl, nf_up0 (by decide)]
  show J _ _ _ (nf [(0, 3), (0, 4), (0, 5), (0, 6), (0, 7), (0, 8), (0, 10), (0, 11), (0, 12), (0, 13)] [(22, 5), (1, 5)] 43)
  refine mj_aload_n hJ dX8_init_31 rfl ?_
  refine kn_new hJ (ci := 7) (N := 7) [(43, 0), (43, 1), (43, 2), (43, 3), (43, 4), (43, 5), (43, 6)] dX8_init_32 rfl cl_X8_23 ins_X7 ini_X7 (by decide) rfl (by decide) (by decide +kernel) (by decide) (by decide) (by decide +kernel) ?_
  refine mj_dupr hJ dX8_init_35 ?_
  refine kn_callI hJ dX8_init_36 cw_X8_25 (by decide) (by decide) (k_X7_43 (G := G)) (by decide) (by decide) (by decide) (by decide +kernel) (by decide +kernel) ?_
  refine mj_putFR (k := 0) (j := 3) (r := 43) hJ dX8_init_39 fw_X8_26 (fun C T N h => by cases h; rfl) rfl (by decide) rfl ?_
  rw [nf_upR (V := [(22, 5), (1, 5)]) (U' := [(0, 4), (0, 5), (0, 6), (0, 7), (0, 8), (0, 10), (0, 11), (0, 12), (0, 13)]) (by decide) (by decide +kernel) (by decide)]
  show J _ _ _ (nf [(0, 4), (0, 5), (0, 6), (0, 7), (0, 8), (0, 10), (0, 11), (0, 12), (0, 13)] [(22, 5), (1, 5)] 58)
  refine mj_aload_n hJ dX8_init_42 rfl ?_
  refine kn_new hJ (ci := 4) (N := 5) [(58, 0), (58, 1), (58, 2), (58, 3), (58, 4)] dX8_init_43 rfl cl_X8_30 ins_X4 ini_X4 (by decide) rfl (by decide) (by decide +kernel) (by decide) (by decide) (by decide +kernel) ?_
  refine mj_dupr hJ dX8_init_46 ?_
  refine kn_callI hJ dX8_init_47 cw_X8_32 (by decide) (by decide) (k_X4_58 (G := G)) (by decide) (by decide) (by decide) (by decide +kernel) (by decide +kernel) ?_
  refine mj_putFR (k := 0) (j := 4) (r := 58) hJ dX8_init_50 fw_X8_33 (fun C T N h => by cases h; rfl) rfl (by decide) rfl ?_
  rw [nf_upR (V := [(22, 5), (1, 5)]) (U' := [(0, 5), (0, 6), (0, 7), (0, 8), (0, 10), (0, 11), (0, 12), (0, 13)]) (by decide) (by decide +kernel) (by decide)]
  show J _ _ _ (nf [(0, 5), (0, 6), (0, 7), (0, 8), (0, 10), (0, 11), (0, 12), (0, 13)] [(22, 5), (1, 5)] 70)
  refine mj_aload_n hJ dX8_init_53 rfl ?_
  refine kn_new hJ (ci := 1) (N := 2) [(70, 0), (70, 1)] dX8_init_54 rfl cl_X8_37 ins_X1 ini_X1 (by decide) rfl (by decide) (by decide +kernel) (by decide) (by decide) (by decide +kernel) ?_
  refine mj_dupr hJ dX8_init_57 ?_
  refine kn_callI hJ dX8_init_58 cw_X8_39 (by decide) (by decide) (k_X1_70 (G := G)) (by decide) (by decide) (by decide) (by decide +kernel) (by decide +kernel) ?_
  refine mj_putFR (k := 0) (j := 5) (r := 70) hJ dX8_init_61 fw_X8_40 (fun C T N h => by cases h; rfl) rfl (by decide) rfl ?_
  rw [nf_upR (V := [(22, 5), (1, 5)]) (U' := [(0, 6), (0, 7), (0, 8), (0, 10), (0, 11), (0, 12), (0, 13)]) (by decide) (by decide +kernel) (by decide)]
  show J _ _ _ (nf [(0, 6), (0, 7), (0, 8), (0, 10), (0, 11), (0, 12), (0, 13)] [(22, 5), (1, 5)] 80)
  refine mj_aload_n hJ dX8_init_64 rfl ?_
  refine kn_new hJ (ci := 6) (N := 7) [(80, 1), (80, 2), (80, 3), (80, 4), (80, 5)] dX8_init_65 rfl cl_X8_44 ins_X6 ini_X6 (by decide) rfl (by decide) (by decide +kernel) (by decide) (by decide) (by decide +kernel) ?_
  refine mj_dupr hJ dX8_init_68 ?_
  refine kn_callI hJ dX8_init_69 cw_X8_46 (by decide) (by decide) (k_X6_80 (G := G)) (by decide) (by decide) (by decide) (by decide +kernel) (by decide +kernel) ?_
  refine mj_putFR (k := 0) (j := 6) (r := 80) hJ dX8_init_72 fw_X8_47 (fun C T N h => by cases h; rfl) rfl (by decide) rfl ?_
  rw [nf_upR (V := [(22, 5), (1, 5)]) (U' := [(0, 7), (0, 8), (0, 10), (0, 11), (0, 12), (0, 13)]) (by decide) (by decide +kernel) (by decide)]
  show J _ _ _ (nf [(0, 7), (0, 8), (0, 10), (0, 11), (0, 12), (0, 13)] [(22, 5), (1, 5)] 90)
  refine mj_aload_n hJ dX8_init_75 rfl ?_
  refine mj_bipush hJ dX8_init_76 (by decide) ?_
  refine kn_newa hJ 6 16 dX8_init_78 (by decide) (by decide) (by decide) rfl (by decide) (by decide +kernel) (by decide) (by decide +kernel) ?_
  refine mj_putFR (k := 0) (j := 7) (r := 90) hJ dX8_init_80 fw_X8_51 (fun C T N h => by cases h; rfl) rfl (by decide) rfl ?_
  rw [nf_upR (V := [(22, 5), (1, 5)]) (U' := [(0, 8), (0, 10), (0, 11), (0, 12), (0, 13)]) (by decide) (by decide +kernel) (by decide)]
  show J _ _ _ (nf [(0, 8), (0, 10), (0, 11), (0, 12), (0, 13)] [(22, 5), (1, 5)] 91)
  refine mj_aload_n hJ dX8_init_83 rfl ?_
  refine mj_bipush hJ dX8_init_84 (by decide) ?_
  refine mj_iconst hJ dX8_init_86 (by decide) ?_
  refine kn_mna hJ 6 3 98 dX8_init_87 cl_X8_55 (by decide) (by decide) (by decide) (by decide +kernel) (by decide) (by decide) (by decide +kernel) (by decide +kernel) (by decide) (by decide) (by decide +kernel) (by decide) ?_
  refine mj_putFR (k := 0) (j := 8) (r := 91) hJ dX8_init_91 fw_X8_57 (fun C T N h => by cases h; rfl) rfl (by decide) rfl ?_
  rw [nf_upR (V := [(22, 5), (1, 5)]) (U' := [(0, 10), (0, 11), (0, 12), (0, 13)]) (by decide) (by decide +kernel) (by decide)]
  show J _ _ _ (nf [(0, 10), (0, 11), (0, 12), (0, 13)] [(22, 5), (1, 5)] 98)
  refine mj_aload_n hJ dX8_init_94 rfl ?_
  refine mj_iconst hJ dX8_init_95 (by decide) ?_
  refine mj_putI (k := 0) (j := 9) hJ dX8_init_96 fw_X8_60 rfl (by decide) rfl ?_
  rw [show ((9 : Nat) : Int) = 9 from rfl, nf_up0 (by decide)]
  show J _ _ _ (nf [(0, 10), (0, 11), (0, 12), (0, 13)] [(22, 5), (1, 5)] 98)
  refine mj_aload_n hJ dX8_init_99 rfl ?_
  refine mj_iconst hJ dX8_init_100 (by decide) ?_
  refine kn_newq hJ 4 [(98, 0), (98, 1), (98, 2), (98, 3)] dX8_init_101 cl_X8_64 (by decide) (by decide) rfl (by decide) (by decide +kernel) (by decide) (by decide) (by decide +kernel) ?_
  refine mj_putFR (k := 0) (j := 10) (r := 98) hJ dX8_init_104 fw_X8_66 (fun C T N h => by cases h; rfl) rfl (by decide) rfl ?_
  rw [nf_upR (V := [(22, 5), (1, 5)]) (U' := [(98, 0), (98, 1), (98, 2), (98, 3), (0, 11), (0, 12), (0, 13)]) (by decide) (by decide +kernel) (by decide)]
  show J _ _ _ (nf [(98, 0), (98, 1), (98, 2), (98, 3), (0, 11), (0, 12), (0, 13)] [(22, 5), (1, 5)] 99)
  refine mj_aload_n hJ dX8_init_107 rfl ?_
  refine mj_iconst hJ dX8_init_108 (by decide) ?_
  refine kn_newa hJ 4 16 dX8_init_109 (by decide) (by decide) (by decide) rfl (by decide) (by decide +kernel) (by decide) (by decide +kernel) ?_
  refine mj_putFR (k := 0) (j := 11) (r := 99) hJ dX8_init_111 fw_X8_70 (fun C T N h => by cases h; rfl) rfl (by decide) rfl ?_
  rw [nf_upR (V := [(22, 5), (1, 5)]) (U' := [(98, 0), (98, 1), (98, 2), (98, 3), (0, 12), (0, 13)]) (by decide) (by decide +kernel) (by decide)]
  show J _ _ _ (nf [(98, 0), (98, 1), (98, 2), (98, 3), (0, 12), (0, 13)] [(22, 5), (1, 5)] 100)
  refine mj_aload_n hJ dX8_init_114 rfl ?_
  refine mj_iconst hJ dX8_init_115 (by decide) ?_
  refine kn_newa hJ 4 16 dX8_init_116 (by decide) (by decide) (by decide) rfl (by decide) (by decide +kernel) (by decide) (by decide +kernel) ?_
  refine mj_putFR (k := 0) (j := 12) (r := 100) hJ dX8_init_118 fw_X8_73 (fun C T N h => by cases h; rfl) rfl (by decide) rfl ?_
  rw [nf_upR (V := [(22, 5), (1, 5)]) (U' := [(98, 0), (98, 1), (98, 2), (98, 3), (0, 13)]) (by decide) (by decide +kernel) (by decide)]
  show J _ _ _ (nf [(98, 0), (98, 1), (98, 2), (98, 3), (0, 13)] [(22, 5), (1, 5)] 101)
  refine mj_aload_n hJ dX8_init_121 rfl ?_
  refine kn_new hJ (ci := 0) (N := 6) [(101, 0)] dX8_init_122 rfl cl_X8_76 ins_X0 ini_X0 (by decide) rfl (by decide) (by decide +kernel) (by decide) (by decide) (by decide +kernel) ?_
  refine mj_dupr hJ dX8_init_125 ?_
  refine kn_callI hJ dX8_init_126 cw_X8_78 (by decide) (by decide) (k_X0_101 (G := G)) (by decide) (by decide) (by decide) (by decide +kernel) (by decide +kernel) ?_
  refine mj_putFR (k := 0) (j := 13) (r := 101) hJ dX8_init_129 fw_X8_79 (fun C T N h => by cases h; rfl) rfl (by decide) rfl ?_
  rw [nf_upR (V := [(22, 5), (1, 5)]) (U' := [(98, 0), (98, 1), (98, 2), (98, 3)]) (by decide) (by decide +kernel) (by decide)]
  show J _ _ _ (nf [(98, 0), (98, 1), (98, 2), (98, 3)] [(22, 5), (1, 5)] 103)
  refine mj_iconst hJ dX8_init_132 (by decide) ?_
  refine ms_istore_n (ls' := [_, _]) hJ dX8_init_133 (by decide) rfl rfl ?_
  refine mj_iload_n hJ dX8_init_134 rfl ?_
  refine mj_iconst hJ dX8_init_135 (by decide) ?_
  refine mj_icmp_ge (tgt := 158) hJ dX8_init_136 (by decide) (fun hyes => absurd hyes (by decide)) (fun _ => ?_)
  refine mj_aload_n hJ dX8_init_139 rfl ?_
  refine mj_getR (k := 0) (j := 10) (r := 98) hJ dX8_init_140 fw_X8_66 rfl (by decide) rfl (by decide +kernel) ?_
  refine mj_iload_n hJ dX8_init_143 rfl ?_
  refine kn_new hJ (ci := 3) (N := 3) [(103, 2)] dX8_init_144 rfl cl_X8_64 ins_X3 ini_X3 (by decide) rfl (by decide) (by decide +kernel) (by decide) (by decide) (by decide +kernel) ?_
  refine mj_dupr hJ dX8_init_147 ?_
  refine kn_callI hJ dX8_init_148 cw_X8_83 (by decide) (by decide) (k_X3_103 (G := G)) (by decide) (by decide) (by decide) (by decide +kernel) (by decide +kernel) ?_
  refine mj_aast (k := 98) (r := 103) (i := 0) hJ dX8_init_151 rfl (by decide) (by decide) rfl ?_
  rw [nf_upR (V := [(103, 0), (22, 5), (1, 5)]) (U' := [(98, 1), (98, 2), (98, 3)]) (by decide) (by decide +kernel) (by decide)]
  show J _ _ _ (nf [(98, 1), (98, 2), (98, 3)] [(103, 0), (22, 5), (1, 5)] 105)
  refine ms_iinc (z' := 1) (ls' := [_, _]) hJ dX8_init_152 rfl (by decide) rfl (by decide) rfl ?_
  refine mj_goto (tgt := 134) hJ dX8_init_155 (by decide) ?_
  refine mj_iload_n hJ dX8_init_134 rfl ?_
  refine mj_iconst hJ dX8_init_135 (by decide) ?_
  refine mj_icmp_ge (tgt := 158) hJ dX8_init_136 (by decide) (fun hyes => absurd hyes (by decide)) (fun _ => ?_)
  refine mj_aload_n hJ dX8_init_139 rfl ?_
  refine mj_getR (k := 0) (j := 10) (r := 98) hJ dX8_init_140 fw_X8_66 rfl (by decide) rfl (by decide +kernel) ?_
  refine mj_iload_n hJ dX8_init_143 rfl ?_
  refine kn_new hJ (ci := 3) (N := 3) [(105, 2)] dX8_init_144 rfl cl_X8_64 ins_X3 ini_X3 (by decide) rfl (by decide) (by decide +kernel) (by decide) (by decide) (by decide +kernel) ?_
  refine mj_dupr hJ dX8_init_147 ?_
  refine kn_callI hJ dX8_init_148 cw_X8_83 (by decide) (by decide) (k_X3_105 (G := G)) (by decide) (by decide) (by decide) (by decide +kernel) (by decide +kernel) ?_
  refine mj_aast (k := 98) (r := 105) (i := 1) hJ dX8_init_151 rfl (by decide) (by decide) rfl ?_
  rw [nf_upR (V := [(105, 0), (103, 0), (22, 5), (1, 5)]) (U' := [(98, 2), (98, 3)]) (by decide) (by decide +kernel) (by decide)]
  show J _ _ _ (nf [(98, 2), (98, 3)] [(105, 0), (103, 0), (22, 5), (1, 5)] 107)
  refine ms_iinc (z' := 2) (ls' := [_, _]) hJ dX8_init_152 rfl (by decide) rfl (by decide) rfl ?_
  refine mj_goto (tgt := 134) hJ dX8_init_155 (by decide) ?_
  refine mj_iload_n hJ dX8_init_134 rfl ?_
  refine mj_iconst hJ dX8_init_135 (by decide) ?_
  refine mj_icmp_ge (tgt := 158) hJ dX8_init_136 (by decide) (fun hyes => absurd hyes (by decide)) (fun _ => ?_)
  refine mj_aload_n hJ dX8_init_139 rfl ?_
  refine mj_getR (k := 0) (j := 10) (r := 98) hJ dX8_init_140 fw_X8_66 rfl (by decide) rfl (by decide +kernel) ?_
  refine mj_iload_n hJ dX8_init_143 rfl ?_
  refine kn_new hJ (ci := 3) (N := 3) [(107, 2)] dX8_init_144 rfl cl_X8_64 ins_X3 ini_X3 (by decide) rfl (by decide) (by decide +kernel) (by decide) (by decide) (by decide +kernel) ?_
  refine mj_dupr hJ dX8_init_147 ?_
  refine kn_callI hJ dX8_init_148 cw_X8_83 (by decide) (by decide) (k_X3_107 (G := G)) (by decide) (by decide) (by decide) (by decide +kernel) (by decide +kernel) ?_
  refine mj_aast (k := 98) (r := 107) (i := 2) hJ dX8_init_151 rfl (by decide) (by decide) rfl ?_
  rw [nf_upR (V := [(107, 0), (105, 0), (103, 0), (22, 5), (1, 5)]) (U' := [(98, 3)]) (by decide) (by decide +kernel) (by decide)]
  show J _ _ _ (nf [(98, 3)] [(107, 0), (105, 0), (103, 0), (22, 5), (1, 5)] 109)
  refine ms_iinc (z' := 3) (ls' := [_, _]) hJ dX8_init_152 rfl (by decide) rfl (by decide) rfl ?_
  refine mj_goto (tgt := 134) hJ dX8_init_155 (by decide) ?_
  refine mj_iload_n hJ dX8_init_134 rfl ?_
  refine mj_iconst hJ dX8_init_135 (by decide) ?_
  refine mj_icmp_ge (tgt := 158) hJ dX8_init_136 (by decide) (fun hyes => absurd hyes (by decide)) (fun _ => ?_)
  refine mj_aload_n hJ dX8_init_139 rfl ?_
  refine mj_getR (k := 0) (j := 10) (r := 98) hJ dX8_init_140 fw_X8_66 rfl (by decide) rfl (by decide +kernel) ?_
  refine mj_iload_n hJ dX8_init_143 rfl ?_
  refine kn_new hJ (ci := 3) (N := 3) [(109, 2)] dX8_init_144 rfl cl_X8_64 ins_X3 ini_X3 (by decide) rfl (by decide) (by decide +kernel) (by decide) (by decide) (by decide +kernel) ?_
  refine mj_dupr hJ dX8_init_147 ?_
  refine kn_callI hJ dX8_init_148 cw_X8_83 (by decide) (by decide) (k_X3_109 (G := G)) (by decide) (by decide) (by decide) (by decide +kernel) (by decide +kernel) ?_
  refine mj_aast (k := 98) (r := 109) (i := 3) hJ dX8_init_151 rfl (by decide) (by decide) rfl ?_
  rw [nf_upR (V := [(109, 0), (107, 0), (105, 0), (103, 0), (22, 5), (1, 5)]) (U' := []) (by decide) (by decide +kernel) (by decide)]
  show J _ _ _ (nf [] [(109, 0), (107, 0), (105, 0), (103, 0), (22, 5), (1, 5)] 111)
  refine ms_iinc (z' := 4) (ls' := [_, _]) hJ dX8_init_152 rfl (by decide) rfl (by decide) rfl ?_
  refine mj_goto (tgt := 134) hJ dX8_init_155 (by decide) ?_
  refine mj_iload_n hJ dX8_init_134 rfl ?_
  refine mj_iconst hJ dX8_init_135 (by decide) ?_
  refine mj_icmp_ge (tgt := 158) hJ dX8_init_136 (by decide) (fun _ => ?_) (fun hno => absurd (by decide) hno)
  refine mj_aload_n hJ dX8_init_158 rfl ?_
  refine mj_getR (k := 0) (j := 11) (r := 99) hJ dX8_init_159 fw_X8_70 rfl (by decide) rfl (by decide +kernel) ?_
  refine mj_iconst hJ dX8_init_162 (by decide) ?_
  refine kn_callS2 hJ dX8_init_163 cw_X8_84 (by decide) (by decide) (k_J7_fill_53178_99 (G := G)) (by decide) (by decide +kernel) ?_
  exact hR _ _ dX8_init_166
theorem k_X9_111 {G : GE} : KI G yX9_init cX9_init 1 1 111 [(111, 0), (111, 1), (111, 3), (111, 4), (111, 5), (111, 6), (111, 7), (111, 8), (111, 9), (111, 10), (111, 11), (111, 12), (111, 13), (111, 14), (111, 15), (111, 16), (111, 23), (111, 24), (111, 25), (111, 26), (111, 27), (111, 28), (111, 29), (111, 30), (111, 32), (111, 33), (111, 34), (111, 35), (111, 36), (111, 37), (111, 38)] [(99, 3), (99, 2), (99, 1), (99, 0), (109, 0), (107, 0), (105, 0), (103, 0), (22, 5), (1, 5)] 112 [] [(112, 4), (136, 3), (136, 2), (136, 1), (136, 0), (99, 3), (99, 2), (99, 1), (99, 0), (109, 0), (107, 0), (105, 0), (103, 0), (22, 5), (1, 5)] 143 := by
  refine k_enter (own := RX9) rfl rfl (by decide +kernel) (by decide) rfl (fun J hJ hR => ?_)
  refine mj_aload_n hJ dX9_init_0 rfl ?_
  refine mj_oinit hJ dX9_init_1 oi_X9_3 oi_in oi_code (by decide) (by decide) ?_
  refine mj_aload_n hJ dX9_init_4 rfl ?_
  refine mj_sipush hJ dX9_init_5 (by decide) ?_
  refine kn_newa hJ 356 16 dX9_init_8 (by decide) (by decide) (by decide) rfl (by decide) (by decide +kernel) (by decide) (by decide +kernel) ?_
  refine mj_putFR (k := 111) (j := 0) (r := 112) hJ dX9_init_10 fw_X9_9 (fun C T N h => by cases h; rfl) rfl (by decide) rfl ?_
  rw [nf_upR (V := [(99, 3), (99, 2), (99, 1), (99, 0), (109, 0), (107, 0), (105, 0), (103, 0), (22, 5), (1, 5)]) (U' := [(111, 1), (111, 3), (111, 4), (111, 5), (111, 6), (111, 7), (111, 8), (111, 9), (111, 10), (111, 11), (111, 12), (111, 13), (111, 14), (111, 15), (111, 16), (111, 23), (111, 24), (111, 25), (111, 26), (111, 27), (111, 28), (111, 29), (111, 30), (111, 32), (111, 33), (111, 34), (111, 35), (111, 36), (111, 37), (111, 38)]) (by decide) (by decide +kernel) (by decide)]
  show J _ _ _ (nf [(111, 1), (111, 3), (111, 4), (111, 5), (111, 6), (111, 7), (111, 8), (111, 9), (111, 10), (111, 11), (111, 12), (111, 13), (111, 14), (111, 15), (111, 16), (111, 23), (111, 24), (111, 25), (111, 26), (111, 27), (111, 28), (111, 29), (111, 30), (111, 32), (111, 33), (111, 34), (111, 35), (111, 36), (111, 37), (111, 38)] [(99, 3), (99, 2), (99, 1), (99, 0), (109, 0), (107, 0), (105, 0), (103, 0), (22, 5), (1, 5)] 113)
  refine mj_aload_n hJ dX9_init_13 rfl ?_
  refine mj_sipush hJ dX9_init_14 (by decide) ?_
  refine kn_newa hJ 356 16 dX9_init_17 (by decide) (by decide) (by decide) rfl (by decide) (by decide +kernel) (by decide) (by decide +kernel) ?_
  refine mj_putFR (k := 111) (j := 1) (r := 113) hJ dX9_init_19 fw_X9_13 (fun C T N h => by cases h; rfl) rfl (by decide) rfl ?_
  rw [nf_upR (V := [(99, 3), (99, 2), (99, 1), (99, 0), (109, 0), (107, 0), (105, 0), (103, 0), (22, 5), (1, 5)]) (U' := [(111, 3), (111, 4), (111, 5), (111, 6), (111, 7), (111, 8), (111, 9), (111, 10), (111, 11), (111, 12), (111, 13), (111, 14), (111, 15), (111, 16), (111, 23), (111, 24), (111, 25), (111, 26), (111, 27), (111, 28), (111, 29), (111, 30), (111, 32), (111, 33), (111, 34), (111, 35), (111, 36), (111, 37), (111, 38)]) (by decide) (by decide +kernel) (by decide)]
  show J _ _ _ (nf [(111, 3), (111, 4), (111, 5), (111, 6), (111, 7), (111, 8), (111, 9), (111, 10), (111, 11), (111, 12), (111, 13), (111, 14), (111, 15), (111, 16), (111, 23), (111, 24), (111, 25), (111, 26), (111, 27), (111, 28), (111, 29), (111, 30), (111, 32), (111, 33), (111, 34), (111, 35), (111, 36), (111, 37), (111, 38)] [(99, 3), (99, 2), (99, 1), (99, 0), (109, 0), (107, 0), (105, 0), (103, 0), (22, 5), (1, 5)] 114)
  refine mj_aload_n hJ dX9_init_22 rfl ?_
  refine mj_sipush hJ dX9_init_23 (by decide) ?_
  refine kn_newa hJ 1120 16 dX9_init_26 (by decide) (by decide) (by decide) rfl (by decide) (by decide +kernel) (by decide) (by decide +kernel) ?_
  refine mj_putFR (k := 111) (j := 3) (r := 114) hJ dX9_init_28 fw_X9_16 (fun C T N h => by cases h; rfl) rfl (by decide) rfl ?_
  rw [nf_upR (V := [(99, 3), (99, 2), (99, 1), (99, 0), (109, 0), (107, 0), (105, 0), (103, 0), (22, 5), (1, 5)]) (U' := [(111, 4), (111, 5), (111, 6), (111, 7), (111, 8), (111, 9), (111, 10), (111, 11), (111, 12), (111, 13), (111, 14), (111, 15), (111, 16), (111, 23), (111, 24), (111, 25), (111, 26), (111, 27), (111, 28), (111, 29), (111, 30), (111, 32), (111, 33), (111, 34), (111, 35), (111, 36), (111, 37), (111, 38)]) (by decide) (by decide +kernel) (by decide)]
  show J _ _ _ (nf [(111, 4), (111, 5), (111, 6), (111, 7), (111, 8), (111, 9), (111, 10), (111, 11), (111, 12), (111, 13), (111, 14), (111, 15), (111, 16), (111, 23), (111, 24), (111, 25), (111, 26), (111, 27), (111, 28), (111, 29), (111, 30), (111, 32), (111, 33), (111, 34), (111, 35), (111, 36), (111, 37), (111, 38)] [(99, 3), (99, 2), (99, 1), (99, 0), (109, 0), (107, 0), (105, 0), (103, 0), (22, 5), (1, 5)] 115)
  refine mj_aload_n hJ dX9_init_31 rfl ?_
  refine mj_sipush hJ dX9_init_32 (by decide) ?_
  refine kn_newa hJ 960 16 dX9_init_35 (by decide) (by decide) (by decide) rfl (by decide) (by decide +kernel) (by decide) (by decide +kernel) ?_
  refine mj_putFR (k := 111) (j := 4) (r := 115) hJ dX9_init_37 fw_X9_19 (fun C T N h => by cases h; rfl) rfl (by decide) rfl ?_
  rw [nf_upR (V := [(99, 3), (99, 2), (99, 1), (99, 0), (109, 0), (107, 0), (105, 0), (103, 0), (22, 5), (1, 5)]) (U' := [(111, 5), (111, 6), (111, 7), (111, 8), (111, 9), (111, 10), (111, 11), (111, 12), (111, 13), (111, 14), (111, 15), (111, 16), (111, 23), (111, 24), (111, 25), (111, 26), (111, 27), (111, 28), (111, 29), (111, 30), (111, 32), (111, 33), (111, 34), (111, 35), (111, 36), (111, 37), (111, 38)]) (by decide) (by decide +kernel) (by decide)]
  show J _ _ _ (nf [(111, 5), (111, 6), (111, 7), (111, 8), (111, 9), (111, 10), (111, 11), (111, 12), (111, 13), (111, 14), (111, 15), (111, 16), (111, 23), (111, 24), (111, 25), (111, 26), (111, 27), (111, 28), (111, 29), (111, 30), (111, 32), (111, 33), (111, 34), (111, 35), (111, 36), (111, 37), (111, 38)] [(99, 3), (99, 2), (99, 1), (99, 0), (109, 0), (107, 0), (105, 0), (103, 0), (22, 5), (1, 5)] 116)
  refine mj_aload_n hJ dX9_init_40 rfl ?_
  refine mj_bipush hJ dX9_init_41 (by decide) ?_
  refine kn_newa hJ 6 16 dX9_init_43 (by decide) (by decide) (by decide) rfl (by decide) (by decide +kernel) (by decide) (by decide +kernel) ?_
  refine mj_putFR (k := 111) (j := 5) (r := 116) hJ dX9_init_45 fw_X9_22 (fun C T N h => by cases h; rfl) rfl (by decide) rfl ?_
  rw [nf_upR (V := [(99, 3), (99, 2), (99, 1), (99, 0), (109, 0), (107, 0), (105, 0), (103, 0), (22, 5), (1, 5)]) (U' := [(111, 6), (111, 7), (111, 8), (111, 9), (111, 10), (111, 11), (111, 12), (111, 13), (111, 14), (111, 15), (111, 16), (111, 23), (111, 24), (111, 25), (111, 26), (111, 27), (111, 28), (111, 29), (111, 30), (111, 32), (111, 33), (111, 34), (111, 35), (111, 36), (111, 37), (111, 38)]) (by decide) (by decide +kernel) (by decide)]
  show J _ _ _ (nf [(111, 6), (111, 7), (111, 8), (111, 9), (111, 10), (111, 11), (111, 12), (111, 13), (111, 14), (111, 15), (111, 16), (111, 23), (111, 24), (111, 25), (111, 26), (111, 27), (111, 28), (111, 29), (111, 30), (111, 32), (111, 33), (111, 34), (111, 35), (111, 36), (111, 37), (111, 38)] [(99, 3), (99, 2), (99, 1), (99, 0), (109, 0), (107, 0), (105, 0), (103, 0), (22, 5), (1, 5)] 117)
  refine mj_aload_n hJ dX9_init_48 rfl ?_
  refine mj_bipush hJ dX9_init_49 (by decide) ?_
  refine kn_newa hJ 6 16 dX9_init_51 (by decide) (by decide) (by decide) rfl (by decide) (by decide +kernel) (by decide) (by decide +kernel) ?_
  refine mj_putFR (k := 111) (j := 6) (r := 117) hJ dX9_init_53 fw_X9_25 (fun C T N h => by cases h; rfl) rfl (by decide) rfl ?_
  rw [nf_upR (V := [(99, 3), (99, 2), (99, 1), (99, 0), (109, 0), (107, 0), (105, 0), (103, 0), (22, 5), (1, 5)]) (U' := [(111, 7), (111, 8), (111, 9), (111, 10), (111, 11), (111, 12), (111, 13), (111, 14), (111, 15), (111, 16), (111, 23), (111, 24), (111, 25), (111, 26), (111, 27), (111, 28), (111, 29), (111, 30), (111, 32), (111, 33), (111, 34), (111, 35), (111, 36), (111, 37), (111, 38)]) (by decide) (by decide +kernel) (by decide)]
  show J _ _ _ (nf [(111, 7), (111, 8), (111, 9), (111, 10), (111, 11), (111, 12), (111, 13), (111, 14), (111, 15), (111, 16), (111, 23), (111, 24), (111, 25), (111, 26), (111, 27), (111, 28), (111, 29), (111, 30), (111, 32), (111, 33), (111, 34), (111, 35), (111, 36), (111, 37), (111, 38)] [(99, 3), (99, 2), (99, 1), (99, 0), (109, 0), (107, 0), (105, 0), (103, 0), (22, 5), (1, 5)] 118)
  refine mj_aload_n hJ dX9_init_56 rfl ?_
  refine mj_bipush hJ dX9_init_57 (by decide) ?_
  refine kn_newa hJ 6 16 dX9_init_59 (by decide) (by decide) (by decide) rfl (by decide) (by decide +kernel) (by decide) (by decide +kernel) ?_
  refine mj_putFR (k := 111) (j := 7) (r := 118) hJ dX9_init_61 fw_X9_28 (fun C T N h => by cases h; rfl) rfl (by decide) rfl ?_
  rw [nf_upR (V := [(99, 3), (99, 2), (99, 1), (99, 0), (109, 0), (107, 0), (105, 0), (103, 0), (22, 5), (1, 5)]) (U' := [(111, 8), (111, 9), (111, 10), (111, 11), (111, 12), (111, 13), (111, 14), (111, 15), (111, 16), (111, 23), (111, 24), (111, 25), (111, 26), (111, 27), (111, 28), (111, 29), (111, 30), (111, 32), (111, 33), (111, 34), (111, 35), (111, 36), (111, 37), (111, 38)]) (by decide) (by decide +kernel) (by decide)]
  show J _ _ _ (nf [(111, 8), (111, 9), (111, 10), (111, 11), (111, 12), (111, 13), (111, 14), (111, 15), (111, 16), (111, 23), (111, 24), (111, 25), (111, 26), (111, 27), (111, 28), (111, 29), (111, 30), (111, 32), (111, 33), (111, 34), (111, 35), (111, 36), (111, 37), (111, 38)] [(99, 3), (99, 2), (99, 1), (99, 0), (109, 0), (107, 0), (105, 0), (103, 0), (22, 5), (1, 5)] 119)
  refine mj_aload_n hJ dX9_init_64 rfl ?_
  refine mj_bipush hJ dX9_init_65 (by decide) ?_
  refine kn_newa hJ 6 16 dX9_init_67 (by decide) (by decide) (by decide) rfl (by decide) (by decide +kernel) (by decide) (by decide +kernel) ?_
  refine mj_putFR (k := 111) (j := 8) (r := 119) hJ dX9_init_69 fw_X9_31 (fun C T N h => by cases h; rfl) rfl (by decide) rfl ?_
  rw [nf_upR (V := [(99, 3), (99, 2), (99, 1), (99, 0), (109, 0), (107, 0), (105, 0), (103, 0), (22, 5), (1, 5)]) (U' := [(111, 9), (111, 10), (111, 11), (111, 12), (111, 13), (111, 14), (111, 15), (111, 16), (111, 23), (111, 24), (111, 25), (111, 26), (111, 27), (111, 28), (111, 29), (111, 30), (111, 32), (111, 33), (111, 34), (111, 35), (111, 36), (111, 37), (111, 38)]) (by decide) (by decide +kernel) (by decide)]
  show J _ _ _ (nf [(111, 9), (111, 10), (111, 11), (111, 12), (111, 13), (111, 14), (111, 15), (111, 16), (111, 23), (111, 24), (111, 25), (111, 26), (111, 27), (111, 28), (111, 29), (111, 30), (111, 32), (111, 33), (111, 34), (111, 35), (111, 36), (111, 37), (111, 38)] [(99, 3), (99, 2), (99, 1), (99, 0), (109, 0), (107, 0), (105, 0), (103, 0), (22, 5), (1, 5)] 120)
  refine mj_aload_n hJ dX9_init_72 rfl ?_
  refine mj_bipush hJ dX9_init_73 (by decide) ?_
  refine kn_newa hJ 6 16 dX9_init_75 (by decide) (by decide) (by decide) rfl (by decide) (by decide +kernel) (by decide) (by decide +kernel) ?_
  refine mj_putFR (k := 111) (j := 9) (r := 120) hJ dX9_init_77 fw_X9_34 (fun C T N h => by cases h; rfl) rfl (by decide) rfl ?_
  rw [nf_upR (V := [(99, 3), (99, 2), (99, 1), (99, 0), (109, 0), (107, 0), (105, 0), (103, 0), (22, 5), (1, 5)]) (U' := [(111, 10), (111, 11), (111, 12), (111, 13), (111, 14), (111, 15), (111, 16), (111, 23), (111, 24), (111, 25), (111, 26), (111, 27), (111, 28), (111, 29), (111, 30), (111, 32), (111, 33), (111, 34), (111, 35), (111, 36), (111, 37), (111, 38)]) (by decide) (by decide +kernel) (by decide)]
  show J _ _ _ (nf [(111, 10), (111, 11), (111, 12), (111, 13), (111, 14), (111, 15), (111, 16), (111, 23), (111, 24), (111, 25), (111, 26), (111, 27), (111, 28), (111, 29), (111, 30), (111, 32), (111, 33), (111, 34), (111, 35), (111, 36), (111, 37), (111, 38)] [(99, 3), (99, 2), (99, 1), (99, 0), (109, 0), (107, 0), (105, 0), (103, 0), (22, 5), (1, 5)] 121)
  refine mj_aload_n hJ dX9_init_80 rfl ?_
  refine mj_sipush hJ dX9_init_81 (by decide) ?_
  refine kn_newa hJ 910 16 dX9_init_84 (by decide) (by decide) (by decide) rfl (by decide) (by decide +kernel) (by decide) (by decide +kernel) ?_
  refine mj_putFR (k := 111) (j := 10) (r := 121) hJ dX9_init_86 fw_X9_37 (fun C T N h => by cases h; rfl) rfl (by decide) rfl ?_
  rw [nf_upR (V := [(99, 3), (99, 2), (99, 1), (99, 0), (109, 0), (107, 0), (105, 0), (103, 0), (22, 5), (1, 5)]) (U' := [(111, 11), (111, 12), (111, 13), (111, 14), (111, 15), (111, 16), (111, 23), (111, 24), (111, 25), (111, 26), (111, 27), (111, 28), (111, 29), (111, 30), (111, 32), (111, 33), (111, 34), (111, 35), (111, 36), (111, 37), (111, 38)]) (by decide) (by decide +kernel) (by decide)]
  show J _ _ _ (nf [(111, 11), (111, 12), (111, 13), (111, 14), (111, 15), (111, 16), (111, 23), (111, 24), (111, 25), (111, 26), (111, 27), (111, 28), (111, 29), (111, 30), (111, 32), (111, 33), (111, 34), (111, 35), (111, 36), (111, 37), (111, 38)] [(99, 3), (99, 2), (99, 1), (99, 0), (109, 0), (107, 0), (105, 0), (103, 0), (22, 5), (1, 5)] 122)
  refine mj_aload_n hJ dX9_init_89 rfl ?_
  refine mj_sipush hJ dX9_init_90 (by decide) ?_
  refine kn_newa hJ 780 16 dX9_init_93 (by decide) (by decide) (by decide) rfl (by decide) (by decide +kernel) (by decide) (by decide +kernel) ?_
  refine mj_putFR (k := 111) (j := 11) (r := 122) hJ dX9_init_95 fw_X9_40 (fun C T N h => by cases h; rfl) rfl (by decide) rfl ?_
  rw [nf_upR (V := [(99, 3), (99, 2), (99, 1), (99, 0), (109, 0), (107, 0), (105, 0), (103, 0), (22, 5), (1, 5)]) (U' := [(111, 12), (111, 13), (111, 14), (111, 15), (111, 16), (111, 23), (111, 24), (111, 25), (111, 26), (111, 27), (111, 28), (111, 29), (111, 30), (111, 32), (111, 33), (111, 34), (111, 35), (111, 36), (111, 37), (111, 38)]) (by decide) (by decide +kernel) (by decide)]
  show J _ _ _ (nf [(111, 12), (111, 13), (111, 14), (111, 15), (111, 16), (111, 23), (111, 24), (111, 25), (111, 26), (111, 27), (111, 28), (111, 29), (111, 30), (111, 32), (111, 33), (111, 34), (111, 35), (111, 36), (111, 37), (111, 38)] [(99, 3), (99, 2), (99, 1), (99, 0), (109, 0), (107, 0), (105, 0), (103, 0), (22, 5), (1, 5)] 123)
  refine mj_aload_n hJ dX9_init_98 rfl ?_
  refine mj_bipush hJ dX9_init_99 (by decide) ?_
  refine kn_newa hJ 35 16 dX9_init_101 (by decide) (by decide) (by decide) rfl (by decide) (by decide +kernel) (by decide) (by decide +kernel) ?_
  refine mj_putFR (k := 111) (j := 12) (r := 123) hJ dX9_init_103 fw_X9_43 (fun C T N h => by cases h; rfl) rfl (by decide) rfl ?_
  rw [nf_upR (V := [(99, 3), (99, 2), (99, 1), (99, 0), (109, 0), (107, 0), (105, 0), (103, 0), (22, 5), (1, 5)]) (U' := [(111, 13), (111, 14), (111, 15), (111, 16), (111, 23), (111, 24), (111, 25), (111, 26), (111, 27), (111, 28), (111, 29), (111, 30), (111, 32), (111, 33), (111, 34), (111, 35), (111, 36), (111, 37), (111, 38)]) (by decide) (by decide +kernel) (by decide)]
  show J _ _ _ (nf [(111, 13), (111, 14), (111, 15), (111, 16), (111, 23), (111, 24), (111, 25), (111, 26), (111, 27), (111, 28), (111, 29), (111, 30), (111, 32), (111, 33), (111, 34), (111, 35), (111, 36), (111, 37), (111, 38)] [(99, 3), (99, 2), (99, 1), (99, 0), (109, 0), (107, 0), (105, 0), (103, 0), (22, 5), (1, 5)] 124)
  refine mj_aload_n hJ dX9_init_106 rfl ?_
  refine mj_bipush hJ dX9_init_107 (by decide) ?_
  refine kn_newa hJ 30 16 dX9_init_109 (by decide) (by decide) (by decide) rfl (by decide) (by decide +kernel) (by decide) (by decide +kernel) ?_
  refine mj_putFR (k := 111) (j := 13) (r := 124) hJ dX9_init_111 fw_X9_46 (fun C T N h => by cases h; rfl) rfl (by decide) rfl ?_
  rw [nf_upR (V := [(99, 3), (99, 2), (99, 1), (99, 0), (109, 0), (107, 0), (105, 0), (103, 0), (22, 5), (1, 5)]) (U' := [(111, 14), (111, 15), (111, 16), (111, 23), (111, 24), (111, 25), (111, 26), (111, 27), (111, 28), (111, 29), (111, 30), (111, 32), (111, 33), (111, 34), (111, 35), (111, 36), (111, 37), (111, 38)]) (by decide) (by decide +kernel) (by decide)]
  show J _ _ _ (nf [(111, 14), (111, 15), (111, 16), (111, 23), (111, 24), (111, 25), (111, 26), (111, 27), (111, 28), (111, 29), (111, 30), (111, 32), (111, 33), (111, 34), (111, 35), (111, 36), (111, 37), (111, 38)] [(99, 3), (99, 2), (99, 1), (99, 0), (109, 0), (107, 0), (105, 0), (103, 0), (22, 5), (1, 5)] 125)
  refine mj_aload_n hJ dX9_init_114 rfl ?_
  refine mj_bipush hJ dX9_init_115 (by decide) ?_
  refine kn_newa hJ 9 16 dX9_init_117 (by decide) (by decide) (by decide) rfl (by decide) (by decide +kernel) (by decide) (by decide +kernel) ?_
  refine mj_putFR (k := 111) (j := 14) (r := 125) hJ dX9_init_119 fw_X9_49 (fun C T N h => by cases h; rfl) rfl (by decide) rfl ?_
  rw [nf_upR (V := [(99, 3), (99, 2), (99, 1), (99, 0), (109, 0), (107, 0), (105, 0), (103, 0), (22, 5), (1, 5)]) (U' := [(111, 15), (111, 16), (111, 23), (111, 24), (111, 25), (111, 26), (111, 27), (111, 28), (111, 29), (111, 30), (111, 32), (111, 33), (111, 34), (111, 35), (111, 36), (111, 37), (111, 38)]) (by decide) (by decide +kernel) (by decide)]
  show J _ _ _ (nf [(111, 15), (111, 16), (111, 23), (111, 24), (111, 25), (111, 26), (111, 27), (111, 28), (111, 29), (111, 30), (111, 32), (111, 33), (111, 34), (111, 35), (111, 36), (111, 37), (111, 38)] [(99, 3), (99, 2), (99, 1), (99, 0), (109, 0), (107, 0), (105, 0), (103, 0), (22, 5), (1, 5)] 126)
  refine mj_aload_n hJ dX9_init_122 rfl ?_
  refine mj_bipush hJ dX9_init_123 (by decide) ?_
  refine kn_newa hJ 9 17 dX9_init_125 (by decide) (by decide) (by decide) rfl (by decide) (by decide +kernel) (by decide) (by decide +kernel) ?_
  refine mj_putFR (k := 111) (j := 15) (r := 126) hJ dX9_init_127 fw_X9_52 (fun C T N h => by cases h; rfl) rfl (by decide) rfl ?_
  rw [nf_upR (V := [(99, 3), (99, 2), (99, 1), (99, 0), (109, 0), (107, 0), (105, 0), (103, 0), (22, 5), (1, 5)]) (U' := [(111, 16), (111, 23), (111, 24), (111, 25), (111, 26), (111, 27), (111, 28), (111, 29), (111, 30), (111, 32), (111, 33), (111, 34), (111, 35), (111, 36), (111, 37), (111, 38)]) (by decide) (by decide +kernel) (by decide)]
  show J _ _ _ (nf [(111, 16), (111, 23), (111, 24), (111, 25), (111, 26), (111, 27), (111, 28), (111, 29), (111, 30), (111, 32), (111, 33), (111, 34), (111, 35), (111, 36), (111, 37), (111, 38)] [(99, 3), (99, 2), (99, 1), (99, 0), (109, 0), (107, 0), (105, 0), (103, 0), (22, 5), (1, 5)] 127)
  refine mj_aload_n hJ dX9_init_130 rfl ?_
  refine mj_sipush hJ dX9_init_131 (by decide) ?_
  refine kn_newa hJ 200 16 dX9_init_134 (by decide) (by decide) (by decide) rfl (by decide) (by decide +kernel) (by decide) (by decide +kernel) ?_
  refine mj_putFR (k := 111) (j := 16) (r := 127) hJ dX9_init_136 fw_X9_56 (fun C T N h => by cases h; rfl) rfl (by decide) rfl ?_
  rw [nf_upR (V := [(99, 3), (99, 2), (99, 1), (99, 0), (109, 0), (107, 0), (105, 0), (103, 0), (22, 5), (1, 5)]) (U' := [(111, 23), (111, 24), (111, 25), (111, 26), (111, 27), (111, 28), (111, 29), (111, 30), (111, 32), (111, 33), (111, 34), (111, 35), (111, 36), (111, 37), (111, 38)]) (by decide) (by decide +kernel) (by decide)]
  show J _ _ _ (nf [(111, 23), (111, 24), (111, 25), (111, 26), (111, 27), (111, 28), (111, 29), (111, 30), (111, 32), (111, 33), (111, 34), (111, 35), (111, 36), (111, 37), (111, 38)] [(99, 3), (99, 2), (99, 1), (99, 0), (109, 0), (107, 0), (105, 0), (103, 0), (22, 5), (1, 5)] 128)
  refine mj_aload_n hJ dX9_init_139 rfl ?_
  refine mj_sipush hJ dX9_init_140 (by decide) ?_
  refine kn_newa hJ 200 16 dX9_init_143 (by decide) (by decide) (by decide) rfl (by decide) (by decide +kernel) (by decide) (by decide +kernel) ?_
  refine mj_putFR (k := 111) (j := 23) (r := 128) hJ dX9_init_145 fw_X9_59 (fun C T N h => by cases h; rfl) rfl (by decide) rfl ?_
  rw [nf_upR (V := [(99, 3), (99, 2), (99, 1), (99, 0), (109, 0), (107, 0), (105, 0), (103, 0), (22, 5), (1, 5)]) (U' := [(111, 24), (111, 25), (111, 26), (111, 27), (111, 28), (111, 29), (111, 30), (111, 32), (111, 33), (111, 34), (111, 35), (111, 36), (111, 37), (111, 38)]) (by decide) (by decide +kernel) (by decide)]
  show J _ _ _ (nf [(111, 24), (111, 25), (111, 26), (111, 27), (111, 28), (111, 29), (111, 30), (111, 32), (111, 33), (111, 34), (111, 35), (111, 36), (111, 37), (111, 38)] [(99, 3), (99, 2), (99, 1), (99, 0), (109, 0), (107, 0), (105, 0), (103, 0), (22, 5), (1, 5)] 129)
  refine mj_aload_n hJ dX9_init_148 rfl ?_
  refine mj_bipush hJ dX9_init_149 (by decide) ?_
  refine kn_newa hJ 32 16 dX9_init_151 (by decide) (by decide) (by decide) rfl (by decide) (by decide +kernel) (by decide) (by decide +kernel) ?_
  refine mj_putFR (k := 111) (j := 24) (r := 129) hJ dX9_init_153 fw_X9_62 (fun C T N h => by cases h; rfl) rfl (by decide) rfl ?_
  rw [nf_upR (V := [(99, 3), (99, 2), (99, 1), (99, 0), (109, 0), (107, 0), (105, 0), (103, 0), (22, 5), (1, 5)]) (U' := [(111, 25), (111, 26), (111, 27), (111, 28), (111, 29), (111, 30), (111, 32), (111, 33), (111, 34), (111, 35), (111, 36), (111, 37), (111, 38)]) (by decide) (by decide +kernel) (by decide)]
  show J _ _ _ (nf [(111, 25), (111, 26), (111, 27), (111, 28), (111, 29), (111, 30), (111, 32), (111, 33), (111, 34), (111, 35), (111, 36), (111, 37), (111, 38)] [(99, 3), (99, 2), (99, 1), (99, 0), (109, 0), (107, 0), (105, 0), (103, 0), (22, 5), (1, 5)] 130)
  refine mj_aload_n hJ dX9_init_156 rfl ?_
  refine mj_sipush hJ dX9_init_157 (by decide) ?_
  refine kn_newa hJ 200 16 dX9_init_160 (by decide) (by decide) (by decide) rfl (by decide) (by decide +kernel) (by decide) (by decide +kernel) ?_
  refine mj_putFR (k := 111) (j := 25) (r := 130) hJ dX9_init_162 fw_X9_65 (fun C T N h => by cases h; rfl) rfl (by decide) rfl ?_
  rw [nf_upR (V := [(99, 3), (99, 2), (99, 1), (99, 0), (109, 0), (107, 0), (105, 0), (103, 0), (22, 5), (1, 5)]) (U' := [(111, 26), (111, 27), (111, 28), (111, 29), (111, 30), (111, 32), (111, 33), (111, 34), (111, 35), (111, 36), (111, 37), (111, 38)]) (by decide) (by decide +kernel) (by decide)]
  show J _ _ _ (nf [(111, 26), (111, 27), (111, 28), (111, 29), (111, 30), (111, 32), (111, 33), (111, 34), (111, 35), (111, 36), (111, 37), (111, 38)] [(99, 3), (99, 2), (99, 1), (99, 0), (109, 0), (107, 0), (105, 0), (103, 0), (22, 5), (1, 5)] 131)
  refine mj_aload_n hJ dX9_init_165 rfl ?_
  refine mj_bipush hJ dX9_init_166 (by decide) ?_
  refine kn_newa hJ 6 16 dX9_init_168 (by decide) (by decide) (by decide) rfl (by decide) (by decide +kernel) (by decide) (by decide +kernel) ?_
  refine mj_putFR (k := 111) (j := 26) (r := 131) hJ dX9_init_170 fw_X9_68 (fun C T N h => by cases h; rfl) rfl (by decide) rfl ?_
  rw [nf_upR (V := [(99, 3), (99, 2), (99, 1), (99, 0), (109, 0), (107, 0), (105, 0), (103, 0), (22, 5), (1, 5)]) (U' := [(111, 27), (111, 28), (111, 29), (111, 30), (111, 32), (111, 33), (111, 34), (111, 35), (111, 36), (111, 37), (111, 38)]) (by decide) (by decide +kernel) (by decide)]
  show J _ _ _ (nf [(111, 27), (111, 28), (111, 29), (111, 30), (111, 32), (111, 33), (111, 34), (111, 35), (111, 36), (111, 37), (111, 38)] [(99, 3), (99, 2), (99, 1), (99, 0), (109, 0), (107, 0), (105, 0), (103, 0), (22, 5), (1, 5)] 132)
  refine mj_aload_n hJ dX9_init_173 rfl ?_
  refine mj_bipush hJ dX9_init_174 (by decide) ?_
  refine kn_newa hJ 6 16 dX9_init_176 (by decide) (by decide) (by decide) rfl (by decide) (by decide +kernel) (by decide) (by decide +kernel) ?_
  refine mj_putFR (k := 111) (j := 27) (r := 132) hJ dX9_init_178 fw_X9_71 (fun C T N h => by cases h; rfl) rfl (by decide) rfl ?_
  rw [nf_upR (V := [(99, 3), (99, 2), (99, 1), (99, 0), (109, 0), (107, 0), (105, 0), (103, 0), (22, 5), (1, 5)]) (U' := [(111, 28), (111, 29), (111, 30), (111, 32), (111, 33), (111, 34), (111, 35), (111, 36), (111, 37), (111, 38)]) (by decide) (by decide +kernel) (by decide)]
  show J _ _ _ (nf [(111, 28), (111, 29), (111, 30), (111, 32), (111, 33), (111, 34), (111, 35), (111, 36), (111, 37), (111, 38)] [(99, 3), (99, 2), (99, 1), (99, 0), (109, 0), (107, 0), (105, 0), (103, 0), (22, 5), (1, 5)] 133)
  refine mj_aload_n hJ dX9_init_181 rfl ?_
  refine mj_bipush hJ dX9_init_182 (by decide) ?_
  refine kn_newa hJ 6 16 dX9_init_184 (by decide) (by decide) (by decide) rfl (by decide) (by decide +kernel) (by decide) (by decide +kernel) ?_
  refine mj_putFR (k := 111) (j := 28) (r := 133) hJ dX9_init_186 fw_X9_74 (fun C T N h => by cases h; rfl) rfl (by decide) rfl ?_
  rw [nf_upR (V := [(99, 3), (99, 2), (99, 1), (99, 0), (109, 0), (107, 0), (105, 0), (103, 0), (22, 5), (1, 5)]) (U' := [(111, 29), (111, 30), (111, 32), (111, 33), (111, 34), (111, 35), (111, 36), (111, 37), (111, 38)]) (by decide) (by decide +kernel) (by decide)]
  show J _ _ _ (nf [(111, 29), (111, 30), (111, 32), (111, 33), (111, 34), (111, 35), (111, 36), (111, 37), (111, 38)] [(99, 3), (99, 2), (99, 1), (99, 0), (109, 0), (107, 0), (105, 0), (103, 0), (22, 5), (1, 5)] 134)
  refine mj_aload_n hJ dX9_init_189 rfl ?_
  refine mj_bipush hJ dX9_init_190 (by decide) ?_
  refine kn_newa hJ 6 16 dX9_init_192 (by decide) (by decide) (by decide) rfl (by decide) (by decide +kernel) (by decide) (by decide +kernel) ?_
  refine mj_putFR (k := 111) (j := 29) (r := 134) hJ dX9_init_194 fw_X9_77 (fun C T N h => by cases h; rfl) rfl (by decide) rfl ?_
  rw [nf_upR (V := [(99, 3), (99, 2), (99, 1), (99, 0), (109, 0), (107, 0), (105, 0), (103, 0), (22, 5), (1, 5)]) (U' := [(111, 30), (111, 32), (111, 33), (111, 34), (111, 35), (111, 36), (111, 37), (111, 38)]) (by decide) (by decide +kernel) (by decide)]
  show J _ _ _ (nf [(111, 30), (111, 32), (111, 33), (111, 34), (111, 35), (111, 36), (111, 37), (111, 38)] [(99, 3), (99, 2), (99, 1), (99, 0), (109, 0), (107, 0), (105, 0), (103, 0), (22, 5), (1, 5)] 135)
  refine mj_aload_n hJ dX9_init_197 rfl ?_
  refine mj_bipush hJ dX9_init_198 (by decide) ?_
  refine kn_newa hJ 18 16 dX9_init_200 (by decide) (by decide) (by decide) rfl (by decide) (by decide +kernel) (by decide) (by decide +kernel) ?_
  refine mj_putFR (k := 111) (j := 30) (r := 135) hJ dX9_init_202 fw_X9_80 (fun C T N h => by cases h; rfl) rfl (by decide) rfl ?_
  rw [nf_upR (V := [(99, 3), (99, 2), (99, 1), (99, 0), (109, 0), (107, 0), (105, 0), (103, 0), (22, 5), (1, 5)]) (U' := [(111, 32), (111, 33), (111, 34), (111, 35), (111, 36), (111, 37), (111, 38)]) (by decide) (by decide +kernel) (by decide)]
  show J _ _ _ (nf [(111, 32), (111, 33), (111, 34), (111, 35), (111, 36), (111, 37), (111, 38)] [(99, 3), (99, 2), (99, 1), (99, 0), (109, 0), (107, 0), (105, 0), (103, 0), (22, 5), (1, 5)] 136)
  refine mj_aload_n hJ dX9_init_205 rfl ?_
  refine mj_iconst hJ dX9_init_206 (by decide) ?_
  refine kn_newa hJ 4 16 dX9_init_207 (by decide) (by decide) (by decide) rfl (by decide) (by decide +kernel) (by decide) (by decide +kernel) ?_
  refine mj_dupr hJ dX9_init_209 ?_
  refine mj_iconst hJ dX9_init_210 (by decide) ?_
  refine mj_iconst hJ dX9_init_211 (by decide) ?_
  refine mj_iast (k := 136) (i := 0) hJ dX9_init_212 rfl (by decide) (by decide) ?_
  rw [nf_up1]
  show J _ _ _ (nf [(111, 32), (111, 33), (111, 34), (111, 35), (111, 36), (111, 37), (111, 38)] [(136, 0), (99, 3), (99, 2), (99, 1), (99, 0), (109, 0), (107, 0), (105, 0), (103, 0), (22, 5), (1, 5)] 137)
  refine mj_dupr hJ dX9_init_213 ?_
  refine mj_iconst hJ dX9_init_214 (by decide) ?_
  refine mj_iconst hJ dX9_init_215 (by decide) ?_
  refine mj_iast (k := 136) (i := 1) hJ dX9_init_216 rfl (by decide) (by decide) ?_
  rw [nf_up1]
  show J _ _ _ (nf [(111, 32), (111, 33), (111, 34), (111, 35), (111, 36), (111, 37), (111, 38)] [(136, 1), (136, 0), (99, 3), (99, 2), (99, 1), (99, 0), (109, 0), (107, 0), (105, 0), (103, 0), (22, 5), (1, 5)] 137)
  refine mj_dupr hJ dX9_init_217 ?_
  refine mj_iconst hJ dX9_init_218 (by decide) ?_
  refine mj_iconst hJ dX9_init_219 (by decide) ?_
  refine mj_iast (k := 136) (i := 2) hJ dX9_init_220 rfl (by decide) (by decide) ?_
  rw [nf_up1]
  show J _ _ _ (nf [(111, 32), (111, 33), (111, 34), (111, 35), (111, 36), (111, 37), (111, 38)] [(136, 2), (136, 1), (136, 0), (99, 3), (99, 2), (99, 1), (99, 0), (109, 0), (107, 0), (105, 0), (103, 0), (22, 5), (1, 5)] 137)
  refine mj_dupr hJ dX9_init_221 ?_
  refine mj_iconst hJ dX9_init_222 (by decide) ?_
  refine mj_iconst hJ dX9_init_223 (by decide) ?_
  refine mj_iast (k := 136) (i := 3) hJ dX9_init_224 rfl (by decide) (by decide) ?_
  rw [nf_up1]
  show J _ _ _ (nf [(111, 32), (111, 33), (111, 34), (111, 35), (111, 36), (111, 37), (111, 38)] [(136, 3), (136, 2), (136, 1), (136, 0), (99, 3), (99, 2), (99, 1), (99, 0), (109, 0), (107, 0), (105, 0), (103, 0), (22, 5), (1, 5)] 137)
  refine mj_putFR (k := 111) (j := 32) (r := 136) hJ dX9_init_225 fw_X9_83 (fun C T N h => by cases h; rfl) rfl (by decide) rfl ?_
  rw [nf_upR (V := [(136, 3), (136, 2), (136, 1), (136, 0), (99, 3), (99, 2), (99, 1), (99, 0), (109, 0), (107, 0), (105, 0), (103, 0), (22, 5), (1, 5)]) (U' := [(111, 33), (111, 34), (111, 35), (111, 36), (111, 37), (111, 38)]) (by decide) (by decide +kernel) (by decide)]
  show J _ _ _ (nf [(111, 33), (111, 34), (111, 35), (111, 36), (111, 37), (111, 38)] [(136, 3), (136, 2), (136, 1), (136, 0), (99, 3), (99, 2), (99, 1), (99, 0), (109, 0), (107, 0), (105, 0), (103, 0), (22, 5), (1, 5)] 137)
  refine mj_aload_n hJ dX9_init_228 rfl ?_
  refine mj_iconst hJ dX9_init_229 (by decide) ?_
  refine kn_newa hJ 4 16 dX9_init_230 (by decide) (by decide) (by decide) rfl (by decide) (by decide +kernel) (by decide) (by decide +kernel) ?_
  refine mj_putFR (k := 111) (j := 33) (r := 137) hJ dX9_init_232 fw_X9_86 (fun C T N h => by cases h; rfl) rfl (by decide) rfl ?_
  rw [nf_upR (V := [(136, 3), (136, 2), (136, 1), (136, 0), (99, 3), (99, 2), (99, 1), (99, 0), (109, 0), (107, 0), (105, 0), (103, 0), (22, 5), (1, 5)]) (U' := [(111, 34), (111, 35), (111, 36), (111, 37), (111, 38)]) (by decide) (by decide +kernel) (by decide)]
  show J _ _ _ (nf [(111, 34), (111, 35), (111, 36), (111, 37), (111, 38)] [(136, 3), (136, 2), (136, 1), (136, 0), (99, 3), (99, 2), (99, 1), (99, 0), (109, 0), (107, 0), (105, 0), (103, 0), (22, 5), (1, 5)] 138)
  refine mj_aload_n hJ dX9_init_235 rfl ?_
  refine mj_sipush hJ dX9_init_236 (by decide) ?_
  refine kn_newa hJ 160 16 dX9_init_239 (by decide) (by decide) (by decide) rfl (by decide) (by decide +kernel) (by decide) (by decide +kernel) ?_
  refine mj_putFR (k := 111) (j := 34) (r := 138) hJ dX9_init_241 fw_X9_89 (fun C T N h => by cases h; rfl) rfl (by decide) rfl ?_
  rw [nf_upR (V := [(136, 3), (136, 2), (136, 1), (136, 0), (99, 3), (99, 2), (99, 1), (99, 0), (109, 0), (107, 0), (105, 0), (103, 0), (22, 5), (1, 5)]) (U' := [(111, 35), (111, 36), (111, 37), (111, 38)]) (by decide) (by decide +kernel) (by decide)]
  show J _ _ _ (nf [(111, 35), (111, 36), (111, 37), (111, 38)] [(136, 3), (136, 2), (136, 1), (136, 0), (99, 3), (99, 2), (99, 1), (99, 0), (109, 0), (107, 0), (105, 0), (103, 0), (22, 5), (1, 5)] 139)
  refine mj_aload_n hJ dX9_init_244 rfl ?_
  refine mj_iconst hJ dX9_init_245 (by decide) ?_
  refine kn_newa hJ 4 16 dX9_init_246 (by decide) (by decide) (by decide) rfl (by decide) (by decide +kernel) (by decide) (by decide +kernel) ?_
  refine mj_putFR (k := 111) (j := 35) (r := 139) hJ dX9_init_248 fw_X9_92 (fun C T N h => by cases h; rfl) rfl (by decide) rfl ?_
  rw [nf_upR (V := [(136, 3), (136, 2), (136, 1), (136, 0), (99, 3), (99, 2), (99, 1), (99, 0), (109, 0), (107, 0), (105, 0), (103, 0), (22, 5), (1, 5)]) (U' := [(111, 36), (111, 37), (111, 38)]) (by decide) (by decide +kernel) (by decide)]
  show J _ _ _ (nf [(111, 36), (111, 37), (111, 38)] [(136, 3), (136, 2), (136, 1), (136, 0), (99, 3), (99, 2), (99, 1), (99, 0), (109, 0), (107, 0), (105, 0), (103, 0), (22, 5), (1, 5)] 140)
  refine mj_aload_n hJ dX9_init_251 rfl ?_
  refine mj_iconst hJ dX9_init_252 (by decide) ?_
  refine kn_newa hJ 4 16 dX9_init_253 (by decide) (by decide) (by decide) rfl (by decide) (by decide +kernel) (by decide) (by decide +kernel) ?_
  refine mj_putFR (k := 111) (j := 36) (r := 140) hJ dX9_init_255 fw_X9_95 (fun C T N h => by cases h; rfl) rfl (by decide) rfl ?_
  rw [nf_upR (V := [(136, 3), (136, 2), (136, 1), (136, 0), (99, 3), (99, 2), (99, 1), (99, 0), (109, 0), (107, 0), (105, 0), (103, 0), (22, 5), (1, 5)]) (U' := [(111, 37), (111, 38)]) (by decide) (by decide +kernel) (by decide)]
  show J _ _ _ (nf [(111, 37), (111, 38)] [(136, 3), (136, 2), (136, 1), (136, 0), (99, 3), (99, 2), (99, 1), (99, 0), (109, 0), (107, 0), (105, 0), (103, 0), (22, 5), (1, 5)] 141)
  refine mj_aload_n hJ dX9_init_258 rfl ?_
  refine mj_iconst hJ dX9_init_259 (by decide) ?_
  refine kn_newa hJ 4 16 dX9_init_260 (by decide) (by decide) (by decide) rfl (by decide) (by decide +kernel) (by decide) (by decide +kernel) ?_
  refine mj_putFR (k := 111) (j := 37) (r := 141) hJ dX9_init_262 fw_X9_98 (fun C T N h => by cases h; rfl) rfl (by decide) rfl ?_
  rw [nf_upR (V := [(136, 3), (136, 2), (136, 1), (136, 0), (99, 3), (99, 2), (99, 1), (99, 0), (109, 0), (107, 0), (105, 0), (103, 0), (22, 5), (1, 5)]) (U' := [(111, 38)]) (by decide) (by decide +kernel) (by decide)]
  show J _ _ _ (nf [(111, 38)] [(136, 3), (136, 2), (136, 1), (136, 0), (99, 3), (99, 2), (99, 1), (99, 0), (109, 0), (107, 0), (105, 0), (103, 0), (22, 5), (1, 5)] 142)
  refine mj_aload_n hJ dX9_init_265 rfl ?_
  refine mj_bipush hJ dX9_init_266 (by decide) ?_
  refine kn_newa hJ 30 16 dX9_init_268 (by decide) (by decide) (by decide) rfl (by decide) (by decide +kernel) (by decide) (by decide +kernel) ?_
  refine mj_putFR (k := 111) (j := 38) (r := 142) hJ dX9_init_270 fw_X9_101 (fun C T N h => by cases h; rfl) rfl (by decide) rfl ?_
  rw [nf_upR (V := [(136, 3), (136, 2), (136, 1), (136, 0), (99, 3), (99, 2), (99, 1), (99, 0), (109, 0), (107, 0), (105, 0), (103, 0), (22, 5), (1, 5)]) (U' := []) (by decide) (by decide +kernel) (by decide)]
  show J _ _ _ (nf [] [(136, 3), (136, 2), (136, 1), (136, 0), (99, 3), (99, 2), (99, 1), (99, 0), (109, 0), (107, 0), (105, 0), (103, 0), (22, 5), (1, 5)] 143)
  refine mj_aload_n hJ dX9_init_273 rfl ?_
  refine mj_getR (k := 111) (j := 0) (r := 112) hJ dX9_init_274 fw_X9_9 rfl (by decide) rfl (by decide +kernel) ?_
  refine mj_iconst hJ dX9_init_277 (by decide) ?_
  refine mj_iconst hJ dX9_init_278 (by decide) ?_
  refine mj_iast (k := 112) (i := 4) hJ dX9_init_279 rfl (by decide) (by decide) ?_
  rw [nf_up1]
  show J _ _ _ (nf [] [(112, 4), (136, 3), (136, 2), (136, 1), (136, 0), (99, 3), (99, 2), (99, 1), (99, 0), (109, 0), (107, 0), (105, 0), (103, 0), (22, 5), (1, 5)] 143)
  exact hR _ _ dX9_init_280
def vST : List (Nat × Int) := [(112, 4), (136, 3), (136, 2), (136, 1), (136, 0), (99, 3), (99, 2), (99, 1), (99, 0), (109, 0), (107, 0), (105, 0), (103, 0), (22, 5), (1, 5)]
