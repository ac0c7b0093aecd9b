/-! the whole state: the class's cells in I, the model's in N, the treaty T -/
def RRows (I N : Ints) : Prop := I 0 9 = N 111 31 ∧ ∀ i k : Int, 0 ≤ i → i < N 111 31 → 0 ≤ k → k < 3 → I (92 + i.toNat) k = N 135 (3 * i + k)
def RSheets (I N : Ints) : Prop := ∀ s : Int, 0 ≤ s → s < 4 → I (103 + 2 * s.toNat) 0 = N 136 s ∧ I (103 + 2 * s.toNat) 1 = N 137 s ∧ ∀ j : Int, 0 ≤ j → j < 40 → I (104 + 2 * s.toNat) j = N 138 (40 * s + j)
def RShelf (I N : Ints) : Prop := ∀ s : Int, 0 ≤ s → s < 4 → (N 139 s = 0 ∧ I 99 s = -1) ∨ (N 139 s = 1 ∧ (0 ≤ N 140 s ∧ N 140 s ≤ 6) ∧ I 99 s = N 140 s ∧ I 100 s = N 141 s) ∨ (N 139 s = 2 ∧ (0 ≤ N 140 s ∧ N 140 s ≤ 3) ∧ I 99 s = 10 + N 140 s ∧ I 100 s = N 141 s)
def RActs (I N : Ints) : Prop := I 101 1 = N 111 39 ∧ ∀ j : Int, 0 ≤ j → j < N 111 39 → I 102 j = N 142 j
def RTape (I N : Ints) : Prop := I 80 0 = N 111 17 ∧ ∀ j : Int, 0 ≤ j → j < N 111 17 → I 86 j = N 127 j
def RKept (I N : Ints) : Prop := (N 111 2 = 0 ∨ N 111 2 = 1) ∧ I 0 2 = N 111 2 ∧ (N 111 2 = 1 → ∃ T, LD I 22 24 31 37 (N 113) ∧ TC I 38 39 40 41 42 T ∧ TM (N 113) T ∧ WN (N 113))
def RX (I N : Ints) (T : List Ln) : Prop := (WN (N 112) ∧ WS N ∧ TM (N 112) T) ∧ (LN I (N 112) ∧ TC I 17 18 19 20 21 T) ∧ RRows I N ∧ RSheets I N ∧ RShelf I N ∧ RActs I N ∧ RTape I N ∧ RKept I N
theorem RRows.same {I N I' N' : Ints} (hs : WS N) (h : RRows I N) (e1 : I' 0 9 = I 0 9) (e2 : ∀ c, 92 ≤ c → c ≤ 97 → I' c = I c) (n1 : N' 111 31 = N 111 31) (n2 : N' 135 = N 135) : RRows I' N' := by
  unfold RRows
  rw [e1, n1, n2]
  refine ⟨h.1, fun i k i0 i1 k0 k1 => ?_⟩
  have := hs.1
  rw [e2 _ (by omega) (by omega)]
  exact h.2 i k i0 i1 k0 k1
theorem RSheets.same {I N I' N' : Ints} (h : RSheets I N) (e : ∀ c, 103 ≤ c → c ≤ 110 → I' c = I c) (n : ∀ c, 136 ≤ c → c ≤ 138 → N' c = N c) : RSheets I' N' := by
  intro s s0 s1
  rw [e _ (by omega) (by omega), e _ (by omega) (by omega), n 136 (by decide) (by decide), n 137 (by decide) (by decide), n 138 (by decide) (by decide)]
  exact h s s0 s1
theorem RShelf.same {I N I' N' : Ints} (h : RShelf I N) (e1 : I' 99 = I 99) (e2 : I' 100 = I 100) (n : ∀ c, 139 ≤ c → c ≤ 141 → N' c = N c) : RShelf I' N' := by
  unfold RShelf
  rw [e1, e2, n 139 (by decide) (by decide), n 140 (by decide) (by decide), n 141 (by decide) (by decide)]
  exact h
theorem RActs.same {I N I' N' : Ints} (h : RActs I N) (e1 : I' 101 1 = I 101 1) (e2 : I' 102 = I 102) (n1 : N' 111 39 = N 111 39) (n2 : N' 142 = N 142) : RActs I' N' := by
  unfold RActs
  rw [e1, e2, n1, n2]
  exact h
theorem RTape.same {I N I' N' : Ints} (h : RTape I N) (e1 : I' 80 0 = I 80 0) (e2 : I' 86 = I 86) (n1 : N' 111 17 = N 111 17) (n2 : N' 127 = N 127) : RTape I' N' := by
  unfold RTape
  rw [e1, e2, n1, n2]
  exact h
theorem LD22.same {I I' : Ints} {f : Int → Int} (hw : WN f) (h : LD I 22 24 31 37 f) (e : ∀ c, 22 ≤ c → c ≤ 37 → I' c = I c) : LD I' 22 24 31 37 f := by
  have hn := hw.nv
  unfold LD
  rw [e 22 (by decide) (by decide), e 37 (by decide) (by decide)]
  refine ⟨h.1, fun v k h0 h1 h2 h3 => ?_, fun v n h0 h1 h2 h3 => ?_, h.2.2.2⟩
  · rw [e (24 + v.toNat) (by omega) (by omega)]; exact h.2.1 v k h0 h1 h2 h3
  · rw [e (31 + v.toNat) (by omega) (by omega)]; exact h.2.2.1 v n h0 h1 h2 h3
theorem RKept.same {I N I' N' : Ints} (h : RKept I N) (e1 : I' 0 2 = I 0 2) (e2 : ∀ c, 22 ≤ c → c ≤ 42 → I' c = I c) (n1 : N' 111 2 = N 111 2) (n2 : N' 113 = N 113) : RKept I' N' := by
  unfold RKept
  rw [e1, n1, n2]
  refine ⟨h.1, h.2.1, fun q => ?_⟩
  obtain ⟨T, h1, h2, h3, h4⟩ := h.2.2 q
  refine ⟨T, LD22.same h4 h1 (fun c c1 c2 => e2 c c1 (by omega)), ?_, h3, h4⟩
  unfold TC
  rw [e2 38 (by decide) (by decide), e2 39 (by decide) (by decide), e2 40 (by decide) (by decide), e2 41 (by decide) (by decide), e2 42 (by decide) (by decide)]
  exact h2
theorem cat_congr {f f' : Int → Int} : ∀ (L : List Int) (p : Int), 0 ≤ p → (∀ j, 156 ≤ j → f' j = f j) → cat f p L → cat f' p L
  | [], _, _, _, _ => trivial
  | x :: L, p, p0, e, h => ⟨by rw [e _ (by omega)]; exact h.1, cat_congr L (p + 1) (by omega) e h.2⟩
theorem tml_congr {f f' : Int → Int} (e3 : f' 3 = f 3) (e : ∀ j, 124 ≤ j → f' j = f j) : ∀ (L : List Ln) (l p : Int), 0 ≤ l → 0 ≤ p → tml f l p L → tml f' l p L
  | [], _, _, _, _, h => ⟨by rw [e3]; exact h.1, h.2⟩
  | (v, m, s) :: L, l, p, l0, p0, h => by
    refine ⟨?_, ⟨h.2.1.1, h.2.1.2.1, h.2.1.2.2.1, cat_congr _ p p0 (fun j hj => e j (by omega)) h.2.1.2.2.2⟩, tml_congr e3 e L (l + 1) _ (by omega) (by omega) h.2.2⟩
    rw [e _ (by omega), e _ (by omega), e _ (by omega), e _ (by omega)]
    exact h.1
theorem TM.congr {f f' : Int → Int} {T : List Ln} (h : TM f T) (e2 : f' 2 = f 2) (e3 : f' 3 = f 3) (e : ∀ j, 124 ≤ j → f' j = f j) : TM f' T :=
  ⟨by rw [e2]; exact h.1, h.2.1, tml_congr e3 e T 0 0 (Int.le_refl _) (Int.le_refl _) h.2.2⟩
theorem fst_congr {f f' : Int → Int} {v : Int} : ∀ n : Nat, (∀ k : Int, 0 ≤ k → k < n → f' (10 + 18 * v + (6 + k)) = f (10 + 18 * v + (6 + k))) → fst f' v n = fst f v n
  | 0, _ => rfl
  | n + 1, e => by
    have ih := fst_congr n (fun k k0 k1 => e k k0 (by omega))
    show fst f' v n + f' (10 + 18 * v + (6 + n)) = fst f v n + f (10 + 18 * v + (6 + n))
    rw [ih, e n (by omega) (by omega)]
theorem fst_zero {f : Int → Int} {v : Int} : ∀ n : Nat, (∀ k : Int, 0 ≤ k → k < n → f (10 + 18 * v + (6 + k)) = 0) → fst f v n = 0
  | 0, _ => rfl
  | n + 1, e => by
    have ih := fst_zero n (fun k k0 k1 => e k k0 (by omega))
    show fst f v n + f (10 + 18 * v + (6 + n)) = 0
    rw [ih, e n (by omega) (by omega)]
    rfl
/-- only the land (not the treaty) has changed -/
theorem RX.now {I N I' N' : Ints} {T : List Ln} (h : RX I N T) (eI : ∀ c, (c = 0 ∨ (17 ≤ c ∧ c < 43) ∨ c = 80 ∨ c = 86 ∨ 91 ≤ c) → I' c = I c) (eN : ∀ c, c ≠ 112 → N' c = N c) (hw : WN (N' 112)) (e2 : N' 112 2 = N 112 2) (e3 : N' 112 3 = N 112 3) (e124 : ∀ j, 124 ≤ j → N' 112 j = N 112 j) (hl : LN I' (N' 112)) : RX I' N' T := by
  obtain ⟨⟨h1, h2, h3⟩, ⟨h4, h5⟩, h6, h7, h8, h9, h10, h11⟩ := h
  refine ⟨⟨hw, ?_, h3.congr e2 e3 e124⟩, ⟨hl, h5.same (fun c c1 c2 => eI c (by omega))⟩, h6.same h2 (by rw [eI 0 (by decide)]) (fun c c1 c2 => eI c (by omega)) (by rw [eN 111 (by decide)]) (eN 135 (by decide)), h7.same (fun c c1 c2 => eI c (by omega)) (fun c c1 c2 => eN c (by omega)), h8.same (eI 99 (by decide)) (eI 100 (by decide)) (fun c c1 c2 => eN c (by omega)), h9.same (by rw [eI 101 (by decide)]) (eI 102 (by decide)) (by rw [eN 111 (by decide)]) (eN 142 (by decide)), h10.same (by rw [eI 80 (by decide)]) (eI 86 (by decide)) (by rw [eN 111 (by decide)]) (eN 127 (by decide)), h11.same (by rw [eI 0 (by decide)]) (fun c c1 c2 => eI c (by omega)) (by rw [eN 111 (by decide)]) (eN 113 (by decide))⟩
  unfold WS
  rw [eN 111 (by decide), eN 136 (by decide), eN 137 (by decide), eN 139 (by decide), eN 140 (by decide)]
  exact h2
theorem RX.smc {I N I' : Ints} {T : List Ln} (h : RX I N T) (e : SmC I I') : RX I' N T :=
  h.now (fun c hc => e c (by omega)) (fun _ _ => rfl) h.1.1 rfl rfl (fun _ _ => rfl) (LN.same h.1.1 h.2.1.1 (fun c c1 c2 => e c (by omega)))
/-- what a call of the class leaves: its answer, the state of the model's answer, the model's cells as they were -/
abbrev Xg (I : Ints) (F : Int) (N' : Ints) (T' : List Ln) : Int → Ints → Bool → Prop := fun z I' _ => z = F ∧ RX I' N' T' ∧ ∀ c, 111 ≤ c → I' c = I c
theorem RX.xs {I N : Ints} {T : List Ln} {F z : Int} {I' : Ints} {b : Bool} (h : RX I N T) (q : Xs I F z I' b) : Xg I F N T z I' b := ⟨q.1, h.smc q.2, fun c hc => q.2 c (by omega)⟩
theorem RX.refl {I N : Ints} {T : List Ln} {F : Int} {b : Bool} (h : RX I N T) : Xg I F N T F I b := ⟨rfl, h, fun _ _ => rfl⟩
section C9
variable {G : GE} {I N : Ints} {b : Bool} {T : List Ln}
theorem nowV_old {f : Int → Int} {w v k : Int} (hn : 0 ≤ f 0 ∧ f 0 ≤ 6) (hv : v ≠ f 0) (k0 : 0 ≤ k) (k1 : k < 18) (v0 : 0 ≤ v) : nowV f w (10 + 18 * v + k) = f (10 + 18 * v + k) := by
  unfold nowV
  rw [if_neg (by omega), if_neg (by omega)]
theorem nowV_new {f : Int → Int} {w k : Int} (k0 : 0 ≤ k) (k1 : k < 18) : nowV f w (10 + 18 * f 0 + k) = if k = 0 then w else if k = 1 ∨ k = 4 then 99 else if k = 5 then 1 else 0 := by
  unfold nowV
  rw [if_pos (by omega)]
  by_cases a : k = 0
  · rw [if_pos a, if_pos (by omega)]
  · rw [if_neg a, if_neg (by omega)]
    by_cases c : k = 1 ∨ k = 4
    · rw [if_pos c, if_pos (by omega)]
    · rw [if_neg c, if_neg (by omega)]
      by_cases d : k = 5
      · rw [if_pos d, if_pos (by omega)]
      · rw [if_neg d, if_neg (by omega)]
theorem nowV_out {f : Int → Int} {w j : Int} (hn : 0 ≤ f 0 ∧ f 0 ≤ 5) (hj : (0 < j ∧ j < 10) ∨ 118 ≤ j) : nowV f w j = f j := by
  unfold nowV
  rw [if_neg (by omega), if_neg (by omega)]
theorem nowV_0 {f : Int → Int} {w : Int} (hn : 0 ≤ f 0) : nowV f w 0 = f 0 + 1 := by
  unfold nowV
  rw [if_neg (by omega), if_pos rfl]
theorem WN_nowV {f : Int → Int} {w : Int} (h : WN f) (hn : f 0 ≤ 5) (w0 : 0 ≤ w) (w1 : w ≤ 12) : WN (nowV f w) := by
  have hv := h.nv
  have hy := h.ny
  have hd := h.dm
  have o := fun j hj => nowV_out (f := f) (w := w) (j := j) ⟨hv.1, hn⟩ hj
  refine ⟨by rw [nowV_0 hv.1]; omega, by rw [o 1 (by decide)]; exact h.2.1, by rw [o 2 (by decide)]; exact h.2.2.1, by rw [o 3 (by decide)]; exact h.2.2.2.1, by rw [o 4 (by decide), o 5 (by decide), nowV_0 hv.1]; omega, fun v v0 v1 => ?_, fun v k v0 v1 k0 k1 => ?_, fun y y0 y1 => by rw [o _ (by omega)]; exact h.wet y0 y1⟩
  · by_cases e : v = f 0
    · subst e
      rw [nowV_new (k := 0) (by decide) (by decide), nowV_new (k := 1) (by decide) (by decide), nowV_new (k := 2) (by decide) (by decide), nowV_new (k := 3) (by decide) (by decide), nowV_new (k := 4) (by decide) (by decide), nowV_new (k := 5) (by decide) (by decide)]
      refine ⟨⟨w0, w1⟩, ?_, ?_, ?_, ?_, ?_⟩ <;> simp
    · rw [nowV_old hv e (k := 0) (by decide) (by decide) v0, nowV_old hv e (k := 1) (by decide) (by decide) v0, nowV_old hv e (k := 2) (by decide) (by decide) v0, nowV_old hv e (k := 3) (by decide) (by decide) v0, nowV_old hv e (k := 4) (by decide) (by decide) v0, nowV_old hv e (k := 5) (by decide) (by decide) v0]
      exact h.fact v0 v1
  · by_cases e : v = f 0
    · subst e
      rw [nowV_new (k := 6 + k) (by omega) (by omega), if_neg (by omega), if_neg (by omega), if_neg (by omega)]
      decide
    · rw [nowV_old hv e (k := 6 + k) (by omega) (by omega) v0]
      exact h.worth v0 v1 k0 k1
theorem tb2_in : ∀ z : Int, inR (tb2 z) := fun z => by
  unfold tb2 inR
  repeat' split
  all_goals omega
theorem c_X2_addVillage (hTb : TBs G) (f : Int → Int) (hw : WN f) (hl : LN I f) (hn5 : f 0 ≤ 5) (w : Int) (w0 : 0 ≤ w) (w1 : w ≤ 12) : MtI G yX2_addVillage cX2_addVillage 3 (some .int) 1 [vr 1, vi w] I b (fun z I' b' => z = f 0 ∧ b' = b ∧ (∀ c, (c = 0 ∨ 16 < c) → I' c = I c) ∧ LN I' (nowV f w)) := by
  refine mt_enterI (own := RX2) (ls0 := [vr 1, vi w, vu]) rfl (by decide +kernel) (Nat.le_of_ble_eq_true rfl) rfl rfl (fun J hJ hR => ?_)
  have hn := hw.nv
  have h2 := hTb.2.2.1
  obtain ⟨v, hv⟩ : ∃ v, f 0 = v := ⟨_, rfl⟩
  rw [hv] at hn hn5
  refine mj_aload_n hJ dX2_addVillage_0 rfl ?_
  refine mk_getI (j' := 0) hJ dX2_addVillage_1 fw_X2_9 rfl (by decide) rfl rfl ?_
  rw [hl.1.1, hv]
  refine ms_istore_n (ls' := [_, _, _]) hJ dX2_addVillage_4 (by decide) rfl rfl ?_
  refine mj_gstN (t := 2) hJ dX2_addVillage_5 (by decide) gs_X2_43 ?_
  refine mj_iconst hJ dX2_addVillage_8 (by decide) ?_
  refine mj_aload_n hJ dX2_addVillage_9 rfl ?_
  refine mk_getR hJ dX2_addVillage_10 fw_X2_17 rfl (by decide) rfl rfl ?_
  refine mj_iload_n hJ dX2_addVillage_13 rfl ?_
  refine mk_aald hJ dX2_addVillage_14 rfl (Or.inl rfl) (by omega) (by omega) (gr_2 (by omega) (by omega)).1 ?_
  refine mj_iconst hJ dX2_addVillage_15 (by decide) ?_
  refine mj_bipush hJ dX2_addVillage_16 (by decide) ?_
  refine mk_copyT hJ dX2_addVillage_18 cp_X2_46 (by decide) h2 tb2_in (gr_2 (b := true) (by omega) (by omega)).2 (by omega) (by omega) (by omega) (by omega) (by omega) (by decide) (Nat.le_of_ble_eq_true rfl) ?_
  refine mj_aload_n hJ dX2_addVillage_21 rfl ?_
  refine mk_getR hJ dX2_addVillage_22 fw_X2_17 rfl (by decide) rfl rfl ?_
  refine mj_iload_n hJ dX2_addVillage_25 rfl ?_
  refine mk_aald hJ dX2_addVillage_26 rfl (Or.inl rfl) (by omega) (by omega) (gr_2 (by omega) (by omega)).1 ?_
  refine mj_iconst hJ dX2_addVillage_27 (by decide) ?_
  refine mj_iload_n hJ dX2_addVillage_28 rfl ?_
  refine mk_iast hJ dX2_addVillage_29 (gr_2 (b := true) (by omega) (by omega)).2 (by omega) (by omega) ?_
  refine mj_aload_n hJ dX2_addVillage_30 rfl ?_
  refine mk_getR hJ dX2_addVillage_31 fw_X2_20 rfl (by decide) rfl rfl ?_
  refine mj_iload_n hJ dX2_addVillage_34 rfl ?_
  refine mk_aald hJ dX2_addVillage_35 rfl (Or.inl rfl) (by omega) (by omega) (gr_9 (by omega) (by omega)).1 ?_
  refine mj_iconst hJ dX2_addVillage_36 (by decide) ?_
  refine mk_Sv2 hJ dX2_addVillage_37 cw_X2_52 rfl (Nat.le_of_ble_eq_true rfl) (by first | decide | omega) (c_fill (10 + v.toNat) 13 0 (gr_9 (b := true) (by omega) (by omega)).2 (by decide)) (fun I1 b1 hq9 => ?_)
  obtain ⟨rfl, e1⟩ := hq9
  have hc : ∀ c, c ≠ 10 + v.toNat → c ≠ 3 + v.toNat → I1 c = I c := fun c c1 c2 => by rw [e1, rowI_ne c1, upI_ne c2, cpT_ne c2]
  refine mj_aload_n hJ dX2_addVillage_40 rfl ?_
  refine mj_dupr hJ dX2_addVillage_41 ?_
  refine mk_getI (j' := 0) hJ dX2_addVillage_42 fw_X2_9 rfl (by decide) rfl rfl ?_
  rw [hc 1 (by omega) (by omega), hl.1.1, hv]
  refine mj_iconst hJ dX2_addVillage_45 (by decide) ?_
  first | refine ms_iadd hJ dX2_addVillage_46 (by omega) ?_ | refine mj_iadd hJ dX2_addVillage_46 ?_
  refine mk_putI (j' := 0) hJ dX2_addVillage_47 fw_X2_9 rfl (by decide) rfl rfl ?_
  refine mj_iload_n hJ dX2_addVillage_50 rfl ?_
  refine hR _ _ _ _ _ dX2_addVillage_51 nar_i ⟨hv.symm, rfl, fun c hc2 => by rw [upI_ne (by omega), hc c (by omega) (by omega)], ?_⟩
  have o := fun j hj => nowV_out (f := f) (w := w) (j := j) (by omega) hj
  have e0 : nowV f w 0 = v + 1 := by rw [nowV_0 (by omega), hv]
  have r1 : ∀ j, j ≠ 0 → upI I1 1 0 (v + 1) 1 j = I 1 j := fun j hj => by rw [upI_at, if_neg hj, hc 1 (by omega) (by omega)]
  have rf : ∀ k : Int, 0 ≤ k → k < 6 → I1 (3 + v.toNat) k = if k = 0 then w else tb2 k := fun k k0 k1 => by
    rw [e1, rowI_ne (by omega), upI_at]
    by_cases c : k = 0
    · rw [if_pos c, if_pos c]
    · rw [if_neg c, if_neg c]
      unfold cpT
      rw [if_pos ⟨rfl, k0, by omega⟩]
      congr 1
      omega
  refine ⟨⟨by rw [e0, upI_at, if_pos rfl], by rw [o 1 (by decide), r1 3 (by decide)]; exact hl.1.2.1, by rw [o 4 (by decide), r1 5 (by decide)]; exact hl.1.2.2.1, by rw [o 5 (by decide), r1 6 (by decide)]; exact hl.1.2.2.2⟩, fun u k u0 u1 k0 k1 => ?_, fun u n u0 u1 n0 n1 => ?_, fun y y0 y1 => ?_⟩
  · rw [e0] at u1
    rw [upI_ne (by omega)]
    by_cases e : u = v
    · subst e
      rw [rf k k0 k1]
      have := nowV_new (f := f) (w := w) (k := k) k0 (by omega)
      rw [hv] at this
      rw [this]
      rfl
    · rw [hc _ (by omega) (by omega), nowV_old (by omega) (by omega) k0 (by omega) u0]
      exact hl.fact u0 (by omega) k0 k1
  · rw [e0] at u1
    rw [upI_ne (by omega)]
    by_cases e : u = v
    · subst e
      rw [e1, rowI_at, if_pos (by omega), fst_zero n.toNat (fun k k0 k1 => ?_)]
      have := nowV_new (f := f) (w := w) (k := 6 + k) (by omega) (by omega)
      rw [hv] at this
      rw [this, if_neg (by omega), if_neg (by omega), if_neg (by omega)]
    · rw [hc _ (by omega) (by omega), fst_congr (f := f) n.toNat (fun k k0 k1 => nowV_old (by omega) (by omega) (by omega) (by omega) u0)]
      exact hl.tog u0 (by omega) n0 n1
  · rw [o 1 (by decide)] at y1
    rw [upI_ne (by decide), hc 16 (by omega) (by omega), o _ (by omega)]
    exact hl.2.2.2 y y0 y1
theorem c_village (hTb : TBs G) (h : RX I N T) (w : Int) : MtI G yX8_village cX8_village 2 (some .int) 2 [vr 0, vi w] I b (Xg I (F_village N w) (G_village N w) T) := by
  refine mt_enterI (own := RX8) (ls0 := [vr 0, vi w]) rfl (by decide +kernel) (Nat.le_of_ble_eq_true rfl) rfl rfl (fun J hJ hR => ?_)
  have hw := h.1.1
  have hl := h.2.1.1
  have hn := hw.nv
  unfold F_village G_village at hR
  refine mj_iconst hJ dX8_village_0 (by decide) ?_
  refine mj_iload_n hJ dX8_village_1 rfl ?_
  refine mk_Sp2 hJ dX8_village_2 cw_X8_90 rfl (Nat.le_of_ble_eq_true rfl) (by first | decide | omega) (c_isFact hTb 0 w (by decide) (by decide)) ?_
  rw [if_neg (show ¬((0 : Int) = 5) by decide), if_pos (show (0 : Int) = 0 from rfl)]
  by_cases h1 : 0 ≤ w ∧ w ≤ 12
  · rw [if_pos h1] at hR ⊢
    refine mj_if_ne (tgt := 10) hJ dX8_village_5 (by decide) (fun _ => ?_) (fun hno => absurd hno (by decide))
    refine mj_aload_n hJ dX8_village_10 rfl ?_
    refine mk_getR hJ dX8_village_11 fw_X8_12 rfl (by decide) rfl rfl ?_
    refine mk_getI (j' := 0) hJ dX8_village_14 fw_X8_94 rfl (by decide) rfl rfl ?_
    rw [hl.1.1]
    refine mj_bipush hJ dX8_village_17 (by decide) ?_
    refine mj_icmp_ne (tgt := 25) hJ dX8_village_19 (by decide) (fun h6 => ?_) (fun h6 => ?_)
    · rw [if_neg h6, if_pos ⟨h1, h6⟩] at hR
      refine mj_aload_n hJ dX8_village_25 rfl ?_
      refine mk_getR hJ dX8_village_26 fw_X8_12 rfl (by decide) rfl rfl ?_
      refine mj_iload_n hJ dX8_village_29 rfl ?_
      refine mk_Vi1 hJ dX8_village_30 cw_X8_97 rfl rfl rfl rfl (Nat.le_of_ble_eq_true rfl) (by first | decide | omega) (c_X2_addVillage hTb (N 112) hw hl (by omega) w h1.1 h1.2) (fun z I1 b1 hq9 => ?_)
      obtain ⟨rfl, rfl, hf, hL⟩ := hq9
      have eN : rowI N 112 (nowV (N 112) w) 112 = nowV (N 112) w := rowI_at
      refine hR _ _ _ _ _ dX8_village_33 nar_i ⟨rfl, ?_, fun c hc => hf c (by omega)⟩
      refine h.now (fun c hc => hf c (by omega)) (fun c hc => rowI_ne hc) ?_ ?_ ?_ ?_ ?_
      · rw [eN]; exact WN_nowV hw (by omega) h1.1 h1.2
      · rw [eN]; exact nowV_out (by omega) (by decide)
      · rw [eN]; exact nowV_out (by omega) (by decide)
      · intro j hj; rw [eN]; exact nowV_out (by omega) (by omega)
      · rw [eN]; exact hL
    · rw [if_pos h6, if_neg (fun q => q.2 h6)] at hR
      refine mj_bipush hJ dX8_village_22 (by decide) ?_
      exact hR _ _ _ _ _ dX8_village_24 nar_i h.refl
  · rw [if_neg h1, if_neg (fun q => h1 q.1)] at hR
    rw [if_neg h1]
    refine mj_if_ne (tgt := 10) hJ dX8_village_5 (by decide) (fun hyes => absurd (by decide) hyes) (fun _ => ?_)
    refine mj_iconst hJ dX8_village_8 (by decide) ?_
    exact hR _ _ _ _ _ dX8_village_9 nar_i h.refl
/-- WN when one number changes -/
theorem WN_up {f g : Int → Int} (h : WN f) {j n : Int} (ge : ∀ i, g i = if i = j then n else f i) (hj : 10 ≤ j ∧ j < 124) (hb : ∀ v k, 0 ≤ v → v < 6 → 0 ≤ k → k < 18 → j = 10 + 18 * v + k → (k = 0 → 0 ≤ n ∧ n ≤ 12) ∧ (k = 1 → 0 ≤ n ∧ n ≤ 99) ∧ (k = 2 → 0 ≤ n ∧ n ≤ 9) ∧ (k = 3 → 0 ≤ n ∧ n ≤ 20) ∧ (k = 4 → 0 ≤ n ∧ n ≤ 99) ∧ (k = 5 → 1 ≤ n ∧ n ≤ 9) ∧ (6 ≤ k → k < 18 → 0 ≤ n ∧ n ≤ 99)) (hy : 118 ≤ j → 0 ≤ n ∧ n ≤ 20) : WN g := by
  have go : ∀ i, i ≠ j → g i = f i := fun i hi => by rw [ge, if_neg hi]
  refine ⟨by rw [go 0 (by omega)]; exact h.1, by rw [go 1 (by omega)]; exact h.2.1, by rw [go 2 (by omega)]; exact h.2.2.1, by rw [go 3 (by omega)]; exact h.2.2.2.1, by rw [go 4 (by omega), go 5 (by omega), go 0 (by omega)]; exact h.dm, fun v v0 v1 => ?_, fun v k v0 v1 k0 k1 => ?_, fun y y0 y1 => ?_⟩
  · have fa := h.fact v0 v1
    refine ⟨?_, ?_, ?_, ?_, ?_, ?_⟩
    · by_cases e : 10 + 18 * v + 0 = j
      · rw [ge, if_pos e]; exact (hb v 0 v0 v1 (by decide) (by decide) e.symm).1 rfl
      · rw [go _ e]; exact fa.1
    · by_cases e : 10 + 18 * v + 1 = j
      · rw [ge, if_pos e]; exact (hb v 1 v0 v1 (by decide) (by decide) e.symm).2.1 rfl
      · rw [go _ e]; exact fa.2.1
    · by_cases e : 10 + 18 * v + 2 = j
      · rw [ge, if_pos e]; exact (hb v 2 v0 v1 (by decide) (by decide) e.symm).2.2.1 rfl
      · rw [go _ e]; exact fa.2.2.1
    · by_cases e : 10 + 18 * v + 3 = j
      · rw [ge, if_pos e]; exact (hb v 3 v0 v1 (by decide) (by decide) e.symm).2.2.2.1 rfl
      · rw [go _ e]; exact fa.2.2.2.1
    · by_cases e : 10 + 18 * v + 4 = j
      · rw [ge, if_pos e]; exact (hb v 4 v0 v1 (by decide) (by decide) e.symm).2.2.2.2.1 rfl
      · rw [go _ e]; exact fa.2.2.2.2.1
    · by_cases e : 10 + 18 * v + 5 = j
      · rw [ge, if_pos e]; have := (hb v 5 v0 v1 (by decide) (by decide) e.symm).2.2.2.2.2.1 rfl; omega
      · rw [go _ e]; exact fa.2.2.2.2.2
  · by_cases e : 10 + 18 * v + (6 + k) = j
    · rw [ge, if_pos e]; exact (hb v (6 + k) v0 v1 (by omega) (by omega) e.symm).2.2.2.2.2.2 (by omega) (by omega)
    · rw [go _ e]; exact h.worth v0 v1 k0 k1
  · by_cases e : 118 + y = j
    · rw [ge, if_pos e]; exact hy (by omega)
    · rw [go _ e]; exact h.wet y0 y1
theorem upI_112 {N : Ints} {j n : Int} : upI N 112 j n 112 = fun i => if i = j then n else N 112 i := funext fun i => upI_at
/-- a fact is set -/
theorem LN_fact {f g : Int → Int} (hw : WN f) (hl : LN I f) {v w n : Int} (v0 : 0 ≤ v) (v1 : v < f 0) (w0 : 0 ≤ w) (w1 : w ≤ 5) (ge : ∀ i, g i = if i = 10 + 18 * v + w then n else f i) : LN (upI I (3 + v.toNat) w n) g := by
  have hn := hw.nv
  have hy := hw.ny
  have go : ∀ i, i ≠ 10 + 18 * v + w → g i = f i := fun i hi => by rw [ge, if_neg hi]
  refine ⟨?_, fun u k u0 u1 k0 k1 => ?_, fun u m u0 u1 m0 m1 => ?_, fun y y0 y1 => ?_⟩
  · rw [upI_ne (by omega), go 0 (by omega), go 1 (by omega), go 4 (by omega), go 5 (by omega)]
    exact hl.1
  · rw [go 0 (by omega)] at u1
    by_cases e : u = v
    · subst e
      rw [upI_at]
      by_cases e2 : k = w
      · subst e2
        rw [if_pos rfl, ge, if_pos rfl]
      · rw [if_neg e2, go _ (by omega)]
        exact hl.fact u0 u1 k0 k1
    · rw [upI_ne (by omega), go _ (by omega)]
      exact hl.fact u0 u1 k0 k1
  · rw [go 0 (by omega)] at u1
    rw [upI_ne (by omega), fst_congr (f := f) m.toNat (fun k k0 k1 => go _ (by omega))]
    exact hl.tog u0 u1 m0 m1
  · rw [go 1 (by omega)] at y1
    rw [upI_ne (by omega), go _ (by omega)]
    exact hl.2.2.2 y y0 y1
theorem c_set (hTb : TBs G) (h : RX I N T) (v w n : Int) : MtI G yX8_set cX8_set 5 (some .int) 2 [vr 0, vi v, vi w, vi n] I b (Xg I (F_set N v w n) (G_set N v w n) T) := by
  refine mt_enterI (own := RX8) (ls0 := [vr 0, vi v, vi w, vi n, vu]) rfl (by decide +kernel) (Nat.le_of_ble_eq_true rfl) rfl rfl (fun J hJ hR => ?_)
  have hw := h.1.1
  have hl := h.2.1.1
  have hn := hw.nv
  have e0 := hl.1.1
  unfold F_set G_set at hR
  have bad : ¬setP N v w n → J 25 [vr 0, vi v, vi w, vi n, vu] [] (mk I b) := by
    intro q
    rw [if_neg q, if_neg q] at hR
    refine mj_iconst hJ dX8_set_25 (by decide) ?_
    exact hR _ _ _ _ _ dX8_set_26 nar_i h.refl
  refine mj_aload_n hJ dX8_set_0 rfl ?_
  refine mj_iload_n hJ dX8_set_1 rfl ?_
  refine mk_Vp1 hJ dX8_set_2 cw_X8_101 rfl rfl rfl rfl (Nat.le_of_ble_eq_true rfl) (by first | decide | omega) (c_isVillage v (by rw [e0]; exact hn.1) (by rw [e0]; exact hn.2)) ?_
  rw [e0]
  by_cases h1 : 0 ≤ v ∧ v < N 112 0
  · rw [if_pos h1]
    refine mj_if_eq (tgt := 25) hJ dX8_set_5 (by decide) (fun hyes => absurd hyes (by decide)) (fun _ => ?_)
    refine mj_iload_n hJ dX8_set_8 rfl ?_
    refine mj_iconst hJ dX8_set_9 (by decide) ?_
    refine mj_iconst hJ dX8_set_10 (by decide) ?_
    refine mk_Sp3 hJ dX8_set_11 cw_X8_105 rfl (Nat.le_of_ble_eq_true rfl) (by first | decide | omega) (c_within w 0 5) ?_
    by_cases h2 : 0 ≤ w ∧ w ≤ 5
    · rw [if_pos h2]
      refine mj_if_eq (tgt := 25) hJ dX8_set_14 (by decide) (fun hyes => absurd hyes (by decide)) (fun _ => ?_)
      refine mj_iload_n hJ dX8_set_17 rfl ?_
      refine mj_iload_n hJ dX8_set_18 rfl ?_
      refine mk_Sp2 hJ dX8_set_19 cw_X8_90 rfl (Nat.le_of_ble_eq_true rfl) (by first | decide | omega) (c_isFact hTb w n h2.1 h2.2) ?_
      by_cases h3 : (if w = 5 then 1 else 0) ≤ n ∧ n ≤ (if w = 0 then 12 else if w = 1 ∨ w = 4 then 99 else if w = 2 then 9 else if w = 3 then 20 else 9)
      · rw [if_pos h3]
        have hP : setP N v w n := ⟨h1, h2, h3⟩
        rw [if_pos hP, if_pos hP] at hR
        have hb := hl.fact h1.1 h1.2 h2.1 (k := w) (by omega)
        refine mj_if_ne (tgt := 27) hJ dX8_set_22 (by decide) (fun _ => ?_) (fun hno => absurd hno (by decide))
        refine mj_aload_n hJ dX8_set_27 rfl ?_
        refine mk_getR hJ dX8_set_28 fw_X8_12 rfl (by decide) rfl rfl ?_
        refine mk_getR hJ dX8_set_31 fw_X8_109 rfl (by decide) rfl rfl ?_
        refine mj_iload_n hJ dX8_set_34 rfl ?_
        refine mk_aald hJ dX8_set_35 rfl (Or.inl rfl) (by omega) (by omega) (gr_2 (by omega) (by omega)).1 ?_
        refine mj_iload_n hJ dX8_set_36 rfl ?_
        refine mk_iald hJ dX8_set_37 (gr_2 (b := true) (by omega) (by omega)).2 (by omega) (by omega) ?_
        rw [hb]
        refine ms_istore (ls' := [_, _, _, _, _]) hJ dX8_set_38 (by decide) rfl rfl ?_
        refine mj_aload_n hJ dX8_set_40 rfl ?_
        refine mk_getR hJ dX8_set_41 fw_X8_12 rfl (by decide) rfl rfl ?_
        refine mk_getR hJ dX8_set_44 fw_X8_109 rfl (by decide) rfl rfl ?_
        refine mj_iload_n hJ dX8_set_47 rfl ?_
        refine mk_aald hJ dX8_set_48 rfl (Or.inl rfl) (by omega) (by omega) (gr_2 (by omega) (by omega)).1 ?_
        refine mj_iload_n hJ dX8_set_49 rfl ?_
        refine mj_iload_n hJ dX8_set_50 rfl ?_
        refine mk_iast hJ dX8_set_51 (gr_2 (b := true) (by omega) (by omega)).2 (by omega) (by omega) ?_
        refine mj_iload hJ dX8_set_52 rfl ?_
        refine hR _ _ _ _ _ dX8_set_54 nar_i ⟨rfl, ?_, fun c hc => upI_ne (by omega)⟩
        have ge : ∀ i, upI N 112 (10 + 18 * v + w) n 112 i = if i = 10 + 18 * v + w then n else N 112 i := fun i => upI_at
        refine h.now (fun c hc => upI_ne (by omega)) (fun c hc => upI_ne hc) ?_ ?_ ?_ ?_ ?_
        · refine WN_up hw ge (by omega) (fun u k u0 u1 k0 k1 e => ?_) (fun q => by omega)
          have ek : k = w := by omega
          subst ek
          refine ⟨fun q => ?_, fun q => ?_, fun q => ?_, fun q => ?_, fun q => ?_, fun q => ?_, fun q1 q2 => by omega⟩ <;> subst q <;> simp at h3 <;> omega
        · rw [upI_at, if_neg (by omega)]
        · rw [upI_at, if_neg (by omega)]
        · intro j hj; rw [upI_at, if_neg (by omega)]
        · exact LN_fact hw hl h1.1 h1.2 h2.1 h2.2 ge
      · rw [if_neg h3]
        refine mj_if_ne (tgt := 27) hJ dX8_set_22 (by decide) (fun hyes => absurd (by decide) hyes) (fun _ => ?_)
        exact bad (fun q => h3 q.2.2)
    · rw [if_neg h2]
      refine mj_if_eq (tgt := 25) hJ dX8_set_14 (by decide) (fun _ => ?_) (fun hno => absurd rfl hno)
      exact bad (fun q => h2 q.2.1)
  · rw [if_neg h1]
    refine mj_if_eq (tgt := 25) hJ dX8_set_5 (by decide) (fun _ => ?_) (fun hno => absurd rfl hno)
    exact bad (fun q => h1 q.1)
theorem c_year (h : RX I N T) (w : Int) : MtI G yX8_year cX8_year 2 (some .int) 2 [vr 0, vi w] I b (Xg I (F_year N w) (G_year N w) T) := by
  refine mt_enterI (own := RX8) (ls0 := [vr 0, vi w]) rfl (by decide +kernel) (Nat.le_of_ble_eq_true rfl) rfl rfl (fun J hJ hR => ?_)
  have hw := h.1.1
  have hl := h.2.1.1
  have hn := hw.nv
  have hy := hw.ny
  unfold F_year G_year at hR
  refine mj_iload_n hJ dX8_year_0 rfl ?_
  refine mk_Sp1 hJ dX8_year_1 cw_X8_132 rfl (Nat.le_of_ble_eq_true rfl) (by first | decide | omega) (c_isWet w) ?_
  by_cases h1 : 0 ≤ w ∧ w ≤ 20
  · rw [if_pos h1] at hR ⊢
    refine mj_if_ne (tgt := 9) hJ dX8_year_4 (by decide) (fun _ => ?_) (fun hno => absurd hno (by decide))
    refine mj_aload_n hJ dX8_year_9 rfl ?_
    refine mk_getR hJ dX8_year_10 fw_X8_12 rfl (by decide) rfl rfl ?_
    refine mk_getI (j' := 3) hJ dX8_year_13 fw_X8_185 rfl (by decide) rfl rfl ?_
    rw [hl.1.2.1]
    refine mj_bipush hJ dX8_year_16 (by decide) ?_
    refine mj_icmp_ne (tgt := 24) hJ dX8_year_18 (by decide) (fun h6 => ?_) (fun h6 => ?_)
    · rw [if_neg h6, if_pos ⟨h1, h6⟩] at hR
      refine mj_aload_n hJ dX8_year_24 rfl ?_
      refine mk_getR hJ dX8_year_25 fw_X8_12 rfl (by decide) rfl rfl ?_
      refine mk_getR hJ dX8_year_28 fw_X8_188 rfl (by decide) rfl rfl ?_
      refine mj_aload_n hJ dX8_year_31 rfl ?_
      refine mk_getR hJ dX8_year_32 fw_X8_12 rfl (by decide) rfl rfl ?_
      refine mk_getI (j' := 3) hJ dX8_year_35 fw_X8_185 rfl (by decide) rfl rfl ?_
      rw [hl.1.2.1]
      refine mj_iload_n hJ dX8_year_38 rfl ?_
      refine mk_iast hJ dX8_year_39 rfl (by omega) (by omega) ?_
      refine mj_aload_n hJ dX8_year_40 rfl ?_
      refine mk_getR hJ dX8_year_41 fw_X8_12 rfl (by decide) rfl rfl ?_
      refine mj_dupr hJ dX8_year_44 ?_
      refine mk_getI (j' := 3) hJ dX8_year_45 fw_X8_185 rfl (by decide) rfl rfl ?_
      rw [upI_ne (by decide), hl.1.2.1]
      refine mj_iconst hJ dX8_year_48 (by decide) ?_
      first | refine ms_iadd hJ dX8_year_49 (by omega) ?_ | refine mj_iadd hJ dX8_year_49 ?_
      refine mk_putI (j' := 3) hJ dX8_year_50 fw_X8_185 rfl (by decide) rfl rfl ?_
      refine mj_aload_n hJ dX8_year_53 rfl ?_
      refine mk_getR hJ dX8_year_54 fw_X8_12 rfl (by decide) rfl rfl ?_
      refine mk_getI (j' := 3) hJ dX8_year_57 fw_X8_185 rfl (by decide) rfl rfl ?_
      rw [upI_at, if_pos rfl]
      refine mj_iconst hJ dX8_year_60 (by decide) ?_
      first | refine ms_isub hJ dX8_year_61 (by omega) ?_ | refine mj_isub hJ dX8_year_61 ?_
      obtain ⟨g, hg⟩ : ∃ g, upI (upI N 112 (118 + N 112 1) w) 112 1 (N 112 1 + 1) 112 = g := ⟨_, rfl⟩
      have ge : ∀ j, g j = if j = 1 then N 112 1 + 1 else if j = 118 + N 112 1 then w else N 112 j := fun j => by rw [← hg, upI_at, upI_at]
      refine hR _ _ _ _ _ dX8_year_62 nar_i ⟨by omega, ?_, fun c hc => by rw [upI_ne (by omega), upI_ne (by omega)]⟩
      refine h.now (fun c hc => by rw [upI_ne (by omega), upI_ne (by omega)]) (fun c hc => by rw [upI_ne hc, upI_ne hc]) ?_ ?_ ?_ ?_ ?_
      · rw [hg]
        have go : ∀ j, j ≠ 1 → j ≠ 118 + N 112 1 → g j = N 112 j := fun j j1 j2 => by rw [ge, if_neg j1, if_neg j2]
        refine ⟨by rw [go 0 (by decide) (by omega)]; exact hw.1, by rw [ge, if_pos rfl]; omega, by rw [go 2 (by decide) (by omega)]; exact hw.2.2.1, by rw [go 3 (by decide) (by omega)]; exact hw.2.2.2.1, by rw [go 4 (by decide) (by omega), go 5 (by decide) (by omega), go 0 (by decide) (by omega)]; exact hw.dm, fun v v0 v1 => ?_, fun v k v0 v1 k0 k1 => ?_, fun y y0 y1 => ?_⟩
        · rw [go _ (by omega) (by omega), go _ (by omega) (by omega), go _ (by omega) (by omega), go _ (by omega) (by omega), go _ (by omega) (by omega), go _ (by omega) (by omega)]; exact hw.fact v0 v1
        · rw [go _ (by omega) (by omega)]; exact hw.worth v0 v1 k0 k1
        · rw [ge, if_neg (by omega)]
          by_cases e : 118 + y = 118 + N 112 1
          · rw [if_pos e]; exact h1
          · rw [if_neg e]; exact hw.wet y0 y1
      · rw [hg, ge, if_neg (by decide), if_neg (by omega)]
      · rw [hg, ge, if_neg (by decide), if_neg (by omega)]
      · intro j hj; rw [hg, ge, if_neg (by omega), if_neg (by omega)]
      · rw [hg]
        refine ⟨⟨?_, ?_, ?_, ?_⟩, fun u k u0 u1 k0 k1 => ?_, fun u m u0 u1 m0 m1 => ?_, fun y y0 y1 => ?_⟩
        · rw [upI_at, if_neg (by decide), upI_ne (by decide), ge, if_neg (by decide), if_neg (by omega)]; exact hl.1.1
        · rw [upI_at, if_pos rfl, ge, if_pos rfl]
        · rw [upI_at, if_neg (by decide), upI_ne (by decide), ge, if_neg (by decide), if_neg (by omega)]; exact hl.1.2.2.1
        · rw [upI_at, if_neg (by decide), upI_ne (by decide), ge, if_neg (by decide), if_neg (by omega)]; exact hl.1.2.2.2
        · rw [ge, if_neg (by decide), if_neg (by omega)] at u1
          rw [upI_ne (by omega), upI_ne (by omega), ge, if_neg (by omega), if_neg (by omega)]
          exact hl.fact u0 u1 k0 k1
        · rw [ge, if_neg (by decide), if_neg (by omega)] at u1
          rw [upI_ne (by omega), upI_ne (by omega), fst_congr (f := N 112) m.toNat (fun k k0 k1 => by rw [ge, if_neg (by omega), if_neg (by omega)])]
          exact hl.tog u0 u1 m0 m1
        · rw [ge, if_pos rfl] at y1
          rw [upI_ne (by decide), upI_at, ge, if_neg (show ¬(118 + y = 1) by omega)]
          by_cases e : y = N 112 1
          · rw [if_pos e, if_pos (by omega)]
          · rw [if_neg e, if_neg (by omega)]
            exact hl.2.2.2 y y0 (by omega)
    · rw [if_pos h6, if_neg (fun q => q.2 h6)] at hR
      refine mj_bipush hJ dX8_year_21 (by decide) ?_
      exact hR _ _ _ _ _ dX8_year_23 nar_i h.refl
  · rw [if_neg h1, if_neg (fun q => h1 q.1)] at hR
    rw [if_neg h1]
    refine mj_if_ne (tgt := 9) hJ dX8_year_4 (by decide) (fun hyes => absurd (by decide) hyes) (fun _ => ?_)
    refine mj_iconst hJ dX8_year_7 (by decide) ?_
    exact hR _ _ _ _ _ dX8_year_8 nar_i h.refl
theorem c_yearOf (h : RX I N T) (y w : Int) : MtI G yX8_yearOf cX8_yearOf 4 (some .int) 2 [vr 0, vi y, vi w] I b (Xg I (F_yearOf N y w) (G_yearOf N y w) T) := by
  refine mt_enterI (own := RX8) (ls0 := [vr 0, vi y, vi w, vu]) rfl (by decide +kernel) (Nat.le_of_ble_eq_true rfl) rfl rfl (fun J hJ hR => ?_)
  have hw := h.1.1
  have hl := h.2.1.1
  have hn := hw.nv
  have hy := hw.ny
  have e0 := hl.1.2.1
  unfold F_yearOf G_yearOf at hR
  have bad : ¬yofP N y w → J 15 [vr 0, vi y, vi w, vu] [] (mk I b) := by
    intro q
    rw [if_neg q, if_neg q] at hR
    refine mj_iconst hJ dX8_yearOf_15 (by decide) ?_
    exact hR _ _ _ _ _ dX8_yearOf_16 nar_i h.refl
  refine mj_aload_n hJ dX8_yearOf_0 rfl ?_
  refine mj_iload_n hJ dX8_yearOf_1 rfl ?_
  refine mk_Vp1 hJ dX8_yearOf_2 cw_X8_191 rfl rfl rfl rfl (Nat.le_of_ble_eq_true rfl) (by first | decide | omega) (c_isYear y (by rw [e0]; exact hy.1) (by rw [e0]; exact hy.2)) ?_
  rw [e0]
  by_cases h1 : 0 ≤ y ∧ y < N 112 1
  · rw [if_pos h1]
    refine mj_if_eq (tgt := 15) hJ dX8_yearOf_5 (by decide) (fun hyes => absurd hyes (by decide)) (fun _ => ?_)
    refine mj_iload_n hJ dX8_yearOf_8 rfl ?_
    refine mk_Sp1 hJ dX8_yearOf_9 cw_X8_132 rfl (Nat.le_of_ble_eq_true rfl) (by first | decide | omega) (c_isWet w) ?_
    by_cases h2 : 0 ≤ w ∧ w ≤ 20
    · rw [if_pos h2]
      have hP : yofP N y w := ⟨h1, h2⟩
      rw [if_pos hP, if_pos hP] at hR
      refine mj_if_ne (tgt := 17) hJ dX8_yearOf_12 (by decide) (fun _ => ?_) (fun hno => absurd hno (by decide))
      refine mj_aload_n hJ dX8_yearOf_17 rfl ?_
      refine mk_getR hJ dX8_yearOf_18 fw_X8_12 rfl (by decide) rfl rfl ?_
      refine mk_getR hJ dX8_yearOf_21 fw_X8_188 rfl (by decide) rfl rfl ?_
      refine mj_iload_n hJ dX8_yearOf_24 rfl ?_
      refine mk_iald hJ dX8_yearOf_25 rfl (by omega) (by omega) ?_
      rw [hl.2.2.2 y h1.1 h1.2]
      refine ms_istore_n (ls' := [_, _, _, _]) hJ dX8_yearOf_26 (by decide) rfl rfl ?_
      refine mj_aload_n hJ dX8_yearOf_27 rfl ?_
      refine mk_getR hJ dX8_yearOf_28 fw_X8_12 rfl (by decide) rfl rfl ?_
      refine mk_getR hJ dX8_yearOf_31 fw_X8_188 rfl (by decide) rfl rfl ?_
      refine mj_iload_n hJ dX8_yearOf_34 rfl ?_
      refine mj_iload_n hJ dX8_yearOf_35 rfl ?_
      refine mk_iast hJ dX8_yearOf_36 rfl (by omega) (by omega) ?_
      refine mj_iload_n hJ dX8_yearOf_37 rfl ?_
      refine hR _ _ _ _ _ dX8_yearOf_38 nar_i ⟨rfl, ?_, fun c hc => upI_ne (by omega)⟩
      have ge : ∀ i, upI N 112 (118 + y) w 112 i = if i = 118 + y then w else N 112 i := fun i => upI_at
      have go : ∀ i, i ≠ 118 + y → upI N 112 (118 + y) w 112 i = N 112 i := fun i hi => by rw [ge, if_neg hi]
      refine h.now (fun c hc => upI_ne (by omega)) (fun c hc => upI_ne hc) ?_ ?_ ?_ ?_ ?_
      · exact WN_up hw ge (by omega) (fun u k u0 u1 k0 k1 e => by omega) (fun _ => h2)
      · rw [upI_at, if_neg (by omega)]
      · rw [upI_at, if_neg (by omega)]
      · intro j hj; rw [upI_at, if_neg (by omega)]
      · refine ⟨?_, fun u k u0 u1 k0 k1 => ?_, fun u m u0 u1 m0 m1 => ?_, fun x y0 y1 => ?_⟩
        · rw [upI_ne (by decide), go 0 (by omega), go 1 (by omega), go 4 (by omega), go 5 (by omega)]; exact hl.1
        · rw [go 0 (by omega)] at u1
          rw [upI_ne (by omega), go _ (by omega)]
          exact hl.fact u0 u1 k0 k1
        · rw [go 0 (by omega)] at u1
          rw [upI_ne (by omega), fst_congr (f := N 112) m.toNat (fun k k0 k1 => go _ (by omega))]
          exact hl.tog u0 u1 m0 m1
        · rw [go 1 (by omega)] at y1
          rw [upI_at, ge]
          by_cases e : x = y
          · rw [if_pos e, if_pos (by omega)]
          · rw [if_neg e, if_neg (by omega)]
            exact hl.2.2.2 x y0 y1
    · rw [if_neg h2]
      refine mj_if_ne (tgt := 17) hJ dX8_yearOf_12 (by decide) (fun hyes => absurd (by decide) hyes) (fun _ => ?_)
      exact bad (fun q => h2 q.2)
  · rw [if_neg h1]
    refine mj_if_eq (tgt := 15) hJ dX8_yearOf_5 (by decide) (fun _ => ?_) (fun hno => absurd rfl hno)
    exact bad (fun q => h1 q.1)
theorem c_dam (h : RX I N T) (v w : Int) : MtI G yX8_dam cX8_dam 3 (some .int) 2 [vr 0, vi v, vi w] I b (Xg I (F_dam N v w) (G_dam N v w) T) := by
  refine mt_enterI (own := RX8) (ls0 := [vr 0, vi v, vi w]) rfl (by decide +kernel) (Nat.le_of_ble_eq_true rfl) rfl rfl (fun J hJ hR => ?_)
  have hw := h.1.1
  have hl := h.2.1.1
  have hn := hw.nv
  have hy := hw.ny
  have e0 := hl.1.1
  unfold F_dam G_dam at hR
  have bad : ¬damP N v w → J 22 [vr 0, vi v, vi w] [] (mk I b) := by
    intro q
    rw [if_neg q, if_neg q] at hR
    refine mj_iconst hJ dX8_dam_22 (by decide) ?_
    exact hR _ _ _ _ _ dX8_dam_23 nar_i h.refl
  have K13 : (v = -1 ∨ (0 ≤ v ∧ v < N 112 0)) → J 13 [vr 0, vi v, vi w] [] (mk I b) := by
    intro h1
    refine mj_iload_n hJ dX8_dam_13 rfl ?_
    refine mj_iconst hJ dX8_dam_14 (by decide) ?_
    refine mj_iconst hJ dX8_dam_15 (by decide) ?_
    refine mk_Sp3 hJ dX8_dam_16 cw_X8_105 rfl (Nat.le_of_ble_eq_true rfl) (by first | decide | omega) (c_within w 0 4) ?_
    by_cases h2 : 0 ≤ w ∧ w ≤ 4
    · rw [if_pos h2]
      have hP : damP N v w := ⟨h1, h2⟩
      rw [if_pos hP, if_pos hP] at hR
      refine mj_if_ne (tgt := 24) hJ dX8_dam_19 (by decide) (fun _ => ?_) (fun hno => absurd hno (by decide))
      refine mj_aload_n hJ dX8_dam_24 rfl ?_
      refine mk_getR hJ dX8_dam_25 fw_X8_12 rfl (by decide) rfl rfl ?_
      refine mj_iload_n hJ dX8_dam_28 rfl ?_
      refine mk_putI (j' := 5) hJ dX8_dam_29 fw_X8_194 rfl (by decide) rfl rfl ?_
      refine mj_aload_n hJ dX8_dam_32 rfl ?_
      refine mk_getR hJ dX8_dam_33 fw_X8_12 rfl (by decide) rfl rfl ?_
      refine mj_iload_n hJ dX8_dam_36 rfl ?_
      refine mk_putI (j' := 6) hJ dX8_dam_37 fw_X8_197 rfl (by decide) rfl rfl ?_
      refine mj_iconst hJ dX8_dam_40 (by decide) ?_
      obtain ⟨g, hg⟩ : ∃ g, upI (upI N 112 4 v) 112 5 w 112 = g := ⟨_, rfl⟩
      have ge : ∀ j, g j = if j = 5 then w else if j = 4 then v else N 112 j := fun j => by rw [← hg, upI_at, upI_at]
      have go : ∀ j, j ≠ 4 → j ≠ 5 → g j = N 112 j := fun j j4 j5 => by rw [ge, if_neg j5, if_neg j4]
      refine hR _ _ _ _ _ dX8_dam_41 nar_i ⟨rfl, ?_, fun c hc => by rw [upI_ne (by omega), upI_ne (by omega)]⟩
      refine h.now (fun c hc => by rw [upI_ne (by omega), upI_ne (by omega)]) (fun c hc => by rw [upI_ne hc, upI_ne hc]) ?_ ?_ ?_ ?_ ?_
      · rw [hg]
        refine ⟨by rw [go 0 (by decide) (by decide)]; exact hw.1, by rw [go 1 (by decide) (by decide)]; exact hw.2.1, by rw [go 2 (by decide) (by decide)]; exact hw.2.2.1, by rw [go 3 (by decide) (by decide)]; exact hw.2.2.2.1, ?_, fun u u0 u1 => ?_, fun u k u0 u1 k0 k1 => ?_, fun y y0 y1 => ?_⟩
        · rw [ge 4, if_neg (by decide), if_pos rfl, ge 5, if_pos rfl, go 0 (by decide) (by decide)]
          omega
        · rw [go _ (by omega) (by omega), go _ (by omega) (by omega), go _ (by omega) (by omega), go _ (by omega) (by omega), go _ (by omega) (by omega), go _ (by omega) (by omega)]; exact hw.fact u0 u1
        · rw [go _ (by omega) (by omega)]; exact hw.worth u0 u1 k0 k1
        · rw [go _ (by omega) (by omega)]; exact hw.wet y0 y1
      · rw [hg, go _ (by decide) (by decide)]
      · rw [hg, go _ (by decide) (by decide)]
      · intro j hj; rw [hg, go _ (by omega) (by omega)]
      · rw [hg]
        refine ⟨⟨?_, ?_, ?_, ?_⟩, fun u k u0 u1 k0 k1 => ?_, fun u m u0 u1 m0 m1 => ?_, fun x y0 y1 => ?_⟩
        · rw [upI_at, if_neg (by decide), upI_at, if_neg (by decide), go 0 (by decide) (by decide)]; exact hl.1.1
        · rw [upI_at, if_neg (by decide), upI_at, if_neg (by decide), go 1 (by decide) (by decide)]; exact hl.1.2.1
        · rw [upI_at, if_neg (by decide), upI_at, if_pos rfl, ge, if_neg (by decide), if_pos rfl]
        · rw [upI_at, if_pos rfl, ge, if_pos rfl]
        · rw [go 0 (by decide) (by decide)] at u1
          rw [upI_ne (by omega), upI_ne (by omega), go _ (by omega) (by omega)]
          exact hl.fact u0 u1 k0 k1
        · rw [go 0 (by decide) (by decide)] at u1
          rw [upI_ne (by omega), upI_ne (by omega), fst_congr (f := N 112) m.toNat (fun k k0 k1 => go _ (by omega) (by omega))]
          exact hl.tog u0 u1 m0 m1
        · rw [go 1 (by decide) (by decide)] at y1
          rw [upI_ne (by decide), upI_ne (by decide), go _ (by omega) (by omega)]
          exact hl.2.2.2 x y0 y1
    · rw [if_neg h2]
      refine mj_if_ne (tgt := 24) hJ dX8_dam_19 (by decide) (fun hyes => absurd (by decide) hyes) (fun _ => ?_)
      exact bad (fun q => h2 q.2)
  refine mj_iload_n hJ dX8_dam_0 rfl ?_
  refine mj_iconst hJ dX8_dam_1 (by decide) ?_
  refine mj_icmp_eq (tgt := 13) hJ dX8_dam_2 (by decide) (fun h1 => ?_) (fun h1 => ?_)
  · exact K13 (Or.inl h1)
  · refine mj_aload_n hJ dX8_dam_5 rfl ?_
    refine mj_iload_n hJ dX8_dam_6 rfl ?_
    refine mk_Vp1 hJ dX8_dam_7 cw_X8_101 rfl rfl rfl rfl (Nat.le_of_ble_eq_true rfl) (by first | decide | omega) (c_isVillage v (by rw [e0]; exact hn.1) (by rw [e0]; exact hn.2)) ?_
    rw [e0]
    by_cases h2 : 0 ≤ v ∧ v < N 112 0
    · rw [if_pos h2]
      refine mj_if_eq (tgt := 22) hJ dX8_dam_10 (by decide) (fun hyes => absurd hyes (by decide)) (fun _ => ?_)
      exact K13 (Or.inr h2)
    · rw [if_neg h2]
      refine mj_if_eq (tgt := 22) hJ dX8_dam_10 (by decide) (fun _ => ?_) (fun hno => absurd rfl hno)
      exact bad (fun q => by rcases q.1 with a | a; exact h1 a; exact h2 a)
end C9
