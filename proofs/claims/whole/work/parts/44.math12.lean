/-! the parse: how far it comes, what it gives -/
theorem pval_lt {g : Int → Int} {n p x : Int} (hp : p ≤ n) (h : pval g n p = some x) : p < n ∧ 0 ≤ x ∧ x ≤ 1002 := by
  unfold pval at h
  by_cases c1 : wdp g n p [119, 101, 116]
  · rw [if_pos c1] at h
    have e := Option.some.inj h
    exact ⟨wdp_lt c1 (by decide) hp, by omega, by omega⟩
  · rw [if_neg c1] at h
    by_cases c2 : wdp g n p [99, 111, 109, 101, 115]
    · rw [if_pos c2] at h
      have e := Option.some.inj h
      exact ⟨wdp_lt c2 (by decide) hp, by omega, by omega⟩
    · rw [if_neg c2] at h
      by_cases c3 : wdp g n p [102, 108, 111, 119]
      · rw [if_pos c3] at h
        have e := Option.some.inj h
        exact ⟨wdp_lt c3 (by decide) hp, by omega, by omega⟩
      · rw [if_neg c3] at h
        by_cases c4 : isn g n p
        · rw [if_pos c4] at h
          have e := Option.some.inj h
          have a := nv_le c4
          have b : 0 ≤ nv g n p := by
            have tb := tend_bd (g := g) hp
            exact nmv_bd _ p 0 (fun j x y => tend_dg c4.1 x (by omega)) (by omega)
          exact ⟨c4.1.1, by omega, by omega⟩
        · rw [if_neg c4] at h
          cases h
theorem psg_lt {g : Int → Int} {n p x : Int} (hp : p ≤ n) (h : psg g n p = some x) : p < n ∧ 0 ≤ x ∧ x ≤ 2 := by
  unfold psg at h
  by_cases c1 : wdp g n p [60]
  · rw [if_pos c1] at h
    have e := Option.some.inj h
    exact ⟨wdp_lt c1 (by decide) hp, by omega, by omega⟩
  · rw [if_neg c1] at h
    by_cases c2 : wdp g n p [61]
    · rw [if_pos c2] at h
      have e := Option.some.inj h
      exact ⟨wdp_lt c2 (by decide) hp, by omega, by omega⟩
    · rw [if_neg c2] at h
      by_cases c3 : wdp g n p [62]
      · rw [if_pos c3] at h
        have e := Option.some.inj h
        exact ⟨wdp_lt c3 (by decide) hp, by omega, by omega⟩
      · rw [if_neg c3] at h
        cases h
/-- a right part of the parse from p on: each code is owed to a place of its own -/
def Far (n p : Int) (r : PR) : Prop := (p ≤ r.2.1 ∧ r.2.1 ≤ n) ∧ (r.1 = true → p + ((codo r.2.2).length : Int) ≤ r.2.1)
theorem pcmp_far {g : Int → Int} {n p : Int} (hp : p ≤ n) : Far n p (pcmp g n p) := by
  have b1 := nxp_bd (g := g) hp
  have b2 := nxp_bd (g := g) b1.2.1
  have b3 := nxp_bd (g := g) b2.2.1
  unfold pcmp
  cases h1 : pval g n p with
  | none => exact ⟨⟨Int.le_refl _, hp⟩, fun q => Bool.noConfusion q⟩
  | some l =>
    simp only []
    cases h2 : psg g n (nxp g n p) with
    | none => exact ⟨⟨b1.1, b1.2.1⟩, fun q => Bool.noConfusion q⟩
    | some s =>
      simp only []
      cases h3 : pval g n (nxp g n (nxp g n p)) with
      | none => exact ⟨⟨Int.le_trans b1.1 b2.1, b2.2.1⟩, fun q => Bool.noConfusion q⟩
      | some r =>
        have l1 := pval_lt hp h1
        have l2 := psg_lt b1.2.1 h2
        have l3 := pval_lt b2.2.1 h3
        refine ⟨⟨Int.le_trans b1.1 (Int.le_trans b2.1 b3.1), b3.2.1⟩, fun _ => ?_⟩
        have e : ((codo [(l, s, r)]).length : Int) = 3 := by
          show ((cods (l, s, r) ++ []).length : Int) = 3
          unfold cods
          rw [if_pos l2.2.1]
          rfl
        show p + ((codo [(l, s, r)]).length : Int) ≤ nxp g n (nxp g n (nxp g n p))
        rw [e]
        omega
theorem codo_append (L' : List St) : ∀ L : List St, codo (L ++ L') = codo L ++ codo L'
  | [] => rfl
  | t :: L => by
    show cods t ++ codo (L ++ L') = (cods t ++ codo L) ++ codo L'
    rw [codo_append L' L, List.append_assoc]
theorem codo_one (s : Int) (h : s < 0) : (codo [(0, s, 0)]).length = 1 := by
  show (cods (0, s, 0) ++ []).length = 1
  unfold cods
  rw [if_neg (by show ¬(0 ≤ s); omega)]
  rfl
theorem pnot_far {g : Int → Int} {n : Int} : ∀ (m : Nat) (p : Int) (t : Bool), p ≤ n → (p ≤ (pnot g n m p t).2 ∧ (pnot g n m p t).2 ≤ n) ∧ ((pnot g n m p t).1 ≠ t → p < (pnot g n m p t).2)
  | 0, p, t, h => ⟨⟨Int.le_refl _, h⟩, fun q => absurd rfl q⟩
  | m + 1, p, t, h => by
    have e : pnot g n (m + 1) p t = if wdp g n p [110, 111, 116] then pnot g n m (nxp g n p) (!t) else (t, p) := rfl
    rw [e]
    by_cases c : wdp g n p [110, 111, 116]
    · rw [if_pos c]
      have nb := nxp_bd (g := g) h
      have lt := nb.2.2 (wdp_lt c (by decide) h)
      have ih := pnot_far (g := g) m (nxp g n p) (!t) nb.2.1
      exact ⟨⟨by omega, ih.1.2⟩, fun _ => by omega⟩
    · rw [if_neg c]
      exact ⟨⟨Int.le_refl _, h⟩, fun q => absurd rfl q⟩
theorem pone_far {g : Int → Int} {n p : Int} {po : Int → PR} (hpo : ∀ q, q ≤ n → Far n q (po q)) (hp : p ≤ n) : Far n p (pone g n po p) := by
  have hn := pnot_far (g := g) (n - p).toNat p false hp
  unfold pone
  generalize pnot g n (n - p).toNat p false = tq at hn
  have hr : Far n tq.2 (if wdp g n tq.2 [40] then po tq.2 else pcmp g n tq.2) := by
    by_cases c : wdp g n tq.2 [40]
    · rw [if_pos c]; exact hpo _ hn.1.2
    · rw [if_neg c]; exact pcmp_far hn.1.2
  generalize (if wdp g n tq.2 [40] then po tq.2 else pcmp g n tq.2) = r at hr
  have h1 := hr.1
  by_cases c : r.1 = true
  · rw [if_pos c]
    have h2 := hr.2 c
    refine ⟨⟨by show p ≤ r.2.1; omega, h1.2⟩, fun _ => ?_⟩
    show p + ((codo (r.2.2 ++ (if tq.1 = true then [(0, -1, 0)] else []))).length : Int) ≤ r.2.1
    rw [codo_append, List.length_append]
    by_cases t : tq.1 = true
    · rw [if_pos t, codo_one (-1) (by decide)]
      have := hn.2 (by rw [t]; decide)
      omega
    · rw [if_neg t]
      have : (codo []).length = 0 := rfl
      omega
  · rw [if_neg c]
    exact ⟨⟨by omega, h1.2⟩, fun q => absurd q c⟩
theorem far_step {n p q : Int} {r r2 : PR} {s : Int} (hs : s < 0) (h : Far n p r) (hr : r.1 = true) (hq : r.2.1 < q) (h2 : Far n q r2) : Far n p (r2.1, r2.2.1, r.2.2 ++ (r2.2.2 ++ [(0, s, 0)])) := by
  have a := h.1
  have b := h.2 hr
  have c := h2.1
  refine ⟨⟨by show p ≤ r2.2.1; omega, c.2⟩, fun e => ?_⟩
  have d := h2.2 e
  show p + ((codo (r.2.2 ++ (r2.2.2 ++ [(0, s, 0)]))).length : Int) ≤ r2.2.1
  rw [codo_append, codo_append, List.length_append, List.length_append, codo_one s hs]
  omega
theorem palL_far {g : Int → Int} {n p : Int} {po : Int → PR} (hpo : ∀ q, q ≤ n → Far n q (po q)) : ∀ (m : Nat) (r : PR), Far n p r → Far n p (palL g n po m r)
  | 0, _, h => h
  | m + 1, r, h => by
    have e : palL g n po (m + 1) r = if r.1 = true ∧ wdp g n r.2.1 [97, 110, 100] then palL g n po m ((pone g n po (nxp g n r.2.1)).1, (pone g n po (nxp g n r.2.1)).2.1, r.2.2 ++ ((pone g n po (nxp g n r.2.1)).2.2 ++ [(0, -2, 0)])) else r := rfl
    rw [e]
    by_cases c : r.1 = true ∧ wdp g n r.2.1 [97, 110, 100]
    · rw [if_pos c]
      have nb := nxp_bd (g := g) h.1.2
      exact palL_far hpo m _ (far_step (by decide) h c.1 (nb.2.2 (wdp_lt c.2 (by decide) h.1.2)) (pone_far hpo nb.2.1))
    · rw [if_neg c]; exact h
theorem pall_far {g : Int → Int} {n p : Int} {po : Int → PR} (hpo : ∀ q, q ≤ n → Far n q (po q)) (hp : p ≤ n) : Far n p (pall g n po p) := palL_far hpo _ _ (pone_far hpo hp)
theorem pcoL_far {g : Int → Int} {n p : Int} {po : Int → PR} (hpo : ∀ q, q ≤ n → Far n q (po q)) : ∀ (m : Nat) (r : PR), Far n p r → Far n p (pcoL g n po m r)
  | 0, _, h => h
  | m + 1, r, h => by
    have e : pcoL g n po (m + 1) r = if r.1 = true ∧ wdp g n r.2.1 [111, 114] then pcoL g n po m ((pall g n po (nxp g n r.2.1)).1, (pall g n po (nxp g n r.2.1)).2.1, r.2.2 ++ ((pall g n po (nxp g n r.2.1)).2.2 ++ [(0, -3, 0)])) else r := rfl
    rw [e]
    by_cases c : r.1 = true ∧ wdp g n r.2.1 [111, 114]
    · rw [if_pos c]
      have nb := nxp_bd (g := g) h.1.2
      exact pcoL_far hpo m _ (far_step (by decide) h c.1 (nb.2.2 (wdp_lt c.2 (by decide) h.1.2)) (pall_far hpo nb.2.1))
    · rw [if_neg c]; exact h
theorem pcon_far {g : Int → Int} {n p : Int} {po : Int → PR} (hpo : ∀ q, q ≤ n → Far n q (po q)) (hp : p ≤ n) : Far n p (pcon g n po p) := pcoL_far hpo _ _ (pall_far hpo hp)
theorem popen_far {g : Int → Int} {n : Int} : ∀ (lv : Nat) (p : Int), p ≤ n → Far n p (popen g n lv p)
  | 0, p, hp => ⟨⟨Int.le_refl _, hp⟩, fun q => Bool.noConfusion q⟩
  | lv + 1, p, hp => by
    have nb := nxp_bd (g := g) hp
    have h := pcon_far (g := g) (po := popen g n lv) (fun q hq => popen_far lv q hq) nb.2.1
    have e : popen g n (lv + 1) p = if (pcon g n (popen g n lv) (nxp g n p)).1 = true then (if wdp g n (pcon g n (popen g n lv) (nxp g n p)).2.1 [41] then (true, nxp g n (pcon g n (popen g n lv) (nxp g n p)).2.1, (pcon g n (popen g n lv) (nxp g n p)).2.2) else (false, (pcon g n (popen g n lv) (nxp g n p)).2.1, (pcon g n (popen g n lv) (nxp g n p)).2.2)) else pcon g n (popen g n lv) (nxp g n p) := rfl
    rw [e]
    generalize pcon g n (popen g n lv) (nxp g n p) = r at h
    have h1 := h.1
    have nr := nxp_bd (g := g) h1.2
    by_cases c : r.1 = true
    · rw [if_pos c]
      have h2 := h.2 c
      by_cases d : wdp g n r.2.1 [41]
      · rw [if_pos d]
        exact ⟨⟨by show p ≤ nxp g n r.2.1; omega, nr.2.1⟩, fun _ => by show p + ((codo r.2.2).length : Int) ≤ nxp g n r.2.1; omega⟩
      · rw [if_neg d]
        exact ⟨⟨by show p ≤ r.2.1; omega, h1.2⟩, fun q => Bool.noConfusion q⟩
    · rw [if_neg c]
      exact ⟨⟨by omega, h1.2⟩, fun q => absurd q c⟩
/-- the count of brackets changes: the reader's state stays as told -/
theorem RD.brk {I I0 : Ints} {ft : Bool} {p : Int} {C : List Int} (x : Int) (h : RD I0 I ft p C) : RD (upI I0 111 21 x) (upI I 111 21 x) ft p C := by
  have e127 : upI I0 111 21 x 127 = I0 127 := upI_ne (by decide)
  have e17 : upI I0 111 21 x 111 17 = I0 111 17 := by rw [upI_at, if_neg (by decide)]
  unfold RD
  rw [e127, e17]
  refine ⟨⟨fun c c1 c2 => by rw [upI_ne c1, upI_ne c1]; exact h.1.1 c c1 c2, fun j j1 j2 j3 j4 => ?_⟩, ⟨by rw [upI_at, if_neg (by decide)]; exact h.2.1.1, by rw [upI_at, if_neg (by decide)]; exact h.2.1.2.1, by rw [upI_at, if_neg (by decide)]; exact h.2.1.2.2⟩, h.2.2.1, fun hf => ?_⟩
  · rw [upI_at, upI_at]
    by_cases e : j = 21
    · rw [if_pos e, if_pos e]
    · rw [if_neg e, if_neg e]
      exact h.1.2 j j1 j2 j3 j4
  · rw [upI_at, if_neg (by decide), upI_ne (by decide)]
    exact h.2.2.2 hf
