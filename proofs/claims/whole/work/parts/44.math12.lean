/-! the parse: how far it comes, what it gives -/
theorem pval_lt {g : Int → Int} {n p x : Int} (hp : p ≤ n) (h : pval g n p = some x) : p < n ∧ 0 ≤ x ∧ x ≤ 1002 := by
  unfold pval at h
  by_cases c1 : wdp g n p [119, 101, 116]
  · rw [if_pos c1] at h
    have e := Option.some.inj h
    exact ⟨wdp_lt c1 (by decide) hp, by omega, by omega⟩
  · rw [if_neg c1] at h
    by_cases c2 : wdp g n p [99, 111, 109, 101, 115]
    · rw [if_pos c2] at h
      have e := Option.some.inj h
      exact ⟨wdp_lt c2 (by decide) hp, by omega, by omega⟩
    · rw [if_neg c2] at h
      by_cases c3 : wdp g n p [102, 108, 111, 119]
      · rw [if_pos c3] at h
        have e := Option.some.inj h
        exact ⟨wdp_lt c3 (by decide) hp, by omega, by omega⟩
      · rw [if_neg c3] at h
        by_cases c4 : isn g n p
        · rw [if_pos c4] at h
          have e := Option.some.inj h
          have a := nv_le c4
          have b : 0 ≤ nv g n p := by
            have tb := tend_bd (g := g) hp
            exact nmv_bd _ p 0 (fun j x y => tend_dg c4.1 x (by omega)) (by omega)
          exact ⟨c4.1.1, by omega, by omega⟩
        · rw [if_neg c4] at h
          cases h
theorem psg_lt {g : Int → Int} {n p x : Int} (hp : p ≤ n) (h : psg g n p = some x) : p < n ∧ 0 ≤ x ∧ x ≤ 2 := by
  unfold psg at h
  by_cases c1 : wdp g n p [60]
  · rw [if_pos c1] at h
    have e := Option.some.inj h
    exact ⟨wdp_lt c1 (by decide) hp, by omega, by omega⟩
  · rw [if_neg c1] at h
    by_cases c2 : wdp g n p [61]
    · rw [if_pos c2] at h
      have e := Option.some.inj h
      exact ⟨wdp_lt c2 (by decide) hp, by omega, by omega⟩
    · rw [if_neg c2] at h
      by_cases c3 : wdp g n p [62]
      · rw [if_pos c3] at h
        have e := Option.some.inj h
        exact ⟨wdp_lt c3 (by decide) hp, by omega, by omega⟩
      · rw [if_neg c3] at h
        cases h
/-- a right part of the parse from p on: each code is owed to a place of its own -/
def Far (n p : Int) (r : PR) : Prop := (p ≤ r.2.1 ∧ r.2.1 ≤ n) ∧ (r.1 = true → p + ((codo r.2.2).length : Int) ≤ r.2.1)
theorem pcmp_far {g : Int → Int} {n p : Int} (hp : p ≤ n) : Far n p (pcmp g n p) := by
  have b1 := nxp_bd (g := g) hp
  have b2 := nxp_bd (g := g) b1.2.1
  have b3 := nxp_bd (g := g) b2.2.1
  unfold pcmp
  cases h1 : pval g n p with
  | none => exact ⟨⟨Int.le_refl _, hp⟩, fun q => Bool.noConfusion q⟩
  | some l =>
    simp only []
    cases h2 : psg g n (nxp g n p) with
    | none => exact ⟨⟨b1.1, b1.2.1⟩, fun q => Bool.noConfusion q⟩
    | some s =>
      simp only []
      cases h3 : pval g n (nxp g n (nxp g n p)) with
      | none => exact ⟨⟨Int.le_trans b1.1 b2.1, b2.2.1⟩, fun q => Bool.noConfusion q⟩
      | some r =>
        have l1 := pval_lt hp h1
        have l2 := psg_lt b1.2.1 h2
        have l3 := pval_lt b2.2.1 h3
        refine ⟨⟨Int.le_trans b1.1 (Int.le_trans b2.1 b3.1), b3.2.1⟩, fun _ => ?_⟩
        have e : ((codo [(l, s, r)]).length : Int) = 3 := by
          show ((cods (l, s, r) ++ []).length : Int) = 3
          unfold cods
          rw [if_pos l2.2.1]
          rfl
        show p + ((codo [(l, s, r)]).length : Int) ≤ nxp g n (nxp g n (nxp g n p))
        rw [e]
        omega
