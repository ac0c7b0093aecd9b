/-! both sides agree at the start -/
theorem vSI : nfI vST = fun a j => if (a = 112 ∧ j = 4) ∨ (a = 136 ∧ (j = 0 ∨ j = 1 ∨ j = 2 ∨ j = 3)) ∨ (a = 99 ∧ (j = 0 ∨ j = 1 ∨ j = 2 ∨ j = 3)) ∨ ((a = 103 ∨ a = 105 ∨ a = 107 ∨ a = 109) ∧ j = 0) ∨ ((a = 1 ∨ a = 22) ∧ j = 5) then -1 else 0 := by
  funext a j
  unfold nfI
  have hc : (a, j) ∈ vST ↔ ((a = 112 ∧ j = 4) ∨ (a = 136 ∧ (j = 0 ∨ j = 1 ∨ j = 2 ∨ j = 3)) ∨ (a = 99 ∧ (j = 0 ∨ j = 1 ∨ j = 2 ∨ j = 3)) ∨ ((a = 103 ∨ a = 105 ∨ a = 107 ∨ a = 109) ∧ j = 0) ∨ ((a = 1 ∨ a = 22) ∧ j = 5)) := by
    refine ⟨fun c => ?_, fun q => ?_⟩
    · simp only [vST, List.mem_cons, Prod.mk.injEq, List.not_mem_nil, or_false] at c
      rcases c with ⟨rfl, rfl⟩ | ⟨rfl, rfl⟩ | ⟨rfl, rfl⟩ | ⟨rfl, rfl⟩ | ⟨rfl, rfl⟩ | ⟨rfl, rfl⟩ | ⟨rfl, rfl⟩ | ⟨rfl, rfl⟩ | ⟨rfl, rfl⟩ | ⟨rfl, rfl⟩ | ⟨rfl, rfl⟩ | ⟨rfl, rfl⟩ | ⟨rfl, rfl⟩ | ⟨rfl, rfl⟩ | ⟨rfl, rfl⟩ <;> decide
    · rcases q with ⟨rfl, rfl⟩ | ⟨rfl, rfl | rfl | rfl | rfl⟩ | ⟨rfl, rfl | rfl | rfl | rfl⟩ | ⟨rfl | rfl | rfl | rfl, rfl⟩ | ⟨rfl | rfl, rfl⟩ <;> decide
  by_cases c : (a, j) ∈ vST
  · rw [if_pos c, if_pos (hc.1 c)]
  · rw [if_neg c, if_neg (fun q => c (hc.2 q))]
theorem nf_mk : nf [] vST 143 = mk (nfI vST) true := by
  refine Prod.ext rfl (Prod.ext ?_ ?_)
  · funext a j
    show (if 143 ≤ a ∨ (a, j) ∈ ([] : List (Nat × Int)) then none else RR true a j) = RR true a j
    by_cases c : 143 ≤ a
    · rw [if_pos (Or.inl c)]
      unfold RR
      rw [if_neg (by omega), if_neg (by omega)]
      by_cases c2 : j < 0
      · rw [if_pos c2]
      · rw [if_neg c2]
        have hl : RT.length = 143 := by decide +kernel
        have e : RT.getD a [] = [] := by
          rw [List.getD_eq_getElem?_getD, List.getElem?_eq_none (by omega)]
          rfl
        rw [e]
        rfl
    · rw [if_neg (fun q => q.elim c (fun z => by cases z))]
  · show S0.take 143 = S0
    exact List.take_of_length_le (by rw [S0_len]; exact Nat.le_refl _)
theorem rx_start : RX (nfI vST) (nfI vST) [] := by
  rw [vSI]
  refine ⟨⟨?_, ?_, ?_⟩, ⟨?_, ?_⟩, ?_, ?_, ?_, ?_, ?_, ?_⟩
  · refine ⟨by decide, by decide, by decide, by decide, by decide, fun v v0 v1 => ?_, fun v k v0 v1 k0 k1 => ?_, fun y y0 y1 => ?_⟩
    · simp only []
      refine ⟨?_, ?_, ?_, ?_, ?_, ?_⟩ <;> (rw [if_neg (by omega)]; decide)
    · simp only []
      rw [if_neg (by omega)]
      decide
    · simp only []
      rw [if_neg (by omega)]
      decide
  · refine ⟨by decide, fun s s0 s1 => ?_, by decide, by decide⟩
    simp only []
    have h : s = 0 ∨ s = 1 ∨ s = 2 ∨ s = 3 := by omega
    rcases h with rfl | rfl | rfl | rfl <;> decide
  · exact ⟨by decide, by decide, by decide, by decide⟩
  · refine ⟨⟨by decide, by decide, by decide, by decide⟩, fun v k v0 v1 => ?_, fun v n v0 v1 => ?_, fun y y0 y1 => ?_⟩
    · have v1 : v < 0 := v1; omega
    · have v1 : v < 0 := v1; omega
    · have y1 : y < 0 := y1; omega
  · exact ⟨⟨by decide, by decide⟩, trivial⟩
  · exact ⟨by decide, fun i k i0 i1 => by have i1 : i < 0 := i1; omega⟩
  · intro s s0 s1
    have h : s = 0 ∨ s = 1 ∨ s = 2 ∨ s = 3 := by omega
    rcases h with rfl | rfl | rfl | rfl
    · exact ⟨by decide, by decide, fun j j0 j1 => by simp only []; rw [if_neg (by show ¬((103 + 2 * 0 + 1 = 112 ∧ j = 4) ∨ _); omega), if_neg (by omega)]⟩
    · exact ⟨by decide, by decide, fun j j0 j1 => by simp only []; rw [if_neg (by omega), if_neg (by omega)]⟩
    · exact ⟨by decide, by decide, fun j j0 j1 => by simp only []; rw [if_neg (by omega), if_neg (by omega)]⟩
    · exact ⟨by decide, by decide, fun j j0 j1 => by simp only []; rw [if_neg (by omega), if_neg (by omega)]⟩
  · intro s s0 s1
    have h : s = 0 ∨ s = 1 ∨ s = 2 ∨ s = 3 := by omega
    rcases h with rfl | rfl | rfl | rfl <;> exact Or.inl ⟨by decide, by decide⟩
  · exact ⟨by decide, fun j j0 j1 => by have j1 : j < 0 := j1; omega⟩
  · exact ⟨by decide, fun j j0 j1 => by have j1 : j < 0 := j1; omega⟩
  · exact ⟨by decide, by decide, fun q => absurd q (by decide)⟩
