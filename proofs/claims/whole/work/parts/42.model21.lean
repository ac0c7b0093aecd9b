section M21
variable {G : GE} {I I0 : Ints} {b : Bool}
theorem mt_mono {y : MethodName} {cc : ByteArray} {maxL d : Nat} {ret : Option FieldType} {as : List Vl} {Q Q' : Option Vl → Ints → Bool → Prop} (h : Mt G y cc maxL ret d as I b Q) (hq : ∀ r I' b', Q r I' b' → Q' r I' b') : Mt G y cc maxL ret d as I b Q' := by
  intro α h1 h2 h3 h4 h5 h6 p e ha hc hk s m args below hf happ hP hK
  obtain ⟨n, o, k1, k2, k3, k4, k5⟩ := h α h1 h2 h3 h4 h5 h6 p e ha hc hk s m args below hf happ hP hK
  refine ⟨n, o, k1, k2, k3, ?_, k5⟩
  obtain ⟨⟨r, M', α', e1, ⟨I', b', e2, q⟩, rest⟩, fz⟩ := k4
  exact ⟨⟨r, M', α', e1, ⟨I', b', e2, hq r I' b' q⟩, rest⟩, fz⟩
theorem mtV_mono {y : MethodName} {cc : ByteArray} {maxL d : Nat} {as : List Vl} {Q Q' : Ints → Bool → Prop} (h : MtV G y cc maxL d as I b Q) (hq : ∀ I' b', Q I' b' → Q' I' b') : MtV G y cc maxL d as I b Q' := mt_mono h (fun _ I' b' q => ⟨q.1, hq I' b' q.2⟩)
theorem mtI_mono {y : MethodName} {cc : ByteArray} {maxL d : Nat} {ret : Option FieldType} {as : List Vl} {Q Q' : Int → Ints → Bool → Prop} (h : MtI G y cc maxL ret d as I b Q) (hq : ∀ z I' b', Q z I' b' → Q' z I' b') : MtI G y cc maxL ret d as I b Q' := mt_mono h (fun _ I' b' q => by
  obtain ⟨z, e, q⟩ := q
  exact ⟨z, e, hq z I' b' q⟩)
/-- the row f holds L from p on -/
def stc (f : Int → Int) : Int → List Int → Prop
  | _, [] => True
  | p, x :: L => f p = x ∧ stc f (p + 1) L
theorem stc_append {f : Int → Int} {L' : List Int} : ∀ (L : List Int) (p : Int), stc f p (L ++ L') ↔ stc f p L ∧ stc f (p + L.length) L'
  | [], p => by
    rw [show p + (([] : List Int).length : Int) = p by simp]
    exact ⟨fun h => ⟨trivial, h⟩, fun h => h.2⟩
  | x :: L, p => by
    have ih := stc_append (f := f) (L' := L') L (p + 1)
    have e : p + ((x :: L).length : Int) = p + 1 + (L.length : Int) := by rw [List.length_cons]; omega
    rw [e]
    show (f p = x ∧ stc f (p + 1) (L ++ L')) ↔ (f p = x ∧ stc f (p + 1) L) ∧ stc f (p + 1 + L.length) L'
    rw [ih, and_assoc]
theorem stc_congr {f f' : Int → Int} : ∀ (L : List Int) (p : Int), (∀ j, p ≤ j → j < p + L.length → f' j = f j) → stc f p L → stc f' p L
  | [], _, _, _ => trivial
  | x :: L, p, e, h => by
    have hl : ((x :: L).length : Int) = L.length + 1 := by rw [List.length_cons]; omega
    exact ⟨by rw [e p (by omega) (by omega)]; exact h.1, stc_congr L (p + 1) (fun j a c => e j (by omega) (by omega)) h.2⟩
/-- the reader stands at p, the codes C are written; ft: there was a fault -/
def RD (I0 I : Ints) (ft : Bool) (p : Int) (C : List Int) : Prop :=
  ((∀ c, c ≠ 111 → c ≠ 128 → I c = I0 c) ∧ (∀ j, j ≠ 18 → j ≠ 19 → j ≠ 20 → j ≠ 22 → I 111 j = I0 111 j)) ∧
  (I 111 18 = p ∧ I 111 19 = tend (I0 127) (I0 111 17) p ∧ I 111 20 = (if ft = true then 1 else 0)) ∧
  ((0 ≤ p ∧ p ≤ I0 111 17) ∧ I0 111 17 ≤ 200) ∧ (ft = false → I 111 22 = C.length ∧ stc (I 128) 0 C ∧ (C.length : Int) ≤ p)
theorem RD.e127 {ft : Bool} {p : Int} {C : List Int} (h : RD I0 I ft p C) : I 127 = I0 127 := h.1.1 127 (by decide) (by decide)
theorem RD.e17 {ft : Bool} {p : Int} {C : List Int} (h : RD I0 I ft p C) : I 111 17 = I0 111 17 := h.1.2 17 (by decide) (by decide) (by decide) (by decide)
theorem RD.bit {ft : Bool} {p : Int} {C : List Int} (h : RD I0 I ft p C) : I 111 20 = 0 ∨ I 111 20 = 1 := by
  rw [h.2.1.2.2]
  cases ft
  · exact Or.inl rfl
  · exact Or.inr rfl
theorem nxp_bd {g : Int → Int} {n p : Int} (h : p ≤ n) : p ≤ nxp g n p ∧ nxp g n p ≤ n ∧ (p < n → p < nxp g n p) := by
  have a := tend_bd (g := g) h
  have c := skp_bd (g := g) (p := tend g n p) a.2.1
  unfold nxp
  omega
/-- on to the next part -/
theorem RD.next {I' : Ints} {p : Int} {C : List Int} (h : RD I0 I false p C) (hf : ∀ c, c ≠ 111 → I' c = I c) (h1 : ∀ j, j ≠ 18 → j ≠ 19 → j ≠ 20 → I' 111 j = I 111 j) (h20 : I' 111 20 = 0) (h18 : I' 111 18 = nxp (I0 127) (I0 111 17) p) (h19 : I' 111 19 = tend (I0 127) (I0 111 17) (nxp (I0 127) (I0 111 17) p)) : RD I0 I' false (nxp (I0 127) (I0 111 17) p) C := by
  have nb := nxp_bd (g := I0 127) h.2.2.1.1.2
  have hc := h.2.2.2 rfl
  refine ⟨⟨fun c c1 c2 => (hf c c1).trans (h.1.1 c c1 c2), fun j j1 j2 j3 j4 => (h1 j j1 j2 j3).trans (h.1.2 j j1 j2 j3 j4)⟩, ⟨h18, h19, h20⟩, ⟨⟨?_, nb.2.1⟩, h.2.2.1.2⟩, fun _ => ⟨?_, ?_, ?_⟩⟩
  · have := h.2.2.1.1.1; omega
  · rw [h1 22 (by decide) (by decide) (by decide)]; exact hc.1
  · rw [hf 128 (by decide)]; exact hc.2.1
  · have := hc.2.2; omega
theorem RD.fault {I' : Ints} {ft : Bool} {p : Int} {C C' : List Int} (h : RD I0 I ft p C) (hf : ∀ c, c ≠ 111 → I' c = I c) (h1 : ∀ j, j ≠ 18 → j ≠ 19 → j ≠ 20 → I' 111 j = I 111 j) (h20 : I' 111 20 = 1) (h18 : I' 111 18 = I 111 18) (h19 : I' 111 19 = I 111 19) : RD I0 I' true p C' :=
  ⟨⟨fun c c1 c2 => (hf c c1).trans (h.1.1 c c1 c2), fun j j1 j2 j3 j4 => (h1 j j1 j2 j3).trans (h.1.2 j j1 j2 j3 j4)⟩, ⟨h18.trans h.2.1.1, h19.trans h.2.1.2.1, h20⟩, h.2.2.1, fun q => Bool.noConfusion q⟩
theorem c_isW {ft : Bool} {p : Int} {C : List Int} (i : Nat) (L : List Int) (hi : i < 22) (hL : (sTx i).2.2.2 = L) (h : RD I0 I ft p C) : MtP G yX9_isWord cX9_isWord 4 (some .boolean) 4 [vr 111, vr (1000 + i)] I b (if ft = false ∧ wdp (I0 127) (I0 111 17) p L then 1 else 0) := by
  have tb := tend_bd (g := I0 127) h.2.2.1.1.2
  have a := c_X9_isWord (G := G) (I := I) (b := b) i p (tend (I0 127) (I0 111 17) p) hi h.2.1.1 h.2.1.2.1 h.2.2.1.1.1 tb.1 (by have := h.2.2.1.2; omega)
  have e : (if I 111 20 = 0 ∧ wdb (I 127) p (tend (I0 127) (I0 111 17) p) (sTx i).2.2.2 = true then (1 : Int) else 0) = (if ft = false ∧ wdp (I0 127) (I0 111 17) p L then 1 else 0) := by
    have q : (I 111 20 = 0 ∧ wdb (I 127) p (tend (I0 127) (I0 111 17) p) (sTx i).2.2.2 = true) ↔ (ft = false ∧ wdp (I0 127) (I0 111 17) p L) := by
      rw [h.e127, hL, h.2.1.2.2]
      cases ft
      · exact ⟨fun z => ⟨rfl, z.2⟩, fun z => ⟨rfl, z.2⟩⟩
      · exact ⟨fun z => absurd z.1 (by decide), fun z => Bool.noConfusion z.1⟩
    by_cases c : ft = false ∧ wdp (I0 127) (I0 111 17) p L
    · rw [if_pos c, if_pos (q.2 c)]
    · rw [if_neg c, if_neg (fun z => c (q.1 z))]
  rw [e] at a
  exact a
theorem c_nextR {p : Int} {C : List Int} (h : RD I0 I false p C) : MtV G yX9_next cX9_next 1 2 [vr 111] I b (fun I' b' => b' = b ∧ RD I0 I' false (nxp (I0 127) (I0 111 17) p) C) := by
  have tb := tend_bd (g := I0 127) h.2.2.1.1.2
  have a := c_X9_next (G := G) (I := I) (b := b) _ h.2.1.2.1 (by have := h.2.2.1.1.1; omega) (by rw [h.e17]; exact tb.2.1) (by rw [h.e17]; exact h.2.2.1.2)
  rw [h.e17, h.e127] at a
  exact mtV_mono a (fun I' b' q => ⟨q.1, h.next q.2.1 (fun j j1 j2 _ => q.2.2.1 j j1 j2) ((q.2.2.1 20 (by decide) (by decide)).trans h.2.1.2.2) q.2.2.2.1 q.2.2.2.2⟩)
theorem c_needR {ft : Bool} {p : Int} {C : List Int} (x : Int) (hx : x = 0 ∨ x = 1) (h : RD I0 I ft p C) : MtV G yX9_need cX9_need 2 3 [vr 111, vi x] I b (fun I' b' => b' = b ∧ (ft = false ∧ x = 1 → RD I0 I' false (nxp (I0 127) (I0 111 17) p) C) ∧ (¬(ft = false ∧ x = 1) → ∀ C', RD I0 I' true p C')) := by
  have tb := tend_bd (g := I0 127) h.2.2.1.1.2
  have a := c_X9_need (G := G) (I := I) (b := b) x (tend (I0 127) (I0 111 17) p) hx h.2.1.2.1 h.bit (by have := h.2.2.1.1.1; omega) (by rw [h.e17]; exact tb.2.1) (by rw [h.e17]; exact h.2.2.1.2)
  rw [h.e17, h.e127] at a
  refine mtV_mono a (fun I' b' q => ⟨q.1, fun z => ?_, fun z C' => ?_⟩)
  · have hf := z.1
    subst hf
    have w := q.2.2.2.1 ⟨h.2.1.2.2, z.2⟩
    exact h.next q.2.1 q.2.2.1 w.1 w.2.1 w.2.2
  · have w := q.2.2.2.2 (fun v => z ⟨by
      have := h.2.1.2.2
      rw [v.1] at this
      cases ft
      · rfl
      · exact absurd this (by decide), v.2⟩)
    exact h.fault q.2.1 q.2.2.1 w.1 w.2.1 w.2.2
theorem c_numR {ft : Bool} {p : Int} {C : List Int} (t : Int) (t0 : 0 ≤ t) (t1 : t ≤ 999) (h : RD I0 I ft p C) : MtI G yX9_number cX9_number 5 (some .int) 4 [vr 111, vi t] I b (fun z I' b' => b' = b ∧ (ft = false ∧ isn (I0 127) (I0 111 17) p ∧ nv (I0 127) (I0 111 17) p ≤ t → z = nv (I0 127) (I0 111 17) p ∧ RD I0 I' false (nxp (I0 127) (I0 111 17) p) C) ∧ (¬(ft = false ∧ isn (I0 127) (I0 111 17) p ∧ nv (I0 127) (I0 111 17) p ≤ t) → ∀ C', RD I0 I' true p C')) := by
  have a := c_X9_number (G := G) (I := I) (b := b) t p t0 t1 h.2.1.1 (by rw [h.e17, h.e127]; exact h.2.1.2.1) h.bit h.2.2.1.1.1 (by rw [h.e17]; exact h.2.2.1.1.2) (by rw [h.e17]; exact h.2.2.1.2)
  unfold Nd at a
  rw [h.e17, h.e127] at a
  refine mtI_mono a (fun z I' b' q => ⟨q.1, fun w => ?_, fun w C' => ?_⟩)
  · have hf := w.1
    subst hf
    have e0 : I 111 20 = 0 := h.2.1.2.2
    have v := q.2.2.2.2.1 ⟨e0, w.2⟩
    exact ⟨q.2.1 ⟨e0, w.2.1⟩, h.next q.2.2.1 q.2.2.2.1 v.1 v.2.1 v.2.2⟩
  · have v := q.2.2.2.2.2 (fun v => w ⟨by
      have := h.2.1.2.2
      rw [v.1] at this
      cases ft
      · rfl
      · exact absurd this (by decide), v.2⟩)
    exact h.fault q.2.2.1 q.2.2.2.1 v.1 v.2.1 v.2.2
/-- a code is written: one fewer than places are behind -/
theorem c_putR {ft : Bool} {p : Int} {C : List Int} (x : Int) (h : RD I0 I ft p C) (hc : ft = false → (C.length : Int) + 1 ≤ p) : MtV G yX9_put cX9_put 2 0 [vr 111, vi x] I b (fun I' b' => b' = b ∧ (ft = false → RD I0 I' false p (C ++ [x])) ∧ (ft = true → ∀ C', RD I0 I' true p C')) := by
  have a := c_X9_put1 (G := G) (I := I) (b := b) x h.bit (fun e => by
    have hf : ft = false := by
      have := h.2.1.2.2
      rw [e] at this
      cases ft
      · rfl
      · exact absurd this (by decide)
    have w := h.2.2.2 hf
    have := hc hf
    have := h.2.2.1
    omega)
  refine mtV_mono a (fun I' b' q => ⟨q.1, fun hf => ?_, fun hf C' => ?_⟩)
  · subst hf
    have e0 : I 111 20 = 0 := h.2.1.2.2
    have w := h.2.2.2 rfl
    have hc := hc rfl
    have e := q.2
    rw [if_pos e0, w.1] at e
    subst e
    refine ⟨⟨fun c c1 c2 => by rw [upI_ne c1, upI_ne c2]; exact h.1.1 c c1 c2, fun j j1 j2 j3 j4 => by rw [upI_at, if_neg j4, upI_ne (by decide)]; exact h.1.2 j j1 j2 j3 j4⟩, ⟨by rw [upI_at, if_neg (by decide), upI_ne (by decide)]; exact h.2.1.1, by rw [upI_at, if_neg (by decide), upI_ne (by decide)]; exact h.2.1.2.1, by rw [upI_at, if_neg (by decide), upI_ne (by decide)]; exact e0⟩, h.2.2.1, fun _ => ⟨by rw [upI_at, if_pos rfl, List.length_append]; simp, ?_, by rw [List.length_append]; simp; omega⟩⟩
    rw [upI_ne (by decide), stc_append]
    refine ⟨stc_congr C 0 (fun j a c => by rw [upI_at, if_neg (by omega)]) w.2.1, ?_, trivial⟩
    rw [upI_at, if_pos (by omega)]
  · subst hf
    have e1 : ¬ I 111 20 = 0 := by
      have := h.2.1.2.2
      rw [this]
      decide
    have e := q.2
    rw [if_neg e1] at e
    subst e
    exact ⟨h.1, h.2.1, h.2.2.1, fun z => Bool.noConfusion z⟩
end M21
