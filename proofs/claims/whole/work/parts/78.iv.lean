/-! what holds between the calls -/
def xyC (F : Fx) (C : Ct) : Prop := ∀ c, c < F.1 * F.2.1 → C 7 c = nI (c % F.1) ∧ C 8 c = nI (c / F.1)
/-- storey and people, on both sides -/
def SS (F : Fx) (P : Nat) (C : Ct) : Prop := okS F C ∧ okG F C ∧ xyC F C ∧ okN F C ∧ okP F C P ∧ mcf F C P ∧ okMS F C
def IV (F : Fx) (P : Nat) (C : Ct) : Prop := SS F P C ∧ okL F C ∧ (C 0 5 = 0 ∨ C 0 5 = 1) ∧ C 169 17 = C 0 5 ∧ (C 0 5 = 1 → resC F P C ∧ resM F P C)
section
variable {F : Fx} {C C' : Ct} {P c p : Nat}
theorem IV_chg (h : SS F P C) (h1 : C 169 14 = 0) (h2 : C 169 17 = 0) (h3 : C 0 5 = 0) : IV F P C := ⟨h, Or.inl h1, Or.inl h3, h2.trans h3.symm, fun e => by rw [h3] at e; exact absurd e (by decide)⟩
/-- a question -/
theorem IV_ask (h : IV F P C) (h1 : ∀ k, (k < 12 ∨ 22 < k) → (k < 165 ∨ 168 < k) → k ≠ 169 → k ≠ 179 → k ≠ 180 → k ≠ 192 → C' k = C k) (h2 : ∀ j, j ≠ 0 → j ≠ 14 → C' 169 j = C 169 j) (hN : okN F C') (hL : okL F C') : IV F P C' := by
  obtain ⟨⟨a1, a2, a3, a4, a5, a6, a7⟩, b, d, e, f⟩ := h
  have c : cfg C C' := fun k hk => h1 k (by omega) (by omega) (by omega) (by omega) (by omega) (by omega)
  have hP := a5.1
  refine ⟨⟨okS_cfg c a1, okG_cfg c a2, ?_, hN, okP_cfg c a5, mcf_same c (fun k q1 q2 => h1 k (by omega) (by omega) (by omega) (by omega) (by omega) (by omega)) (h2 7 (by omega) (by omega)) (h2 9 (by omega) (by omega)) a6, ?_⟩, hL, ?_, ?_, ?_⟩
  · unfold xyC; rw [c 7 (by omega), c 8 (by omega)]; exact a3
  · unfold okMS opM; rw [h1 170 (by omega) (by omega) (by omega) (by omega) (by omega) (by omega), h1 171 (by omega) (by omega) (by omega) (by omega) (by omega) (by omega)]; exact a7
  · rw [h1 0 (by omega) (by omega) (by omega) (by omega) (by omega) (by omega)]; exact d
  · rw [h1 0 (by omega) (by omega) (by omega) (by omega) (by omega) (by omega), h2 17 (by omega) (by omega)]; exact e
  · rw [h1 0 (by omega) (by omega) (by omega) (by omega) (by omega) (by omega)]
    intro q
    obtain ⟨f1, f2⟩ := f q
    exact ⟨f1.same c (fun k q1 q2 => h1 k (by omega) (by omega) (by omega) (by omega) (by omega) (by omega)) hP, f2.same c (fun k q1 q2 => h1 k (by omega) (by omega) (by omega) (by omega) (by omega) (by omega)) (h2 18 (by omega) (by omega))⟩
/-- the same walls: the same rows -/
theorem rowOk_w (hw : ∀ x, C' 2 x = 1 ↔ C 2 x = 1) (h9 : C' 9 = C 9) (h1 : C' 1 = C 1) (h6 : C' 6 = C 6) {g : Int32} {row : Nat → Int32} : rowOk F C' g row = rowOk F C g row := by
  have e1 : nbC C' = nbC C := by
    funext x w
    unfold nbC opB
    rw [h9]
    simp only [hw]
  have e2 : opC C' = opC C := by funext x; unfold opC; rw [hw]
  have e3 : glC C' = glC C := by unfold glC; rw [h1, h6]
  unfold rowOk
  rw [e1, e2, e3]
theorem okN_w (hw : ∀ x, C' 2 x = 1 ↔ C 2 x = 1) (h9 : C' 9 = C 9) (h1 : C' 1 = C 1) (h6 : C' 6 = C 6) (hr : ∀ k, 12 ≤ k → k ≤ 21 → C' k = C k) (h : okN F C) : okN F C' := by
  intro r hr9
  rw [hr 21 (by omega) (by omega), hr (12 + r) (by omega) (by omega), rowOk_w hw h9 h1 h6]
  exact h r hr9
theorem okN_0 (h : ∀ r, r < 9 → C' 21 r = 0) : okN F C' := fun r hr => Or.inl (h r hr)
theorem cm_ji (hF : okF F) {i j : Nat} (hi : i < F.1) (hj : j < F.2.1) : cm F (j * F.1 + i) = 24 * j + i := by
  have f1 : 0 < F.1 := by omega
  unfold cm
  rw [Nat.add_comm (j * F.1) i, Nat.add_mul_div_right _ _ f1, Nat.add_mul_mod_self_right, Nat.div_eq_of_lt hi, Nat.mod_eq_of_lt hi, Nat.zero_add]
/-- smoke, or a new rate of an exit -/
theorem SS_rate (h : SS F P C) (h0 : ∀ k, k ≠ 0 → k ≠ 3 → k ≠ 4 → k ≠ 169 → k ≠ 172 → k ≠ 173 → C' k = C k) (h7 : C' 169 7 = C 169 7) (h9 : C' 169 9 = C 169 9)
    (hd : ∀ c, c < F.1 * F.2.1 → C' 173 (cm F c) = C' 4 c ∧ (C' 4 c = -1 ∨ 0 ≤ C' 4 c) ∧ ((hasR C c ∧ C' 172 (cm F c) = C' 3 c ∧ ¬ C' 3 c = 0) ∨ (¬ hasR C c ∧ C' 172 (cm F c) = 0))) : SS F P C' := by
  obtain ⟨a1, a2, a3, a4, a5, ⟨m1, m2, m3, m4⟩, a7⟩ := h
  have f : ∀ k, k ≠ 0 → k ≠ 3 → k ≠ 4 → k ≠ 169 → k ≠ 172 → k ≠ 173 → C' k = C k := h0
  have g : ∀ k, (k = 1 ∨ k = 2 ∨ (5 ≤ k ∧ k < 169) ∨ k = 170 ∨ k = 171 ∨ (174 ≤ k)) → C' k = C k := fun k hk => f k (by omega) (by omega) (by omega) (by omega) (by omega) (by omega)
  refine ⟨?_, ?_, ?_, okN_w (fun x => by rw [g 2 (by omega)]) (g 9 (by omega)) (g 1 (by omega)) (g 6 (by omega)) (fun k _ _ => g k (by omega)) a4, ?_, ⟨?_, by rw [h9]; exact m2, ?_, ?_⟩, ?_⟩
  · unfold okS okB; rw [g 9 (by omega), g 1 (by omega), g 6 (by omega), g 5 (by omega), g 2 (by omega)]; exact a1
  · unfold okG; rw [g 9 (by omega)]; exact a2
  · unfold xyC; rw [g 7 (by omega), g 8 (by omega)]; exact a3
  · unfold okP; rw [g 23 (by omega), g 24 (by omega), g 25 (by omega), g 26 (by omega), g 27 (by omega), g 28 (by omega), g 2 (by omega), g 1 (by omega)]; exact a5
  · unfold rS at *; rw [h7, g 170 (by omega), g 171 (by omega), g 2 (by omega), g 5 (by omega), g 1 (by omega)]; exact m1
  · unfold s0 at *; rw [g 175 (by omega), g 176 (by omega), g 177 (by omega), g 178 (by omega), g 24 (by omega), g 25 (by omega), g 26 (by omega), g 27 (by omega)]; exact m3
  · unfold hasR at *; rw [g 2 (by omega)]; exact hd
  · unfold okMS opM; rw [g 170 (by omega), g 171 (by omega)]; exact a7
theorem if_cm {f g : Nat → Int32} {v : Int32} {x : Nat} (hF : okF F) (hx : x < F.1 * F.2.1) (hc : c < F.1 * F.2.1) (h : ∀ x, f x = if x = cm F c then v else g x) : f (cm F x) = if x = c then v else g (cm F x) := by
  rw [h]
  by_cases e : x = c
  · rw [if_pos e, if_pos (by rw [e])]
  · rw [if_neg e, if_neg (fun q => e (cm_inj hF hx hc q))]
/-- a door -/
theorem SS_door {r : Int32} (hF : okF F) (h : SS F P C) (hc : c < F.1 * F.2.1) (hr : ¬ r = 0) (w1 : ¬ C 2 c = 1) (w2 : ¬ C 2 c = 2) (h0 : ∀ k, k ≠ 0 → k ≠ 2 → k ≠ 3 → k ≠ 169 → k ≠ 172 → C' k = C k) (h7 : C' 169 7 = C 169 7) (h9 : C' 169 9 = C 169 9)
    (e2 : ∀ x, C' 2 x = if x = c then 3 else C 2 x) (e3 : ∀ x, C' 3 x = if x = c then r else C 3 x) (e172 : ∀ x, C' 172 x = if x = cm F c then r else C 172 x) : SS F P C' := by
  obtain ⟨a1, a2, a3, a4, a5, ⟨m1, m2, m3, m4⟩, a7⟩ := h
  have g : ∀ k, (k = 1 ∨ (4 ≤ k ∧ k < 169) ∨ k = 170 ∨ k = 171 ∨ (173 ≤ k)) → C' k = C k := fun k hk => h0 k (by omega) (by omega) (by omega) (by omega) (by omega)
  have x1 : ∀ x, C' 2 x = 1 ↔ C 2 x = 1 := fun x => by
    rw [e2]
    by_cases e : x = c
    · rw [if_pos e, e]; exact ⟨fun q => absurd q (by decide), fun q => absurd q w1⟩
    · rw [if_neg e]
  have x2 : ∀ x, C' 2 x = 2 ↔ C 2 x = 2 := fun x => by
    rw [e2]
    by_cases e : x = c
    · rw [if_pos e, e]; exact ⟨fun q => absurd q (by decide), fun q => absurd q w2⟩
    · rw [if_neg e]
  refine ⟨?_, ?_, ?_, okN_w x1 (g 9 (by omega)) (g 1 (by omega)) (g 6 (by omega)) (fun k _ _ => g k (by omega)) a4, ?_, ⟨?_, by rw [h9]; exact m2, ?_, ?_⟩, ?_⟩
  · unfold okS okB; rw [g 9 (by omega), g 1 (by omega), g 6 (by omega), g 5 (by omega)]; simp only [x2]; exact a1
  · unfold okG; rw [g 9 (by omega)]; exact a2
  · unfold xyC; rw [g 7 (by omega), g 8 (by omega)]; exact a3
  · unfold okP; rw [g 23 (by omega), g 24 (by omega), g 25 (by omega), g 26 (by omega), g 27 (by omega), g 28 (by omega), g 1 (by omega)]; simp only [x1, x2]; exact a5
  · unfold rS at *; rw [h7, g 170 (by omega), g 171 (by omega), g 5 (by omega), g 1 (by omega)]; simp only [x1]; exact m1
  · unfold s0 at *; rw [g 175 (by omega), g 176 (by omega), g 177 (by omega), g 178 (by omega), g 24 (by omega), g 25 (by omega), g 26 (by omega), g 27 (by omega)]; exact m3
  · intro x hx
    obtain ⟨n1, n2, n3⟩ := m4 x hx
    refine ⟨by rw [g 173 (by omega), g 4 (by omega)]; exact n1, by rw [g 4 (by omega)]; exact n2, ?_⟩
    unfold hasR at *
    rw [e2, e3, if_cm hF hx hc e172]
    by_cases e : x = c
    · rw [if_pos e, if_pos e, if_pos e]; exact Or.inl ⟨Or.inr rfl, rfl, hr⟩
    · rw [if_neg e, if_neg e, if_neg e]; exact n3
  · unfold okMS opM; rw [g 170 (by omega), g 171 (by omega)]; exact a7
/-- a habit -/
theorem SS_habit {v : Int32} (h : SS F P C) (hp : p < P) (hv : v = -1 ∨ ∃ x, v = nI x ∧ x < 8 ∧ nI x < C 1 11) (h0 : ∀ k, k ≠ 0 → k ≠ 27 → k ≠ 169 → k ≠ 178 → C' k = C k) (h7 : C' 169 7 = C 169 7) (h9 : C' 169 9 = C 169 9)
    (e27 : ∀ x, C' 27 x = if x = p then v else C 27 x) (e178 : ∀ x, C' 178 x = if x = p then v else C 178 x) : SS F P C' := by
  obtain ⟨a1, a2, a3, a4, a5, ⟨m1, m2, m3, m4⟩, a7⟩ := h
  have g : ∀ k, (1 ≤ k ∧ k ≤ 26) ∨ (28 ≤ k ∧ k < 169) ∨ (170 ≤ k ∧ k ≤ 177) ∨ 179 ≤ k → C' k = C k := fun k hk => h0 k (by omega) (by omega) (by omega) (by omega)
  refine ⟨?_, ?_, ?_, okN_w (fun x => by rw [g 2 (by omega)]) (g 9 (by omega)) (g 1 (by omega)) (g 6 (by omega)) (fun k _ _ => g k (by omega)) a4, ?_, ⟨?_, by rw [h9]; exact m2, ?_, ?_⟩, ?_⟩
  · unfold okS okB; rw [g 9 (by omega), g 1 (by omega), g 6 (by omega), g 5 (by omega), g 2 (by omega)]; exact a1
  · unfold okG; rw [g 9 (by omega)]; exact a2
  · unfold xyC; rw [g 7 (by omega), g 8 (by omega)]; exact a3
  · obtain ⟨b1, b2, b3, b4⟩ := a5
    unfold okP
    rw [g 23 (by omega), g 24 (by omega), g 25 (by omega), g 26 (by omega), g 28 (by omega), g 2 (by omega), g 1 (by omega)]
    refine ⟨b1, b2, fun q hq => ?_, b4⟩
    obtain ⟨d1, d2, d3, d4⟩ := b3 q hq
    refine ⟨d1, d2, d3, ?_⟩
    rw [e27]
    by_cases e : q = p
    · rw [if_pos e]; exact hv
    · rw [if_neg e]; exact d4
  · unfold rS at *; rw [h7, g 170 (by omega), g 171 (by omega), g 2 (by omega), g 5 (by omega), g 1 (by omega)]; exact m1
  · intro q hq
    obtain ⟨d1, d2, d3, d4⟩ := m3 q hq
    unfold s0 at *
    rw [g 175 (by omega), g 176 (by omega), g 177 (by omega), g 24 (by omega), g 25 (by omega), g 26 (by omega), e27, e178]
    refine ⟨d1, d2, d3, ?_⟩
    by_cases e : q = p
    · rw [if_pos e, if_pos e]
    · rw [if_neg e, if_neg e]; exact d4
  · unfold hasR at *; rw [g 2 (by omega), g 3 (by omega), g 4 (by omega), g 172 (by omega), g 173 (by omega)]; exact m4
  · unfold okMS opM; rw [g 170 (by omega), g 171 (by omega)]; exact a7
/-- a person -/
theorem SS_person {a d : Nat} (hF : okF F) (h : SS F P C) (hP60 : P < 60) (hc : c < F.1 * F.2.1) (w1 : ¬ C 2 c = 1) (w2 : ¬ C 2 c = 2) (w3 : C 28 c = -1) (ha : 1 ≤ a ∧ a ≤ 5) (hd : d ≤ 600) (h0 : ∀ k, k ≠ 0 → (k < 23 ∨ 28 < k) → k ≠ 169 → (k < 175 ∨ 178 < k) → C' k = C k) (h7 : C' 169 7 = C 169 7) (h9 : C' 169 9 = nI (P + 1)) (h23 : C' 23 5 = nI (P + 1))
    (e24 : ∀ x, C' 24 x = if x = P then nI c else C 24 x) (e25 : ∀ x, C' 25 x = if x = P then nI a else C 25 x) (e26 : ∀ x, C' 26 x = if x = P then nI d else C 26 x) (e27 : ∀ x, C' 27 x = if x = P then -1 else C 27 x) (e28 : ∀ x, C' 28 x = if x = c then nI P else C 28 x)
    (e175 : ∀ x, C' 175 x = if x = P then nI (cm F c) else C 175 x) (e176 : ∀ x, C' 176 x = if x = P then nI a else C 176 x) (e177 : ∀ x, C' 177 x = if x = P then nI d else C 177 x) (e178 : ∀ x, C' 178 x = if x = P then -1 else C 178 x) : SS F (P + 1) C' := by
  have hn := hF.n
  obtain ⟨a1, a2, a3, a4, a5, ⟨m1, m2, m3, m4⟩, a7⟩ := h
  have g : ∀ k, (1 ≤ k ∧ k ≤ 22) ∨ (29 ≤ k ∧ k < 169) ∨ (170 ≤ k ∧ k ≤ 174) ∨ 179 ≤ k → C' k = C k := fun k hk => h0 k (by omega) (by omega) (by omega) (by omega)
  refine ⟨?_, ?_, ?_, okN_w (fun x => by rw [g 2 (by omega)]) (g 9 (by omega)) (g 1 (by omega)) (g 6 (by omega)) (fun k _ _ => g k (by omega)) a4, ?_, ⟨?_, h9, ?_, ?_⟩, ?_⟩
  · unfold okS okB; rw [g 9 (by omega), g 1 (by omega), g 6 (by omega), g 5 (by omega), g 2 (by omega)]; exact a1
  · unfold okG; rw [g 9 (by omega)]; exact a2
  · unfold xyC; rw [g 7 (by omega), g 8 (by omega)]; exact a3
  · obtain ⟨b1, b2, b3, b4⟩ := a5
    unfold okP
    rw [g 2 (by omega), g 1 (by omega)]
    refine ⟨by omega, h23, fun q hq => ?_, fun x hx => ?_⟩
    · rw [e24, e25, e26, e27]
      by_cases e : q = P
      · rw [if_pos e, if_pos e, if_pos e, if_pos e]
        refine ⟨⟨c, hc, rfl, by rw [e28, if_pos rfl, e], w1, w2⟩, ⟨a, ha.1, ha.2, rfl⟩, ⟨d, hd, rfl⟩, Or.inl rfl⟩
      · rw [if_neg e, if_neg e, if_neg e, if_neg e]
        obtain ⟨⟨c', c1, c2, c3, c4⟩, d2⟩ := b3 q (by omega)
        refine ⟨⟨c', c1, c2, ?_, c4⟩, d2⟩
        rw [e28, if_neg (fun ec => ?_)]
        · exact c3
        · rw [ec, w3] at c3; exact absurd c3.symm (nI_nm1 (by omega))
    · rw [e28]
      by_cases e : x = c
      · rw [if_pos e]; exact Or.inr ⟨P, by omega, rfl, by rw [e24, if_pos rfl, e]⟩
      · rw [if_neg e]
        rcases b4 x hx with q | ⟨p, q1, q2, q3⟩
        · exact Or.inl q
        · exact Or.inr ⟨p, by omega, q2, by rw [e24, if_neg (by omega)]; exact q3⟩
  · unfold rS at *; rw [h7, g 170 (by omega), g 171 (by omega), g 2 (by omega), g 5 (by omega), g 1 (by omega)]; exact m1
  · intro q hq
    rw [e175, e176, e177, e178, e25, e26, e27]
    by_cases e : q = P
    · rw [if_pos e, if_pos e, if_pos e, if_pos e, if_pos e, if_pos e, if_pos e]
      refine ⟨?_, rfl, rfl, rfl⟩
      unfold s0; rw [e24, if_pos e, nI_clamp (by omega)]
    · rw [if_neg e, if_neg e, if_neg e, if_neg e, if_neg e, if_neg e, if_neg e]
      have := m3 q (by omega)
      unfold s0 at *; rw [e24, if_neg e]; exact this
  · unfold hasR at *; rw [g 2 (by omega), g 3 (by omega), g 4 (by omega), g 172 (by omega), g 173 (by omega)]; exact m4
  · unfold okMS opM; rw [g 170 (by omega), g 171 (by omega)]; exact a7
/-- a new exit -/
theorem SS_exit {X8 : Nat} {r : Int32} (hF : okF F) (h : SS F P C) (hc : c < F.1 * F.2.1) (hr : ¬ r = 0) (w1 : ¬ C 2 c = 1) (w2 : ¬ C 2 c = 2) (w3 : C 28 c = -1) (hX : C 1 11 = nI X8) (h8 : X8 < 8) (h0 : ∀ k, k ≠ 0 → k ≠ 1 → k ≠ 2 → k ≠ 3 → k ≠ 5 → k ≠ 6 → k ≠ 21 → k ≠ 169 → k ≠ 171 → k ≠ 172 → k ≠ 174 → C' k = C k) (h7 : C' 169 7 = nI (X8 + 1)) (h9 : C' 169 9 = C 169 9) (h11 : C' 1 11 = nI (X8 + 1)) (h21 : ∀ r, r < 9 → C' 21 r = 0)
    (e2 : ∀ x, C' 2 x = if x = c then 2 else C 2 x) (e3 : ∀ x, C' 3 x = if x = c then r else C 3 x) (e5 : ∀ x, C' 5 x = if x = c then nI X8 else C 5 x) (e6 : ∀ x, C' 6 x = if x = X8 then nI c else C 6 x)
    (e171 : ∀ x, C' 171 x = if x = cm F c then nI X8 else C 171 x) (e172 : ∀ x, C' 172 x = if x = cm F c then r else C 172 x) : SS F P C' := by
  have hn := hF.n
  obtain ⟨a1, a2, a3, a4, a5, ⟨m1, m2, m3, m4⟩, a7⟩ := h
  have g : ∀ k, (k = 4 ∨ (7 ≤ k ∧ k ≤ 20) ∨ (22 ≤ k ∧ k < 169) ∨ k = 170 ∨ k = 173 ∨ 175 ≤ k) → C' k = C k := fun k hk => h0 k (by omega) (by omega) (by omega) (by omega) (by omega) (by omega) (by omega) (by omega) (by omega) (by omega) (by omega)
  have x1 : ∀ x, C' 2 x = 1 ↔ C 2 x = 1 := fun x => by
    rw [e2]
    by_cases e : x = c
    · rw [if_pos e, e]; exact ⟨fun q => absurd q (by decide), fun q => absurd q w1⟩
    · rw [if_neg e]
  refine ⟨?_, ?_, ?_, okN_0 h21, ?_, ⟨?_, by rw [h9]; exact m2, ?_, ?_⟩, ?_⟩
  · obtain ⟨b1, b2, X9, hX9, h11', hE, hE2⟩ := a1
    have : X9 = X8 := (nI_eq (by omega) (by omega)).mp (h11'.symm.trans hX)
    subst this
    refine ⟨by unfold okB at *; rw [g 9 (by omega)]; exact b1, by rw [g 9 (by omega)]; exact b2, X9 + 1, by omega, h11, fun x hx => ?_, fun x hx => ?_⟩
    · rw [e6]
      by_cases e : x = X9
      · rw [if_pos e]
        exact Or.inr ⟨c, hc, rfl, by rw [e5, if_pos rfl, e], by rw [e2, if_pos rfl]⟩
      · rw [if_neg e]
        rcases hE x (by omega) with q | ⟨c', q1, q2, q3, q4⟩
        · exact Or.inl q
        · have hcc : ¬ c' = c := fun ec => w2 (ec ▸ q4)
          exact Or.inr ⟨c', q1, q2, by rw [e5, if_neg hcc]; exact q3, by rw [e2, if_neg hcc]; exact q4⟩
    · rw [e5, e2]
      by_cases e : x = c
      · rw [if_pos e, if_pos e]
        exact Or.inr ⟨X9, by omega, rfl, by rw [e6, if_pos rfl, e], rfl⟩
      · rw [if_neg e, if_neg e]
        rcases hE2 x hx with q | ⟨y, q1, q2, q3, q4⟩
        · exact Or.inl q
        · exact Or.inr ⟨y, by omega, q2, by rw [e6, if_neg (by omega)]; exact q3, q4⟩
  · unfold okG; rw [g 9 (by omega)]; exact a2
  · unfold xyC; rw [g 7 (by omega), g 8 (by omega)]; exact a3
  · obtain ⟨b1, b2, b3, b4⟩ := a5
    unfold okP
    rw [g 23 (by omega), g 24 (by omega), g 25 (by omega), g 26 (by omega), g 27 (by omega), g 28 (by omega)]
    refine ⟨b1, b2, fun q hq => ?_, b4⟩
    obtain ⟨⟨c', c1, c2, c3, c4, c5⟩, d2, d3, d4⟩ := b3 q hq
    have hcc : ¬ c' = c := fun ec => by rw [ec, w3] at c3; exact absurd c3.symm (nI_nm1 (by omega))
    refine ⟨⟨c', c1, c2, c3, by rw [x1]; exact c4, by rw [e2, if_neg hcc]; exact c5⟩, d2, d3, ?_⟩
    rcases d4 with e | ⟨x, e, x8, xl⟩
    · exact Or.inl e
    · refine Or.inr ⟨x, e, x8, ?_⟩
      rw [hX] at xl
      rw [h11]
      exact Int32.lt_trans xl (nI_lt (by omega) (by omega))
  · obtain ⟨r1, r2, r3⟩ := m1
    refine ⟨fun x hx => ?_, fun m hm ho => ?_, by rw [h7, h11]⟩
    · obtain ⟨r4, r5⟩ := r1 x hx
      refine ⟨by rw [g 170 (by omega)]; simp only [x1]; exact r4, ?_⟩
      rw [if_cm hF hx hc e171, e5]
      by_cases e : x = c
      · rw [if_pos e, if_pos e]
      · rw [if_neg e, if_neg e]; exact r5
    · have hne : ¬ m = cm F c := fun e => ho (e ▸ (cm_in hF hc).2.2.1)
      rw [g 170 (by omega), e171, if_neg hne]
      exact r2 m hm ho
  · unfold s0 at *; rw [g 175 (by omega), g 176 (by omega), g 177 (by omega), g 178 (by omega), g 24 (by omega), g 25 (by omega), g 26 (by omega), g 27 (by omega)]; exact m3
  · intro x hx
    obtain ⟨n1, n2, n3⟩ := m4 x hx
    refine ⟨by rw [g 173 (by omega), g 4 (by omega)]; exact n1, by rw [g 4 (by omega)]; exact n2, ?_⟩
    unfold hasR at *
    rw [e2, e3, if_cm hF hx hc e172]
    by_cases e : x = c
    · rw [if_pos e, if_pos e, if_pos e]; exact Or.inl ⟨Or.inl rfl, rfl, hr⟩
    · rw [if_neg e, if_neg e, if_neg e]; exact n3
  · obtain ⟨o1, o2⟩ := a7
    refine ⟨by rw [g 170 (by omega)]; exact o1, fun m hm hne => ?_⟩
    unfold opM at *
    rw [g 170 (by omega)]
    rw [e171] at hne ⊢
    by_cases e : m = cm F c
    · rw [if_pos e]
      refine ⟨⟨X8, h8, rfl⟩, by rw [e]; exact (cm_in hF hc).2.2.1, ?_⟩
      have := (m1.1 c hc).1
      rw [e, this, if_neg w1]
    · rw [if_neg e] at hne ⊢; exact o2 m hm hne
/-- a wall where there was none -/
theorem SS_wall (hF : okF F) (h : SS F P C) (hc : c < F.1 * F.2.1) (w3 : C 28 c = -1) (h0 : ∀ k, k ≠ 0 → k ≠ 2 → k ≠ 5 → k ≠ 6 → k ≠ 21 → k ≠ 169 → k ≠ 170 → k ≠ 171 → k ≠ 172 → C' k = C k) (h7 : C' 169 7 = C 169 7) (h9 : C' 169 9 = C 169 9) (h21 : ∀ r, r < 9 → C' 21 r = 0)
    (e2 : ∀ x, C' 2 x = if x = c then 1 else C 2 x) (e5 : ∀ x, C' 5 x = if x = c then -1 else C 5 x) (e6 : ∀ x, C' 6 x = if C 5 c = nI x ∧ x < 8 then -1 else C 6 x)
    (e170 : ∀ x, C' 170 x = if x = cm F c then 1 else C 170 x) (e171 : ∀ x, C' 171 x = if x = cm F c then -1 else C 171 x) (e172 : ∀ x, C' 172 x = if x = cm F c then 0 else C 172 x) : SS F P C' := by
  have hn := hF.n
  obtain ⟨a1, a2, a3, a4, a5, ⟨m1, m2, m3, m4⟩, a7⟩ := h
  have g : ∀ k, (k = 1 ∨ k = 3 ∨ k = 4 ∨ (7 ≤ k ∧ k ≤ 20) ∨ (22 ≤ k ∧ k < 169) ∨ 173 ≤ k) → C' k = C k := fun k hk => h0 k (by omega) (by omega) (by omega) (by omega) (by omega) (by omega) (by omega) (by omega) (by omega)
  refine ⟨?_, ?_, ?_, okN_0 h21, ?_, ⟨?_, by rw [h9]; exact m2, ?_, ?_⟩, ?_⟩
  · obtain ⟨b1, b2, X9, hX9, h11', hE, hE2⟩ := a1
    refine ⟨by unfold okB at *; rw [g 9 (by omega)]; exact b1, by rw [g 9 (by omega)]; exact b2, X9, hX9, by rw [g 1 (by omega)]; exact h11', fun x hx => ?_, fun x hx => ?_⟩
    · rw [e6]
      by_cases e : C 5 c = nI x ∧ x < 8
      · rw [if_pos e]; exact Or.inl rfl
      · rw [if_neg e]
        rcases hE x hx with q | ⟨c', q1, q2, q3, q4⟩
        · exact Or.inl q
        · have hcc : ¬ c' = c := fun ec => e ⟨ec ▸ q3, by omega⟩
          exact Or.inr ⟨c', q1, q2, by rw [e5, if_neg hcc]; exact q3, by rw [e2, if_neg hcc]; exact q4⟩
    · rw [e5, e2]
      by_cases e : x = c
      · rw [if_pos e, if_pos e]
        exact Or.inl ⟨rfl, by decide⟩
      · rw [if_neg e, if_neg e]
        rcases hE2 x hx with q | ⟨y, q1, q2, q3, q4⟩
        · exact Or.inl q
        · refine Or.inr ⟨y, q1, q2, ?_, q4⟩
          rw [e6, if_neg]
          · exact q3
          · rintro ⟨e5c, -⟩
            rcases hE2 c hc with z | ⟨y', z1, z2, z3, z4⟩
            · rw [z.1] at e5c; exact absurd e5c.symm (nI_nm1 (by omega))
            · have : y' = y := (nI_eq (by omega) (by omega)).mp (z2.symm.trans e5c)
              subst this
              exact e ((nI_eq (by omega) (by omega)).mp (q3.symm.trans z3))
  · unfold okG; rw [g 9 (by omega)]; exact a2
  · unfold xyC; rw [g 7 (by omega), g 8 (by omega)]; exact a3
  · obtain ⟨b1, b2, b3, b4⟩ := a5
    unfold okP
    rw [g 23 (by omega), g 24 (by omega), g 25 (by omega), g 26 (by omega), g 27 (by omega), g 28 (by omega), g 1 (by omega)]
    refine ⟨b1, b2, fun q hq => ?_, b4⟩
    obtain ⟨⟨c', c1, c2, c3, c4, c5⟩, d2, d3, d4⟩ := b3 q hq
    have hcc : ¬ c' = c := fun ec => by rw [ec, w3] at c3; exact absurd c3.symm (nI_nm1 (by omega))
    exact ⟨⟨c', c1, c2, c3, by rw [e2, if_neg hcc]; exact c4, by rw [e2, if_neg hcc]; exact c5⟩, d2, d3, d4⟩
  · obtain ⟨r1, r2, r3⟩ := m1
    refine ⟨fun x hx => ?_, fun m hm ho => ?_, by rw [h7, g 1 (by omega)]; exact r3⟩
    · obtain ⟨r4, r5⟩ := r1 x hx
      rw [if_cm hF hx hc e170, if_cm hF hx hc e171, e5, e2]
      by_cases e : x = c
      · rw [if_pos e, if_pos e, if_pos e, if_pos e, if_pos rfl]; exact ⟨rfl, rfl⟩
      · rw [if_neg e, if_neg e, if_neg e, if_neg e]; exact ⟨r4, r5⟩
    · have hne : ¬ m = cm F c := fun e => ho (e ▸ (cm_in hF hc).2.2.1)
      rw [e170, e171, if_neg hne, if_neg hne]
      exact r2 m hm ho
  · unfold s0 at *; rw [g 175 (by omega), g 176 (by omega), g 177 (by omega), g 178 (by omega), g 24 (by omega), g 25 (by omega), g 26 (by omega), g 27 (by omega)]; exact m3
  · intro x hx
    obtain ⟨n1, n2, n3⟩ := m4 x hx
    refine ⟨by rw [g 173 (by omega), g 4 (by omega)]; exact n1, by rw [g 4 (by omega)]; exact n2, ?_⟩
    unfold hasR at *
    rw [e2, g 3 (by omega), if_cm hF hx hc e172]
    by_cases e : x = c
    · rw [if_pos e, if_pos e]; exact Or.inr ⟨by decide, rfl⟩
    · rw [if_neg e, if_neg e]; exact n3
  · obtain ⟨o1, o2⟩ := a7
    refine ⟨fun m hm => ?_, fun m hm hne => ?_⟩
    · rw [e170]
      by_cases e : m = cm F c
      · rw [if_pos e]; exact Or.inr rfl
      · rw [if_neg e]; exact o1 m hm
    · unfold opM at *
      rw [e171] at hne ⊢
      rw [e170]
      by_cases e : m = cm F c
      · rw [if_pos e] at hne; exact absurd rfl hne
      · rw [if_neg e] at hne ⊢; rw [if_neg e]; exact o2 m hm hne
/-- a wall is taken away -/
theorem SS_free (hF : okF F) (h : SS F P C) (hc : c < F.1 * F.2.1) (w1 : C 2 c = 1) (h0 : ∀ k, k ≠ 0 → k ≠ 2 → k ≠ 21 → k ≠ 169 → k ≠ 170 → C' k = C k) (h7 : C' 169 7 = C 169 7) (h9 : C' 169 9 = C 169 9) (h21 : ∀ r, r < 9 → C' 21 r = 0)
    (e2 : ∀ x, C' 2 x = if x = c then 0 else C 2 x) (e170 : ∀ x, C' 170 x = if x = cm F c then 0 else C 170 x) : SS F P C' := by
  have hn := hF.n
  obtain ⟨a1, a2, a3, a4, a5, ⟨m1, m2, m3, m4⟩, a7⟩ := h
  have g : ∀ k, (k = 1 ∨ (3 ≤ k ∧ k ≤ 20) ∨ (22 ≤ k ∧ k < 169) ∨ 171 ≤ k) → C' k = C k := fun k hk => h0 k (by omega) (by omega) (by omega) (by omega) (by omega)
  have x2 : ∀ x, C' 2 x = 2 ↔ C 2 x = 2 := fun x => by
    rw [e2]
    by_cases e : x = c
    · rw [if_pos e, e, w1]; decide
    · rw [if_neg e]
  have x3 : ∀ x, C' 2 x = 3 ↔ C 2 x = 3 := fun x => by
    rw [e2]
    by_cases e : x = c
    · rw [if_pos e, e, w1]; decide
    · rw [if_neg e]
  refine ⟨?_, ?_, ?_, okN_0 h21, ?_, ⟨?_, by rw [h9]; exact m2, ?_, ?_⟩, ?_⟩
  · unfold okS okB; rw [g 9 (by omega), g 1 (by omega), g 6 (by omega), g 5 (by omega)]; simp only [x2]; exact a1
  · unfold okG; rw [g 9 (by omega)]; exact a2
  · unfold xyC; rw [g 7 (by omega), g 8 (by omega)]; exact a3
  · obtain ⟨b1, b2, b3, b4⟩ := a5
    unfold okP
    rw [g 23 (by omega), g 24 (by omega), g 25 (by omega), g 26 (by omega), g 27 (by omega), g 28 (by omega), g 1 (by omega)]
    refine ⟨b1, b2, fun q hq => ?_, b4⟩
    obtain ⟨⟨c', c1, c2, c3, c4, c5⟩, d2, d3, d4⟩ := b3 q hq
    refine ⟨⟨c', c1, c2, c3, ?_, by rw [x2]; exact c5⟩, d2, d3, d4⟩
    rw [e2]
    by_cases e : c' = c
    · rw [if_pos e]; decide
    · rw [if_neg e]; exact c4
  · obtain ⟨r1, r2, r3⟩ := m1
    refine ⟨fun x hx => ?_, fun m hm ho => ?_, by rw [h7, g 1 (by omega)]; exact r3⟩
    · obtain ⟨r4, r5⟩ := r1 x hx
      refine ⟨?_, by rw [g 171 (by omega), g 5 (by omega)]; exact r5⟩
      rw [if_cm hF hx hc e170, e2]
      by_cases e : x = c
      · rw [if_pos e, if_pos e, if_neg (by decide)]
      · rw [if_neg e, if_neg e]; exact r4
    · have hne : ¬ m = cm F c := fun e => ho (e ▸ (cm_in hF hc).2.2.1)
      rw [e170, if_neg hne, g 171 (by omega)]
      exact r2 m hm ho
  · unfold s0 at *; rw [g 175 (by omega), g 176 (by omega), g 177 (by omega), g 178 (by omega), g 24 (by omega), g 25 (by omega), g 26 (by omega), g 27 (by omega)]; exact m3
  · unfold hasR at *; rw [g 3 (by omega), g 4 (by omega), g 172 (by omega), g 173 (by omega)]; simp only [x2, x3]; exact m4
  · obtain ⟨o1, o2⟩ := a7
    refine ⟨fun m hm => ?_, fun m hm hne => ?_⟩
    · rw [e170]
      by_cases e : m = cm F c
      · rw [if_pos e]; exact Or.inl rfl
      · rw [if_neg e]; exact o1 m hm
    · rw [g 171 (by omega)] at hne ⊢
      obtain ⟨q1, q2, q3⟩ := o2 m hm hne
      refine ⟨q1, q2, ?_⟩
      rw [e170]
      by_cases e : m = cm F c
      · rw [if_pos e]
      · rw [if_neg e]; exact q3
end
