/-! what is asked of a run: told, through -/
theorem i32_rng {w : Int32} {m : Nat} (hm : m < 2 ^ 31) (h1 : 0 ≤ w) (h2 : w ≤ nI m) : ∃ j, j ≤ m ∧ w = nI j := by
  obtain ⟨j, hj, e⟩ := nI_of (Int32.not_lt.mpr h1)
  subst e
  exact ⟨j, (nI_leI hj hm).mp h2, rfl⟩
theorem hp_J {F : Fx} {C : Ct} {J J' : Nat → Int64} {G : Ex} : m_set (hp F C J G) 193 (mJ 1 J') = hp F C J' G := by
  refine set_ext rfl rfl (fun k hk => ?_)
  show hf F C J' G k = hf F C J G k
  by_cases q : k < 194
  · rw [hf_lt q, hf_lt q]
    unfold sh
    have : oth F.1 F.2.1 C J' k = oth F.1 F.2.1 C J k := by
      unfold oth
      split <;> first | rfl | exact absurd rfl hk
    rw [this]
  · exact hf_ge q
section
variable {F : Fx} {C : Ct} {J : Nat → Int64} {G : Ex} {Q : mE → mH → Prop} {t P : Nat}
theorem has_of {a : Int32} (hP60 : P ≤ 60) (h : C 23 5 = nI P) (ha : 0 ≤ a ∧ a < C 23 5) : ∃ p, p < P ∧ a = nI p := by
  rw [h] at ha
  obtain ⟨j, hj, e⟩ := nI_of (Int32.not_lt.mpr ha.1)
  subst e
  exact ⟨j, (nI_ltI hj (by omega)).mp ha.2, rfl⟩
theorem Y_told {a w : Int32} (hF : okF F) (hG : okX G t) (hP60 : P ≤ 60) (hP : C 23 5 = nI P) (hb : C 0 5 = 0 ∨ C 0 5 = 1)
    (k7 : ¬ (0 ≤ a ∧ a < C 23 5) ∨ ¬ (0 ≤ w ∧ w ≤ 3) → Q (.inr (194 + G.2.1)) (hp F C J (gx G 7)))
    (k8 : ∀ p j, p < P → a = nI p → j < 4 → w = nI j → C 0 5 = 0 → Q (.inr (194 + G.2.1)) (hp F C J (gx G 8)))
    (kr : ∀ p j, p < P → a = nI p → j < 4 → w = nI j → C 0 5 = 1 → Q (.inl (some (.int (C (30 + j) p)))) (hp F C J G)) :
    Y y_Esc_told [.ref 0, .int a, .int w] (hp F C J G) Q := by
  unfold Y
  repeat (refine X_n rfl rfl rfl ?_)
  refine X_cd rfl rfl rfl rfl Y_has ?_
  refine X_z rfl (fun q => ?_) (fun q => ?_)
  · exact X_w (x := 0) hG rfl rfl rfl rfl rfl (k7 (Or.inl q))
  obtain ⟨p, hp, e⟩ := has_of hP60 hP q
  repeat (refine X_n rfl rfl rfl ?_)
  refine X_cd rfl rfl rfl rfl Y_isWithin ?_
  refine X_nz rfl (fun q2 => ?_) (fun q2 => ?_)
  · obtain ⟨j, hj, e2⟩ := i32_rng (m := 3) (by omega) q2.1 q2.2
    have k8' := k8 p j hp e (by omega) e2
    have kr' := kr p j hp e (by omega) e2
    subst e
    subst e2
    repeat (refine X_n rfl rfl rfl ?_)
    rcases hb with e | e
    · refine X_bf rfl rfl rfl (show ¬ ¬ C 0 5 = 0 from fun h => h e) ?_
      exact X_w (x := 0) hG rfl rfl rfl rfl rfl (k8' e)
    · refine X_bt rfl rfl rfl (show ¬ C 0 5 = 0 from fun h => by rw [e] at h; exact absurd h (by decide)) ?_
      have kr'' := kr' e
      have hj4 : j = 0 ∨ j = 1 ∨ j = 2 ∨ j = 3 := by omega
      rcases hj4 with e | e | e | e <;> subst e
      · repeat (refine X_n rfl rfl rfl ?_)
        refine X_m rfl rfl rfl rfl rfl rfl ?_
        repeat (refine X_n rfl rfl rfl ?_)
        refine X_la rfl rfl rfl hF (show p < 60 by omega) ?_
        exact X_r rfl rfl rfl rfl kr''
      · repeat (refine X_n rfl rfl rfl ?_)
        refine X_m rfl rfl rfl rfl rfl rfl ?_
        repeat (refine X_n rfl rfl rfl ?_)
        refine X_la rfl rfl rfl hF (show p < 60 by omega) ?_
        exact X_r rfl rfl rfl rfl kr''
      · repeat (refine X_n rfl rfl rfl ?_)
        refine X_m rfl rfl rfl rfl rfl rfl ?_
        repeat (refine X_n rfl rfl rfl ?_)
        refine X_la rfl rfl rfl hF (show p < 60 by omega) ?_
        exact X_r rfl rfl rfl rfl kr''
      · repeat (refine X_n rfl rfl rfl ?_)
        refine X_m rfl rfl rfl rfl rfl rfl ?_
        repeat (refine X_n rfl rfl rfl ?_)
        refine X_la rfl rfl rfl hF (show p < 60 by omega) ?_
        exact X_r rfl rfl rfl rfl kr''
  · exact X_w (x := 0) hG rfl rfl rfl rfl rfl (k7 (Or.inr q2))
theorem Y_mtold_no {a w : Int32} (h : ¬ (0 ≤ a ∧ a < C 169 9) ∨ ¬ (0 ≤ w ∧ w ≤ 3)) : Yd y_Model_told [.ref 169, .int a, .int w] (hp F C J G) (.inl (some (.int 0))) (hp F (st C 169 0 1) J G) := by
  refine Yd_of (fun Q k => ?_)
  unfold Y
  repeat (refine X_n rfl rfl rfl ?_)
  refine X_b rfl rfl rfl (fun q1 => ?_) (fun q1 => ?_)
  · repeat (refine X_n rfl rfl rfl ?_)
    refine X_cd rfl rfl rfl rfl Y_refuses ?_
    refine X_z rfl (fun q => absurd (by decide) q) (fun _ => ?_)
    repeat (refine X_n rfl rfl rfl ?_)
    exact X_r rfl rfl rfl rfl k
  repeat (refine X_n rfl rfl rfl ?_)
  refine X_b rfl rfl rfl (fun q2 => ?_) (fun q2 => ?_)
  · repeat (refine X_n rfl rfl rfl ?_)
    refine X_cd rfl rfl rfl rfl Y_refuses ?_
    refine X_z rfl (fun q => absurd (by decide) q) (fun _ => ?_)
    repeat (refine X_n rfl rfl rfl ?_)
    exact X_r rfl rfl rfl rfl k
  repeat (refine X_n rfl rfl rfl ?_)
  refine X_b rfl rfl rfl (fun q3 => ?_) (fun q3 => ?_)
  · repeat (refine X_n rfl rfl rfl ?_)
    refine X_cd rfl rfl rfl rfl Y_refuses ?_
    refine X_z rfl (fun q => absurd (by decide) q) (fun _ => ?_)
    repeat (refine X_n rfl rfl rfl ?_)
    exact X_r rfl rfl rfl rfl k
  repeat (refine X_n rfl rfl rfl ?_)
  refine X_b rfl rfl rfl (fun q4 => ?_) (fun q4 => ?_)
  · exfalso
    rcases h with h | h
    · exact h ⟨Int32.not_lt.mp q1, Int32.not_le.mp q2⟩
    · exact h ⟨Int32.not_lt.mp q3, q4⟩
  · repeat (refine X_n rfl rfl rfl ?_)
    refine X_cd rfl rfl rfl rfl Y_refuses ?_
    refine X_z rfl (fun q => absurd (by decide) q) (fun _ => ?_)
    repeat (refine X_n rfl rfl rfl ?_)
    exact X_r rfl rfl rfl rfl k
theorem Y_mtold_no2 {p j : Nat} (hP60 : P ≤ 60) (hP : C 169 9 = nI P) (hpP : p < P) (hj : j < 4) (hr : C 169 17 = 0) : Yd y_Model_told [.ref 169, .int (nI p), .int (nI j)] (hp F C J G) (.inl (some (.int 0))) (hp F (st C 169 0 2) J G) := by
  refine Yd_of (fun Q k => ?_)
  unfold Y
  repeat (refine X_n rfl rfl rfl ?_)
  refine X_bf rfl rfl rfl (nI_pos (by omega)) ?_
  repeat (refine X_n rfl rfl rfl ?_)
  refine X_bf rfl rfl rfl (show ¬ C 169 9 ≤ nI p by rw [hP]; exact nI_ge hpP (by omega)) ?_
  repeat (refine X_n rfl rfl rfl ?_)
  refine X_bf rfl rfl rfl (nI_pos (by omega)) ?_
  repeat (refine X_n rfl rfl rfl ?_)
  refine X_bt rfl rfl rfl (show nI j ≤ nI 3 from nI_le (by omega) (by omega)) ?_
  repeat (refine X_n rfl rfl rfl ?_)
  refine X_bf rfl rfl rfl (show ¬ ¬ C 169 17 = 0 from fun h => h hr) ?_
  repeat (refine X_n rfl rfl rfl ?_)
  refine X_cd rfl rfl rfl rfl Y_refuses ?_
  refine X_z rfl (fun q => absurd (by decide) q) (fun _ => ?_)
  repeat (refine X_n rfl rfl rfl ?_)
  exact X_r rfl rfl rfl rfl k
theorem Y_mtold {p j : Nat} (hF : okF F) (hP60 : P ≤ 60) (hP : C 169 9 = nI P) (hpP : p < P) (hj : j < 4) (hr : C 169 17 = 1) : Yd y_Model_told [.ref 169, .int (nI p), .int (nI j)] (hp F C J G) (.inl (some (.int (C (181 + j) p)))) (hp F (st C 169 0 0) J G) := by
  refine Yd_of (fun Q k => ?_)
  unfold Y
  repeat (refine X_n rfl rfl rfl ?_)
  refine X_bf rfl rfl rfl (nI_pos (by omega)) ?_
  repeat (refine X_n rfl rfl rfl ?_)
  refine X_bf rfl rfl rfl (show ¬ C 169 9 ≤ nI p by rw [hP]; exact nI_ge hpP (by omega)) ?_
  repeat (refine X_n rfl rfl rfl ?_)
  refine X_bf rfl rfl rfl (nI_pos (by omega)) ?_
  repeat (refine X_n rfl rfl rfl ?_)
  refine X_bt rfl rfl rfl (show nI j ≤ nI 3 from nI_le (by omega) (by omega)) ?_
  repeat (refine X_n rfl rfl rfl ?_)
  refine X_bt rfl rfl rfl (show ¬ C 169 17 = 0 from fun h => by rw [hr] at h; exact absurd h (by decide)) ?_
  repeat (refine X_n rfl rfl rfl ?_)
  refine X_cd rfl rfl rfl rfl Y_refuses ?_
  refine X_z rfl (fun _ => ?_) (fun q => absurd q (by decide))
  have hj4 : j = 0 ∨ j = 1 ∨ j = 2 ∨ j = 3 := by omega
  rcases hj4 with e | e | e | e <;> subst e
  · repeat (refine X_n rfl rfl rfl ?_)
    refine X_bf rfl rfl rfl (show ¬ ¬ nI 0 = 0 from fun h => h rfl) ?_
    repeat (refine X_n rfl rfl rfl ?_)
    refine X_la rfl rfl rfl hF (show p < 60 by omega) ?_
    repeat (refine X_n rfl rfl rfl ?_)
    exact X_r rfl rfl rfl rfl k
  · repeat (refine X_n rfl rfl rfl ?_)
    refine X_bt rfl rfl rfl (show ¬ nI 1 = 0 by decide) ?_
    repeat (refine X_n rfl rfl rfl ?_)
    refine X_bf rfl rfl rfl (show ¬ ¬ nI 1 = 1 from fun h => h rfl) ?_
    repeat (refine X_n rfl rfl rfl ?_)
    refine X_la rfl rfl rfl hF (show p < 60 by omega) ?_
    repeat (refine X_n rfl rfl rfl ?_)
    exact X_r rfl rfl rfl rfl k
  · repeat (refine X_n rfl rfl rfl ?_)
    refine X_bt rfl rfl rfl (show ¬ nI 2 = 0 by decide) ?_
    repeat (refine X_n rfl rfl rfl ?_)
    refine X_bt rfl rfl rfl (show ¬ nI 2 = 1 by decide) ?_
    repeat (refine X_n rfl rfl rfl ?_)
    refine X_bf rfl rfl rfl (show ¬ ¬ nI 2 = 2 from fun h => h rfl) ?_
    repeat (refine X_n rfl rfl rfl ?_)
    refine X_la rfl rfl rfl hF (show p < 60 by omega) ?_
    repeat (refine X_n rfl rfl rfl ?_)
    exact X_r rfl rfl rfl rfl k
  · repeat (refine X_n rfl rfl rfl ?_)
    refine X_bt rfl rfl rfl (show ¬ nI 3 = 0 by decide) ?_
    repeat (refine X_n rfl rfl rfl ?_)
    refine X_bt rfl rfl rfl (show ¬ nI 3 = 1 by decide) ?_
    repeat (refine X_n rfl rfl rfl ?_)
    refine X_bt rfl rfl rfl (show ¬ nI 3 = 2 by decide) ?_
    repeat (refine X_n rfl rfl rfl ?_)
    refine X_la rfl rfl rfl hF (show p < 60 by omega) ?_
    exact X_r rfl rfl rfl rfl k
theorem Y_through {x z : Int32} (hF : okF F) (hG : okX G t) (hb : C 0 5 = 0 ∨ C 0 5 = 1)
    (k7 : (x < 0 ∨ nI F.1 ≤ x ∨ z < 0 ∨ nI F.2.1 ≤ z) → Q (.inr (194 + G.2.1)) (hp F C J (gx G 7)))
    (k8 : ∀ i j, i < F.1 → j < F.2.1 → x = nI i → z = nI j → C 0 5 = 0 → Q (.inr (194 + G.2.1)) (hp F C J (gx G 8)))
    (kr : ∀ i j, i < F.1 → j < F.2.1 → x = nI i → z = nI j → C 0 5 = 1 → Q (.inl (some (.int (C 34 (j * F.1 + i))))) (hp F C J G)) :
    Y y_Esc_through [.ref 0, .int x, .int z] (hp F C J G) Q := by
  have hn := hF.n
  unfold Y
  repeat (refine X_n rfl rfl rfl ?_)
  refine X_k rfl rfl rfl rfl (Y_cellOfK hF (fun h => ?_) (fun i j hi hj e1 e2 => ?_))
  · dsimp only
    repeat (refine X_n rfl rfl rfl ?_)
    refine X_bf rfl rfl rfl (fun h => h rfl) ?_
    exact X_w (x := 0) hG rfl rfl rfl rfl rfl (k7 h)
  · dsimp only
    have hc := ji_lt hi hj
    repeat (refine X_n rfl rfl rfl ?_)
    refine X_bt rfl rfl rfl (nI_nm1 (by omega)) ?_
    repeat (refine X_n rfl rfl rfl ?_)
    rcases hb with e | e
    · refine X_bf rfl rfl rfl (show ¬ ¬ C 0 5 = 0 from fun h => h e) ?_
      exact X_w (x := 0) hG rfl rfl rfl rfl rfl (k8 i j hi hj e1 e2 e)
    · refine X_bt rfl rfl rfl (show ¬ C 0 5 = 0 from fun h => by rw [e] at h; exact absurd h (by decide)) ?_
      repeat (refine X_n rfl rfl rfl ?_)
      refine X_la rfl rfl rfl hF hc ?_
      exact X_r rfl rfl rfl rfl (kr i j hi hj e1 e2 e)
theorem Y_mthrough_no {x z : Int32} (h : x < 0 ∨ nI F.1 ≤ x ∨ z < 0 ∨ nI F.2.1 ≤ z) : Yd y_Model_through [.ref 169, .int x, .int z] (hp F C J G) (.inl (some (.int 0))) (hp F (st C 169 0 1) J G) := by
  refine Yd_of (fun Q k => ?_)
  unfold Y
  repeat (refine X_n rfl rfl rfl ?_)
  refine X_cd rfl rfl rfl rfl Y_isCell ?_
  refine X_nz rfl (fun q => ?_) (fun q => ?_)
  · exact absurd q (inC_no h)
  · repeat (refine X_n rfl rfl rfl ?_)
    refine X_cd rfl rfl rfl rfl Y_refuses ?_
    refine X_z rfl (fun q2 => ?_) (fun q2 => ?_)
    · exact absurd (by decide) q2
    · repeat (refine X_n rfl rfl rfl ?_)
      exact X_r rfl rfl rfl rfl k
theorem Y_mthrough_no2 {i j : Nat} (hF : okF F) (hi : i < F.1) (hj : j < F.2.1) (hr : C 169 17 = 0) : Yd y_Model_through [.ref 169, .int (nI i), .int (nI j)] (hp F C J G) (.inl (some (.int 0))) (hp F (st C 169 0 2) J G) := by
  refine Yd_of (fun Q k => ?_)
  unfold Y
  repeat (refine X_n rfl rfl rfl ?_)
  refine X_cd rfl rfl rfl rfl Y_isCell ?_
  refine X_nz rfl (fun q => ?_) (fun q => ?_)
  · repeat (refine X_n rfl rfl rfl ?_)
    refine X_bf rfl rfl rfl (show ¬ ¬ C 169 17 = 0 from fun h => h hr) ?_
    repeat (refine X_n rfl rfl rfl ?_)
    refine X_cd rfl rfl rfl rfl Y_refuses ?_
    refine X_z rfl (fun q2 => ?_) (fun q2 => ?_)
    · exact absurd (by decide) q2
    · repeat (refine X_n rfl rfl rfl ?_)
      exact X_r rfl rfl rfl rfl k
  · exact absurd (inC_yes hF hi hj) q
theorem Y_mthrough {i j : Nat} (hF : okF F) (hi : i < F.1) (hj : j < F.2.1) (hr : C 169 17 = 1) : Yd y_Model_through [.ref 169, .int (nI i), .int (nI j)] (hp F C J G) (.inl (some (.int (C 189 (24 * j + i))))) (hp F (st C 169 0 0) J G) := by
  refine Yd_of (fun Q k => ?_)
  have hm := m576 hF hi hj
  unfold Y
  repeat (refine X_n rfl rfl rfl ?_)
  refine X_cd rfl rfl rfl rfl Y_isCell ?_
  refine X_nz rfl (fun q => ?_) (fun q => ?_)
  · repeat (refine X_n rfl rfl rfl ?_)
    refine X_bt rfl rfl rfl (show ¬ C 169 17 = 0 from fun h => by rw [hr] at h; exact absurd h (by decide)) ?_
    repeat (refine X_n rfl rfl rfl ?_)
    refine X_cd rfl rfl rfl rfl Y_refuses ?_
    refine X_z rfl (fun q2 => ?_) (fun q2 => ?_)
    · repeat (refine X_n rfl rfl rfl ?_)
      refine X_cd rfl rfl rfl rfl (Y_mcell _) ?_
      refine X_la rfl rfl rfl hF (show 24 * j + i < 576 from hm) ?_
      exact X_r rfl rfl rfl rfl k
    · exact absurd q2 (by decide)
  · exact absurd (inC_yes hF hi hj) q
end
