/-! the storey is laid, cell by cell -/
def coI (w h : Nat) (x z : Int32) : Int32 := if x < 0 ∨ nI w ≤ x ∨ z < 0 ∨ nI h ≤ z then -1 else z * nI w + x
/-- beside the cell in column i, row j -/
def bsV (w h i j v : Nat) : Int32 := coI w h (nI i + m_SX v) (nI j + m_SY v)
section
variable {L s w h i j c : Nat} {xs : Nat → Int32} {Q : mE → mH → Prop} {x y b : Nat → Int32}
theorem s1_7 {v : Nat → Int32} : m_set (bh L xs 10 (s1 w h x y b) s) 7 (mI (w * h) v) = bh L xs 10 (s1 w h v y b) s := by
  rw [bh_set (by omega)]
  refine bh_ext fun k hk => ?_
  have : k = 0 ∨ k = 1 ∨ k = 2 ∨ k = 3 ∨ k = 4 ∨ k = 5 ∨ k = 6 ∨ k = 7 ∨ k = 8 ∨ k = 9 := by omega
  rcases this with e | e | e | e | e | e | e | e | e | e <;> subst e <;> rfl
theorem s1_8 {v : Nat → Int32} : m_set (bh L xs 10 (s1 w h x y b) s) 8 (mI (w * h) v) = bh L xs 10 (s1 w h x v b) s := by
  rw [bh_set (by omega)]
  refine bh_ext fun k hk => ?_
  have : k = 0 ∨ k = 1 ∨ k = 2 ∨ k = 3 ∨ k = 4 ∨ k = 5 ∨ k = 6 ∨ k = 7 ∨ k = 8 ∨ k = 9 := by omega
  rcases this with e | e | e | e | e | e | e | e | e | e <;> subst e <;> rfl
theorem s1_9 {v : Nat → Int32} : m_set (bh L xs 10 (s1 w h x y b) s) 9 (mI (4 * (w * h)) v) = bh L xs 10 (s1 w h x y v) s := by
  rw [bh_set (by omega)]
  refine bh_ext fun k hk => ?_
  have : k = 0 ∨ k = 1 ∨ k = 2 ∨ k = 3 ∨ k = 4 ∨ k = 5 ∨ k = 6 ∨ k = 7 ∨ k = 8 ∨ k = 9 := by omega
  rcases this with e | e | e | e | e | e | e | e | e | e <;> subst e <;> rfl
theorem Y_cellOfB {p q : Int32} : Yd y_Storey_cellOf [.ref 1, .int p, .int q] (bh L xs 10 (s1 w h x y b) s) (.inl (some (.int (coI w h p q)))) (bh L xs 10 (s1 w h x y b) s) := by
  refine Yd_of (fun Q k => ?_)
  have kn : (p < 0 ∨ nI w ≤ p ∨ q < 0 ∨ nI h ≤ q) → Q (.inl (some (.int (-1)))) (bh L xs 10 (s1 w h x y b) s) := fun c => by unfold coI at k; rw [if_pos c] at k; exact k
  have ky : ¬ (p < 0 ∨ nI w ≤ p ∨ q < 0 ∨ nI h ≤ q) → Q (.inl (some (.int (q * nI w + p)))) (bh L xs 10 (s1 w h x y b) s) := fun c => by unfold coI at k; rw [if_neg c] at k; exact k
  unfold Y
  repeat (refine X_n rfl rfl rfl ?_)
  refine X_b rfl rfl rfl (fun q1 => ?_) (fun q1 => ?_)
  · repeat (refine X_n rfl rfl rfl ?_)
    exact X_r rfl rfl rfl rfl (kn (Or.inl q1))
  repeat (refine X_n rfl rfl rfl ?_)
  refine X_b rfl rfl rfl (fun q2 => ?_) (fun q2 => ?_)
  · repeat (refine X_n rfl rfl rfl ?_)
    exact X_r rfl rfl rfl rfl (kn (Or.inr (Or.inl q2)))
  repeat (refine X_n rfl rfl rfl ?_)
  refine X_b rfl rfl rfl (fun q3 => ?_) (fun q3 => ?_)
  · repeat (refine X_n rfl rfl rfl ?_)
    exact X_r rfl rfl rfl rfl (kn (Or.inr (Or.inr (Or.inl q3))))
  repeat (refine X_n rfl rfl rfl ?_)
  refine X_b rfl rfl rfl (fun q4 => ?_) (fun q4 => ?_)
  · repeat (refine X_n rfl rfl rfl ?_)
    refine X_r rfl rfl rfl rfl (ky (fun g => ?_))
    rcases g with g | g | g | g
    · exact q1 g
    · exact q2 g
    · exact q3 g
    · exact Int32.not_lt.mpr g q4
  · repeat (refine X_n rfl rfl rfl ?_)
    exact X_r rfl rfl rfl rfl (kn (Or.inr (Or.inr (Or.inr (Int32.not_lt.mp q4)))))
theorem Y_layCell_loop (hw : 2 ≤ w ∧ w ≤ 24) (hh : 2 ≤ h ∧ h ≤ 24) (hi : i < w) (hj : j < h) (hc : c = j * w + i) (hcn : c < w * h)
    (kk : ∀ B, (∀ v, v < 4 → B (c * 4 + v) = bsV w h i j v) → (∀ e, e < c * 4 ∨ c * 4 + 4 ≤ e → B e = b e) → Q (.inl none) (bh L xs 10 (s1 w h x y B) s)) :
    ∀ d v B, v + d = 4 → (∀ u, u < v → B (c * 4 + u) = bsV w h i j u) → (∀ e, e < c * 4 ∨ c * 4 + 4 ≤ e → B e = b e) → X y_Storey_layCell 26 [some (.ref 1), some (.int (nI i)), some (.int (nI j)), some (.int (nI c)), some (.int (nI v))] [] (bh L xs 10 (s1 w h x y B) s) Q := by
  have hn : w * h ≤ 576 := Nat.mul_le_mul hw.2 hh.2
  intro d
  induction d with
  | zero =>
    intro v B hd h1 h2
    have : v = 4 := by omega
    subst this
    repeat (refine X_n rfl rfl rfl ?_)
    refine X_bt rfl rfl rfl (Int32.le_refl _) ?_
    exact X_r rfl rfl rfl rfl (kk B h1 h2)
  | succ d ih =>
    intro v B hd h1 h2
    repeat (refine X_n rfl rfl rfl ?_)
    refine X_bf rfl rfl rfl (show ¬ nI 4 ≤ nI v from nI_ge (by omega) (by omega)) ?_
    iterate 7 (refine X_n rfl rfl rfl ?_)
    refine X_top (w := nI (c * 4 + v)) (by rw [show nI c * Int32.ofInt 4 = nI (c * 4) from pk_mul c 4, nI_add]) ?_
    repeat (refine X_n rfl rfl rfl ?_)
    refine X_li (k := v) (n := 4) (f := m_SX) rfl rfl rfl (by omega) (by omega) ?_
    repeat (refine X_n rfl rfl rfl ?_)
    refine X_li (k := v) (n := 4) (f := m_SY) rfl rfl rfl (by omega) (by omega) ?_
    repeat (refine X_n rfl rfl rfl ?_)
    refine X_cd rfl rfl rfl rfl Y_cellOfB ?_
    refine X_ti (k := c * 4 + v) (n := 4 * (w * h)) rfl rfl (by omega) rfl (by omega) (by omega) ?_
    rw [s1_9]
    iterate 2 (refine X_n rfl rfl rfl ?_)
    rw [nI_1']
    refine ih (v + 1) _ (by omega) (fun u hu => ?_) (fun e he => ?_)
    · show (if c * 4 + u = c * 4 + v then _ else B (c * 4 + u)) = _
      by_cases q : u = v
      · subst q; rw [if_pos rfl]; rfl
      · rw [if_neg (by omega)]; exact h1 u (by omega)
    · show (if e = c * 4 + v then _ else B e) = _
      rw [if_neg (by omega)]; exact h2 e he
theorem Y_layCell (hw : 2 ≤ w ∧ w ≤ 24) (hh : 2 ≤ h ∧ h ≤ 24) (hi : i < w) (hj : j < h) (hc : c = j * w + i) (hcn : c < w * h)
    (kk : ∀ B, (∀ v, v < 4 → B (c * 4 + v) = bsV w h i j v) → (∀ e, e < c * 4 ∨ c * 4 + 4 ≤ e → B e = b e) → Q (.inl none) (bh L xs 10 (s1 w h (upd x c (nI i)) (upd y c (nI j)) B) s)) :
    Y y_Storey_layCell [.ref 1, .int (nI i), .int (nI j)] (bh L xs 10 (s1 w h x y b) s) Q := by
  have hn : w * h ≤ 576 := Nat.mul_le_mul hw.2 hh.2
  unfold Y
  iterate 6 (refine X_n rfl rfl rfl ?_)
  refine X_top (w := nI c) (by rw [pk_mul, nI_add, hc]) ?_
  repeat (refine X_n rfl rfl rfl ?_)
  refine X_ti (k := c) (n := w * h) rfl rfl (by omega) rfl hcn (by omega) ?_
  rw [s1_7]
  repeat (refine X_n rfl rfl rfl ?_)
  refine X_ti (k := c) (n := w * h) rfl rfl (by omega) rfl hcn (by omega) ?_
  rw [s1_8]
  iterate 2 (refine X_n rfl rfl rfl ?_)
  exact Y_layCell_loop hw hh hi hj hc hcn kk 4 0 b (by omega) (fun u hu => by omega) (fun e _ => rfl)
/-- what is laid of the cells below c -/
def laid (w h c : Nat) (x y b : Nat → Int32) : Prop := ∀ a, a < c → x a = nI (a % w) ∧ y a = nI (a / w) ∧ ∀ v, v < 4 → b (a * 4 + v) = bsV w h (a % w) (a / w) v
theorem Y_Storey_in (hw : 2 ≤ w ∧ w ≤ 24) (hh : 2 ≤ h ∧ h ≤ 24) (hj : j < h)
    (kk : ∀ x y b, laid w h (j * w + w) x y b → X y_Storey_init 159 [some (.ref 1), some (.int (nI w)), some (.int (nI h)), some (.int (nI j)), some (.int (nI w))] [] (bh L xs 10 (s1 w h x y b) s) Q) :
    ∀ d i x y b, i + d = w → laid w h (j * w + i) x y b → X y_Storey_init 140 [some (.ref 1), some (.int (nI w)), some (.int (nI h)), some (.int (nI j)), some (.int (nI i))] [] (bh L xs 10 (s1 w h x y b) s) Q := by
  have hn : w * h ≤ 576 := Nat.mul_le_mul hw.2 hh.2
  intro d
  induction d with
  | zero =>
    intro i x y b hd hl
    have : i = w := by omega
    subst this
    repeat (refine X_n rfl rfl rfl ?_)
    refine X_bt rfl rfl rfl (Int32.le_refl _) ?_
    exact kk x y b hl
  | succ d ih =>
    intro i x y b hd hl
    have hi : i < w := by omega
    have hcn : j * w + i < w * h := by
      calc j * w + i < j * w + w := by omega
        _ = (j + 1) * w := by rw [Nat.succ_mul]
        _ ≤ h * w := Nat.mul_le_mul_right _ hj
        _ = w * h := Nat.mul_comm _ _
    have hmod : (j * w + i) % w = i := by rw [Nat.add_comm, Nat.add_mul_mod_self_right, Nat.mod_eq_of_lt hi]
    have hdiv : (j * w + i) / w = j := by rw [Nat.add_comm, Nat.add_mul_div_right _ _ (by omega), Nat.div_eq_of_lt hi, Nat.zero_add]
    repeat (refine X_n rfl rfl rfl ?_)
    refine X_bf rfl rfl rfl (show ¬ nI w ≤ nI i from nI_ge hi (by omega)) ?_
    repeat (refine X_n rfl rfl rfl ?_)
    refine X_k rfl rfl rfl rfl (Y_layCell hw hh hi hj rfl hcn (fun B h1 h2 => ?_))
    dsimp only
    iterate 2 (refine X_n rfl rfl rfl ?_)
    rw [nI_1']
    refine ih (i + 1) _ _ B (by omega) (fun a ha => ?_)
    by_cases e : a = j * w + i
    · subst e
      rw [hmod, hdiv]
      exact ⟨if_pos rfl, if_pos rfl, h1⟩
    · obtain ⟨l1, l2, l3⟩ := hl a (by omega)
      refine ⟨(if_neg e).trans l1, (if_neg e).trans l2, fun v hv => ?_⟩
      rw [h2 _ (by omega)]
      exact l3 v hv
theorem Y_Storey_out (hw : 2 ≤ w ∧ w ≤ 24) (hh : 2 ≤ h ∧ h ≤ 24)
    (kk : ∀ x y b, laid w h (w * h) x y b → Q (.inl none) (bh L xs 10 (s1 w h x y b) s)) :
    ∀ d j x y b x4, j + d = h → laid w h (j * w) x y b → X y_Storey_init 132 [some (.ref 1), some (.int (nI w)), some (.int (nI h)), some (.int (nI j)), x4] [] (bh L xs 10 (s1 w h x y b) s) Q := by
  intro d
  induction d with
  | zero =>
    intro j x y b x4 hd hl
    have : j = h := by omega
    subst this
    repeat (refine X_n rfl rfl rfl ?_)
    refine X_bt rfl rfl rfl (Int32.le_refl _) ?_
    exact X_r rfl rfl rfl rfl (kk x y b (by rw [Nat.mul_comm]; exact hl))
  | succ d ih =>
    intro j x y b x4 hd hl
    repeat (refine X_n rfl rfl rfl ?_)
    refine X_bf rfl rfl rfl (show ¬ nI h ≤ nI j from nI_ge (by omega) (by omega)) ?_
    iterate 2 (refine X_n rfl rfl rfl ?_)
    refine Y_Storey_in hw hh (by omega) (fun x y b hl2 => ?_) w 0 x y b (by omega) hl
    iterate 2 (refine X_n rfl rfl rfl ?_)
    rw [nI_1']
    refine ih (j + 1) x y b _ (by omega) ?_
    rw [Nat.succ_mul]; exact hl2
theorem Y_Storey (hw : 2 ≤ w ∧ w ≤ 24) (hh : 2 ≤ h ∧ h ≤ 24)
    (kk : ∀ x y b, laid w h (w * h) x y b → Q (.inl none) (bh L xs 10 (s1 w h x y b) (s + w * h + w * h + w * h + w * h + 8 + w * h + w * h + w * h * 4))) :
    Y y_Storey_init [.ref 1, .int (nI w), .int (nI h)] (bh L xs 2 (fun k => match k with | 0 => mO 5 (m_df 5) | _ => mO 4 (m_df 4)) s) Q := by
  refine Y_Storey1 hw hh ?_
  iterate 2 (refine X_n rfl rfl rfl ?_)
  exact Y_Storey_out hw hh kk h 0 _ _ _ _ (by omega) (fun a ha => by omega)
/-- so the cells beside are as the reference has them -/
theorem bsV_eq {F : Fx} (hF : okF F) {a v : Nat} (ha : a < F.1 * F.2.1) (hv : v < 4) : bsV F.1 F.2.1 (a % F.1) (a / F.1) v = (match bsN F (cm F a) v with | some m => nI (mc F m) | none => -1) := by
  obtain ⟨⟨f1, f2⟩, ⟨f3, f4⟩, -⟩ := id hF
  obtain ⟨d1, d2⟩ := cm_div hF ha
  obtain ⟨c1, c2, -, -⟩ := cm_in hF ha
  have hcm : cm F a = 24 * (a / F.1) + a % F.1 := rfl
  generalize a % F.1 = i at *
  generalize a / F.1 = j at *
  have hv4 : v = 0 ∨ v = 1 ∨ v = 2 ∨ v = 3 := by omega
  rw [hcm] at c1 c2 ⊢
  unfold bsV coI
  rcases hv4 with e | e | e | e <;> subst e
  · rw [show nI i + m_SX 0 = nI (i + 1) from nI_1 i, show nI j + m_SY 0 = nI j from nI_add j 0]
    by_cases q : i + 1 < F.1
    · have hb : bsN F (24 * j + i) 0 = some (24 * j + i + 1) := by unfold bsN; rw [if_pos rfl, c1, c2, if_pos ⟨q, d2⟩]
      rw [hb, if_neg]
      · show _ = nI (mc F (24 * j + i + 1))
        unfold mc
        rw [show (24 * j + i + 1) / 24 = j by omega, show (24 * j + i + 1) % 24 = i + 1 by omega, pk_mul, nI_add]
      · rintro (g | g | g | g)
        · exact nI_pos (by omega) g
        · exact nI_ge q (by omega) g
        · exact nI_pos (by omega) g
        · exact nI_ge d2 (by omega) g
    · have hb : bsN F (24 * j + i) 0 = none := by unfold bsN; rw [if_pos rfl, c1, c2, if_neg (fun g => q g.1)]
      rw [hb, if_pos (Or.inr (Or.inl (nI_le (by omega) (by omega))))]
  · rw [show nI j + m_SY 1 = nI j from nI_add j 0]
    by_cases q : 1 ≤ i
    · have hb : bsN F (24 * j + i) 1 = some (24 * j + i - 1) := by unfold bsN; rw [if_neg (by omega), if_pos rfl, c1, c2, if_pos ⟨q, by omega, d2⟩]
      rw [hb]
      obtain ⟨i', rfl⟩ : ∃ i', i = i' + 1 := ⟨i - 1, by omega⟩
      rw [show nI (i' + 1) + m_SX 1 = nI i' from pk_m1 i', if_neg]
      · show _ = nI (mc F (24 * j + (i' + 1) - 1))
        unfold mc
        rw [show (24 * j + (i' + 1) - 1) / 24 = j by omega, show (24 * j + (i' + 1) - 1) % 24 = i' by omega, pk_mul, nI_add]
      · rintro (g | g | g | g)
        · exact nI_pos (by omega) g
        · exact nI_ge (show i' < F.1 by omega) (by omega) g
        · exact nI_pos (by omega) g
        · exact nI_ge d2 (by omega) g
    · have hb : bsN F (24 * j + i) 1 = none := by unfold bsN; rw [if_neg (by omega), if_pos rfl, c1, c2, if_neg (fun g => q g.1)]
      have : i = 0 := by omega
      subst this
      rw [hb, if_pos (Or.inl (by decide))]
  · rw [show nI i + m_SX 2 = nI i from nI_add i 0, show nI j + m_SY 2 = nI (j + 1) from nI_1 j]
    by_cases q : j + 1 < F.2.1
    · have hb : bsN F (24 * j + i) 2 = some (24 * j + i + 24) := by unfold bsN; rw [if_neg (by omega), if_neg (by omega), if_pos rfl, c1, c2, if_pos ⟨d1, q⟩]
      rw [hb, if_neg]
      · show _ = nI (mc F (24 * j + i + 24))
        unfold mc
        rw [show (24 * j + i + 24) / 24 = j + 1 by omega, show (24 * j + i + 24) % 24 = i by omega, pk_mul, nI_add]
      · rintro (g | g | g | g)
        · exact nI_pos (by omega) g
        · exact nI_ge d1 (by omega) g
        · exact nI_pos (by omega) g
        · exact nI_ge q (by omega) g
    · have hb : bsN F (24 * j + i) 2 = none := by unfold bsN; rw [if_neg (by omega), if_neg (by omega), if_pos rfl, c1, c2, if_neg (fun g => q g.2)]
      rw [hb, if_pos (Or.inr (Or.inr (Or.inr (nI_le (by omega) (by omega)))))]
  · rw [show nI i + m_SX 3 = nI i from nI_add i 0]
    by_cases q : 1 ≤ j
    · have hb : bsN F (24 * j + i) 3 = some (24 * j + i - 24) := by unfold bsN; rw [if_neg (by omega), if_neg (by omega), if_neg (by omega), c1, c2, if_pos ⟨d1, q, by omega⟩]
      rw [hb]
      obtain ⟨j', rfl⟩ : ∃ j', j = j' + 1 := ⟨j - 1, by omega⟩
      rw [show nI (j' + 1) + m_SY 3 = nI j' from pk_m1 j', if_neg]
      · show _ = nI (mc F (24 * (j' + 1) + i - 24))
        unfold mc
        rw [show (24 * (j' + 1) + i - 24) / 24 = j' by omega, show (24 * (j' + 1) + i - 24) % 24 = i by omega, pk_mul, nI_add]
      · rintro (g | g | g | g)
        · exact nI_pos (by omega) g
        · exact nI_ge d1 (by omega) g
        · exact nI_pos (by omega) g
        · exact nI_ge (show j' < F.2.1 by omega) (by omega) g
    · have hb : bsN F (24 * j + i) 3 = none := by unfold bsN; rw [if_neg (by omega), if_neg (by omega), if_neg (by omega), c1, c2, if_neg (fun g => q g.2.1)]
      have : j = 0 := by omega
      subst this
      rw [hb, if_pos (Or.inr (Or.inr (Or.inl (by decide))))]
end
