/-! walk, turns -/
/-- a cell beside, with a lesser number -/
def lsC (F : Fx) (C : Ct) (c w : Nat) : Prop := ∃ b, nbC C c w = some b ∧ ¬ nuC F C 0 b = -1 ∧ nuC F C 0 b < nuC F C 0 c
noncomputable def lsN (F : Fx) (C : Ct) (c : Nat) : Nat → Nat
  | 0 => 0
  | w + 1 => lsN F C c w + m_if (lsC F C c w) 1 0
def isT (F : Fx) (C : Ct) (c : Nat) : Prop := 2 ≤ lsN F C c 4
section
variable {F : Fx} {C D : Ct} {J : Nat → Int64} {G : Ex} {Q : mE → mH → Prop} {t P e c : Nat}
theorem lsN_le {w : Nat} : lsN F C c w ≤ w := by
  induction w with
  | zero => exact Nat.le_refl 0
  | succ w ih =>
    rw [lsN]
    by_cases h : lsC F C c w
    · rw [m_if_t h]; omega
    · rw [m_if_f h]; omega
theorem Y_isTurn_loop (hF : okF F) (hB : okB F C) (hr : row0 F C) (hc : c < F.1 * F.2.1) (kk : ∀ v, v = bI (decide (2 ≤ lsN F C c 4)) → Q (.inl (some (.int v))) (hp F C J G)) :
    ∀ d w x5, w + d = 4 → X y_Signposts_isTurn 5 [some (.ref 164), some (.int (nI c)), some (.ref 12), some (.int (nI (lsN F C c w))), some (.int (nI w)), x5] [] (hp F C J G) Q := by
  have hn := hF.n
  intro d
  induction d with
  | zero =>
    intro w x5 hd
    have : w = 4 := by omega
    subst this
    have hl := lsN_le (F := F) (C := C) (c := c) (w := 4)
    repeat (refine X_n rfl rfl rfl ?_)
    refine X_bt rfl rfl rfl (Int32.le_refl _) ?_
    repeat (refine X_n rfl rfl rfl ?_)
    refine X_b rfl rfl rfl (fun q => ?_) (fun q => ?_)
    · have q : lsN F C c 4 < 2 := (nI_ltI (b := 2) (by omega) (by omega)).mp q
      have kk := kk 0 (by rw [decide_eq_false (by omega)]; rfl)
      repeat (refine X_n rfl rfl rfl ?_)
      exact X_r rfl rfl rfl rfl kk
    · have q : ¬ lsN F C c 4 < 2 := fun h => q (nI_lt (b := 2) h (by omega))
      have kk := kk 1 (by rw [decide_eq_true (by omega)]; rfl)
      repeat (refine X_n rfl rfl rfl ?_)
      exact X_r rfl rfl rfl rfl kk
  | succ d ih =>
    intro w x5 hd
    have no : ¬ lsC F C c w → ∀ x5, X y_Signposts_isTurn 50 [some (.ref 164), some (.int (nI c)), some (.ref 12), some (.int (nI (lsN F C c w))), some (.int (nI w)), x5] [] (hp F C J G) Q := by
      intro h x5
      have ih := ih (w + 1) x5 (by omega)
      rw [lsN, m_if_f h] at ih
      iterate 2 (refine X_n rfl rfl rfl ?_)
      rw [nI_1']
      exact ih
    repeat (refine X_n rfl rfl rfl ?_)
    refine X_bf rfl rfl rfl (show ¬ nI 4 ≤ nI w from nI_ge (by omega) (by omega)) ?_
    repeat (refine X_n rfl rfl rfl ?_)
    refine X_cd rfl rfl rfl rfl (Y_openBeside hF hB hc (show w < 4 by omega)) ?_
    rcases opB_cases hn hB hc (show w < 4 by omega) with ⟨e1, e2⟩ | ⟨b, hb, e1, e2, -, -⟩
    · rw [e1]
      repeat (refine X_n rfl rfl rfl ?_)
      refine X_bt rfl rfl rfl rfl ?_
      exact no (fun ⟨b, h, _⟩ => by rw [e2] at h; cases h) _
    · rw [e1]
      have hls : lsC F C c w → ¬ nuC F C 0 b = -1 ∧ nuC F C 0 b < nuC F C 0 c := fun ⟨b', h, g⟩ => by rw [e2] at h; cases h; exact g
      repeat (refine X_n rfl rfl rfl ?_)
      refine X_bf rfl rfl rfl (nI_nm1 (by omega)) ?_
      repeat (refine X_n rfl rfl rfl ?_)
      refine X_la rfl rfl rfl hF hb ?_
      rw [hr b hb]
      repeat (refine X_n rfl rfl rfl ?_)
      refine X_b rfl rfl rfl (fun q1 => ?_) (fun q1 => ?_)
      · exact no (fun h => (hls h).1 q1) _
      repeat (refine X_n rfl rfl rfl ?_)
      refine X_la rfl rfl rfl hF hb ?_
      rw [hr b hb]
      repeat (refine X_n rfl rfl rfl ?_)
      refine X_la rfl rfl rfl hF hc ?_
      rw [hr c hc]
      refine X_b rfl rfl rfl (fun q2 => ?_) (fun q2 => ?_)
      · exact no (fun h => Int32.not_lt.mpr q2 (hls h).2) _
      have ih := ih (w + 1) (some (.int (nI b))) (by omega)
      rw [lsN, m_if_t ⟨b, e2, q1, Int32.not_le.mp q2⟩] at ih
      iterate 3 (refine X_n rfl rfl rfl ?_)
      rw [nI_1', nI_1']
      exact ih
theorem Y_isTurn (hF : okF F) (hB : okB F C) (hr : row0 F C) (hc : c < F.1 * F.2.1) : Yd y_Signposts_isTurn [.ref 164, .int (nI c), .ref 12] (hp F C J G) (.inl (some (.int (bI (decide (2 ≤ lsN F C c 4)))))) (hp F C J G) := by
  refine Yd_of (fun Q k => ?_)
  unfold Y
  iterate 4 (refine X_n rfl rfl rfl ?_)
  exact Y_isTurn_loop hF hB hr hc (fun v e => by rw [e]; exact k) 4 0 none (by omega)
theorem Y_cntT_loop (hF : okF F) (hB : okB F C) (hr : row0 F C) (kk : Q (.inl (some (.int (nI (lst (isT F C) (F.1 * F.2.1)).length)))) (hp F C J G)) :
    ∀ d i, i + d = F.1 * F.2.1 → X y_Signposts_countTurns 4 [some (.ref 164), some (.ref 12), some (.int (nI (lst (isT F C) i).length)), some (.int (nI i))] [] (hp F C J G) Q := by
  have hn := hF.n
  intro d
  induction d with
  | zero =>
    intro i hd
    have : i = F.1 * F.2.1 := by omega
    subst this
    repeat (refine X_n rfl rfl rfl ?_)
    refine X_bt rfl rfl rfl (show nI (F.1 * F.2.1) ≤ nI (F.1 * F.2.1) from Int32.le_refl _) ?_
    repeat (refine X_n rfl rfl rfl ?_)
    exact X_r rfl rfl rfl rfl kk
  | succ d ih =>
    intro i hd
    have ih := ih (i + 1) (by omega)
    repeat (refine X_n rfl rfl rfl ?_)
    refine X_bf rfl rfl rfl (show ¬ nI (F.1 * F.2.1) ≤ nI i from nI_ge (by omega) (by omega)) ?_
    repeat (refine X_n rfl rfl rfl ?_)
    refine X_cd rfl rfl rfl rfl (Y_isTurn hF hB hr (show i < F.1 * F.2.1 by omega)) ?_
    refine X_z rfl (fun q => ?_) (fun q => ?_)
    · rw [lst_f (show ¬ isT F C i from q)] at ih
      iterate 2 (refine X_n rfl rfl rfl ?_)
      rw [nI_1']
      exact ih
    · rw [lst_t (show isT F C i from q), List.length_append, List.length_singleton] at ih
      iterate 3 (refine X_n rfl rfl rfl ?_)
      rw [nI_1', nI_1']
      exact ih
theorem isT_cfg (h : cfg C D) : isT F D = isT F C := by
  have e1 : ∀ c w, lsC F D c w = lsC F C c w := fun c w => by unfold lsC; rw [nuC_cfg h]; simp only [nbC_cfg h]
  have e2 : ∀ c w, lsN F D c w = lsN F C c w := by
    intro c w
    induction w with
    | zero => rfl
    | succ w ih => rw [lsN, lsN, ih, e1]
  funext c
  unfold isT
  rw [e2]
theorem Y_turns (hF : okF F) (hS : okS F C) (hN : okN F C) (kk : ∀ C', sameN C C' → okN F C' → Q (.inl (some (.int (nI (lst (isT F C) (F.1 * F.2.1)).length)))) (hp F C' J G)) : Y y_Esc_turns [.ref 0] (hp F C J G) Q := by
  unfold Y
  repeat (refine X_n rfl rfl rfl ?_)
  refine X_k rfl rfl rfl rfl (Y_row0 hF hS hN rfl (fun C' s n hr => ?_))
  dsimp only
  refine X_k rfl rfl rfl rfl (show Y y_Signposts_countTurns [.ref 164, .ref 12] (hp F C' J G) _ from ?_)
  have kk := kk C' s n
  rw [← isT_cfg s.cfg] at kk
  unfold Y
  iterate 4 (refine X_n rfl rfl rfl ?_)
  refine Y_cntT_loop hF (okS_same s hS).1 hr ?_ _ 0 (Nat.zero_add _)
  dsimp only
  exact X_r rfl rfl rfl rfl kk
/-- the reference: a cell m, whatever it is -/
def lsM (F : Fx) (C : Ct) (m w : Nat) : Prop := ∃ b, bsN F m w = some b ∧ 0 ≤ C 179 (576 * 8 + b) ∧ C 179 (576 * 8 + b) < C 179 (576 * 8 + m)
noncomputable def lsNM (F : Fx) (C : Ct) (m : Nat) : Nat → Nat
  | 0 => 0
  | w + 1 => lsNM F C m w + m_if (lsM F C m w) 1 0
def isTM (F : Fx) (C : Ct) (m : Nat) : Prop := 0 < C 179 (576 * 8 + m) ∧ 2 ≤ lsNM F C m 4
theorem lsNM_le {m w : Nat} : lsNM F C m w ≤ w := by
  induction w with
  | zero => exact Nat.le_refl 0
  | succ w ih =>
    rw [lsNM]
    by_cases h : lsM F C m w
    · rw [m_if_t h]; omega
    · rw [m_if_f h]; omega
theorem Y_misTurn_loop {m : Nat} (hF : okF F) (hm : m < 576) (kt : isTM F C m → Q (.inl (some (.int 1))) (hp F C J G)) (kf : ¬ isTM F C m → Q (.inl (some (.int 0))) (hp F C J G)) :
    ∀ d w x5, w + d = 4 → X y_Model_isTurn 13 [some (.ref 169), some (.int (nI m)), some (.int (C 179 (576 * 8 + m))), some (.int (nI (lsNM F C m w))), some (.int (nI w)), x5] [] (hp F C J G) Q := by
  intro d
  induction d with
  | zero =>
    intro w x5 hd
    have : w = 4 := by omega
    subst this
    have hl := lsNM_le (F := F) (C := C) (m := m) (w := 4)
    repeat (refine X_n rfl rfl rfl ?_)
    refine X_bt rfl rfl rfl (Int32.le_refl _) ?_
    repeat (refine X_n rfl rfl rfl ?_)
    refine X_b rfl rfl rfl (fun q1 => ?_) (fun q1 => ?_)
    · repeat (refine X_n rfl rfl rfl ?_)
      exact X_r rfl rfl rfl rfl (kf (fun h => i32_irr _ (Int32.lt_of_lt_of_le h.1 q1)))
    · have q1 := Int32.not_le.mp q1
      repeat (refine X_n rfl rfl rfl ?_)
      refine X_b rfl rfl rfl (fun q => ?_) (fun q => ?_)
      · have q : lsNM F C m 4 ≤ 1 := (nI_leI (b := 1) (by omega) (by omega)).mp q
        repeat (refine X_n rfl rfl rfl ?_)
        exact X_r rfl rfl rfl rfl (kf (fun h => by have := h.2; omega))
      · have q : ¬ lsNM F C m 4 ≤ 1 := fun h => q (nI_le (b := 1) h (by omega))
        repeat (refine X_n rfl rfl rfl ?_)
        exact X_r rfl rfl rfl rfl (kt ⟨q1, by omega⟩)
  | succ d ih =>
    intro w x5 hd
    have no : ¬ lsM F C m w → ∀ x5, X y_Model_isTurn 61 [some (.ref 169), some (.int (nI m)), some (.int (C 179 (576 * 8 + m))), some (.int (nI (lsNM F C m w))), some (.int (nI w)), x5] [.int (nI (lsNM F C m w))] (hp F C J G) Q := by
      intro h x5
      have ih := ih (w + 1) x5 (by omega)
      rw [lsNM, m_if_f h] at ih
      iterate 1 (refine X_n rfl rfl rfl ?_)
      iterate 1 (refine X_n rfl rfl rfl ?_)
      refine X_top (w := nI (lsNM F C m w)) (nI_add _ 0) ?_
      iterate 3 (refine X_n rfl rfl rfl ?_)
      rw [nI_1']
      exact ih
    repeat (refine X_n rfl rfl rfl ?_)
    refine X_bf rfl rfl rfl (show ¬ nI 4 ≤ nI w from nI_ge (by omega) (by omega)) ?_
    repeat (refine X_n rfl rfl rfl ?_)
    refine X_cd rfl rfl rfl rfl (Y_beside (c := m) (w := w) (by omega) (by omega)) ?_
    rw [bsI_eq hF hm (show w < 4 by omega)]
    cases hbs : bsN F m w with
    | none =>
      dsimp only
      repeat (refine X_n rfl rfl rfl ?_)
      refine X_bt rfl rfl rfl (show (-1 : Int32) < 0 by decide) ?_
      exact no (fun ⟨b, h, _⟩ => by rw [hbs] at h; cases h) _
    | some b =>
      dsimp only
      obtain ⟨hbs', hb5⟩ := bsN_in hF hbs
      have hls : lsM F C m w → 0 ≤ C 179 (576 * 8 + b) ∧ C 179 (576 * 8 + b) < C 179 (576 * 8 + m) := fun ⟨b', h, g⟩ => by rw [hbs] at h; cases h; exact g
      repeat (refine X_n rfl rfl rfl ?_)
      refine X_bf rfl rfl rfl (nI_pos (by omega)) ?_
      repeat (refine X_n rfl rfl rfl ?_)
      refine X_cd rfl rfl rfl rfl (Y_numberOf (w := 8) (c := b) (by omega) hb5) ?_
      refine X_b rfl rfl rfl (fun q1 => ?_) (fun q1 => ?_)
      · exact no (fun h => Int32.not_lt.mpr (hls h).1 q1) _
      repeat (refine X_n rfl rfl rfl ?_)
      refine X_cd rfl rfl rfl rfl (Y_numberOf (w := 8) (c := b) (by omega) hb5) ?_
      repeat (refine X_n rfl rfl rfl ?_)
      refine X_b rfl rfl rfl (fun q2 => ?_) (fun q2 => ?_)
      · exact no (fun h => Int32.not_lt.mpr q2 (hls h).2) _
      have ih := ih (w + 1) (some (.int (nI b))) (by omega)
      rw [lsNM, m_if_t ⟨b, hbs, Int32.not_lt.mp q1, Int32.not_le.mp q2⟩] at ih
      iterate 3 (refine X_n rfl rfl rfl ?_)
      refine X_top (w := nI (lsNM F C m w + 1)) (nI_1' _) ?_
      iterate 3 (refine X_n rfl rfl rfl ?_)
      rw [nI_1']
      exact ih
theorem Y_misTurn {m : Nat} (hF : okF F) (hm : m < 576) (kt : isTM F C m → Q (.inl (some (.int 1))) (hp F C J G)) (kf : ¬ isTM F C m → Q (.inl (some (.int 0))) (hp F C J G)) : Y y_Model_isTurn [.ref 169, .int (nI m)] (hp F C J G) Q := by
  unfold Y
  repeat (refine X_n rfl rfl rfl ?_)
  refine X_cd rfl rfl rfl rfl (Y_numberOf (w := 8) (c := m) (by omega) hm) ?_
  iterate 5 (refine X_n rfl rfl rfl ?_)
  exact Y_misTurn_loop hF hm kt kf 4 0 none (by omega)
theorem gl_op (hF : okF F) (hS : okS F C) {g : Int32} (hc : c < F.1 * F.2.1) (h : glC C g c) : opC C c := by
  have hn := hF.n
  obtain ⟨x, h1, h2, h3, -⟩ := h
  obtain ⟨-, -, X8, hX, h11, hE, -⟩ := hS
  rw [h11] at h1
  rcases hE x ((nI_ltI (by omega) (by omega)).mp h1) with g3 | ⟨c', d1, d2, d3, d4⟩
  · rw [h3] at g3; exact absurd g3 (nI_nm1 (by omega))
  · have : c = c' := (nI_eq (by omega) (by omega)).mp (h3.symm.trans d2)
    subst this
    unfold opC
    rw [d4]; decide
/-- a cell with a number is no wall -/
theorem nu_op (hF : okF F) (hS : okS F C) {r : Nat} (hr : r < 9) (hc : c < F.1 * F.2.1) (h : ¬ nuC F C r c = -1) : opC C c := by
  rcases nuC_ok hF hS hr c hc with ⟨e, -⟩ | ⟨d, -, -, h1, -⟩
  · exact absurd e h
  · cases d with
    | zero => exact gl_op hF hS hc h1.2
    | succ d => exact rch_op (fun c hc g => gl_op hF hS hc g) d c h1
theorem isT_eq (hF : okF F) (hS : okS F C) (hg : okG F C) (hr : rS F C) (h : mrow0 F C) : lst (isTM F C) 576 = (lst (isT F C) (F.1 * F.2.1)).map (cm F) := by
  have hn := hF.n
  refine lst_cm hF (fun c hc => ?_) (fun m hm hq => ?_)
  · have hl : ∀ w, w < 4 → (lsM F C (cm F c) w ↔ lsC F C c w) := by
      intro w hw
      have hiso := nb_iso hF hg hr hc hw
      rw [nbM_bs] at hiso
      unfold lsM lsC
      cases hbs : bsN F (cm F c) w with
      | none =>
        rw [hbs] at hiso
        rw [hiso]
        exact ⟨fun ⟨b, h, _⟩ => (by cases h), fun ⟨b, h, _⟩ => (by cases h)⟩
      | some m =>
        rw [hbs] at hiso
        dsimp only at hiso
        obtain ⟨hms, hm5⟩ := bsN_in hF hbs
        have hb := mc_lt hF hms
        have ecm := cm_mc hF hms
        generalize mc F m = b at *
        subst ecm
        have hwall := (hr.1 b hb).1
        have hsg := nu_sg hF hS (r := 0) (by omega) hb
        rw [hwall] at hiso
        by_cases w1 : C 2 b = 1
        · rw [if_pos w1, if_neg (by decide)] at hiso
          rw [hiso]
          refine ⟨fun ⟨b', h', g1, g2⟩ => ?_, fun ⟨b', h', _⟩ => (by cases h')⟩
          cases h'
          rw [h.1 b hb] at g1
          have g1 := hsg.2.mp g1
          exact absurd w1 (nu_op hF hS (r := 0) (by omega) hb g1)
        · rw [if_neg w1, if_pos rfl] at hiso
          have hnb : nbC C c w = some b := by rw [hiso]; show some (mc F (cm F b)) = some b; rw [mc_cm hF hb]
          rw [hnb]
          refine ⟨fun ⟨b', h', g1, g2⟩ => ?_, fun ⟨b', h', g1, g2⟩ => ?_⟩
          · cases h'
            rw [h.1 b hb] at g1 g2
            rw [h.1 c hc] at g2
            exact ⟨b, rfl, hsg.2.mp g1, g2⟩
          · cases h'
            refine ⟨cm F b, rfl, ?_, ?_⟩
            · rw [h.1 b hb]; exact hsg.2.mpr g1
            · rw [h.1 b hb, h.1 c hc]; exact g2
    have hN : ∀ w, w ≤ 4 → lsNM F C (cm F c) w = lsN F C c w := by
      intro w
      induction w with
      | zero => intro _; rfl
      | succ w ih =>
        intro hw
        rw [lsNM, lsN, ih (by omega)]
        by_cases q : lsC F C c w
        · rw [m_if_t q, m_if_t ((hl w (by omega)).mpr q)]
        · rw [m_if_f q, m_if_f (fun g => q ((hl w (by omega)).mp g))]
    unfold isTM isT
    rw [hN 4 (Nat.le_refl 4), h.1 c hc]
    refine ⟨fun g => g.2, fun g => ⟨?_, g⟩⟩
    refine Classical.byContradiction fun q => ?_
    have q := Int32.not_lt.mp q
    have hz : ∀ w, w ≤ 4 → lsN F C c w = 0 := by
      intro w
      induction w with
      | zero => intro _; rfl
      | succ w ih =>
        intro hw
        rw [lsN, ih (by omega), m_if_f]
        rintro ⟨b, h1, h2, h3⟩
        have hb := (nbC_in hF hS hc (show w < 4 by omega) h1).1
        have := (nu_sg hF hS (r := 0) (by omega) hb).2.mpr h2
        exact i32_irr _ (Int32.lt_of_lt_of_le (Int32.lt_of_le_of_lt this h3) q)
    rw [hz 4 (Nat.le_refl 4)] at g
    omega
  · refine Classical.byContradiction fun ho => ?_
    have := hq.1
    rw [h.2 m hm ho] at this
    exact absurd this (by decide)
theorem Y_mturns_loop (hF : okF F) (kk : Q (.inl (some (.int (nI (lst (isTM F C) 576).length)))) (hp F C J G)) :
    ∀ d i, i + d = 576 → X y_Model_turns 13 [some (.ref 169), some (.int (nI (lst (isTM F C) i).length)), some (.int (nI i))] [] (hp F C J G) Q := by
  intro d
  induction d with
  | zero =>
    intro i hd
    have : i = 576 := by omega
    subst this
    repeat (refine X_n rfl rfl rfl ?_)
    refine X_bt rfl rfl rfl (Int32.le_refl _) ?_
    repeat (refine X_n rfl rfl rfl ?_)
    exact X_r rfl rfl rfl rfl kk
  | succ d ih =>
    intro i hd
    have ih := ih (i + 1) (by omega)
    repeat (refine X_n rfl rfl rfl ?_)
    refine X_bf rfl rfl rfl (show ¬ nI 576 ≤ nI i from nI_ge (by omega) (by omega)) ?_
    repeat (refine X_n rfl rfl rfl ?_)
    refine X_k rfl rfl rfl rfl (Y_misTurn hF (show i < 576 by omega) (fun q => ?_) (fun q => ?_))
    · rw [lst_t q, List.length_append, List.length_singleton] at ih
      dsimp only
      refine X_bf rfl rfl rfl (show ¬ (1 : Int32) = 0 by decide) ?_
      iterate 3 (refine X_n rfl rfl rfl ?_)
      refine X_top (w := nI ((lst (isTM F C) i).length + 1)) (nI_1' _) ?_
      iterate 3 (refine X_n rfl rfl rfl ?_)
      rw [nI_1']
      exact ih
    · rw [lst_f q] at ih
      dsimp only
      refine X_bt rfl rfl rfl rfl ?_
      iterate 2 (refine X_n rfl rfl rfl ?_)
      refine X_top (w := nI (lst (isTM F C) i).length) (nI_add _ 0) ?_
      iterate 3 (refine X_n rfl rfl rfl ?_)
      rw [nI_1']
      exact ih
theorem Y_mturns (hF : okF F) (hS : okS F C) (hg : okG F C) (hrS : rS F C) (hm : okMS F C) (hL : okL F C)
    (kk : ∀ C', sameL (st C 169 0 0) C' → C' 169 14 = 1 → (∀ wh, wh ≤ 8 → rowOkM F C' wh (nuM C' wh)) → mrow0 F C' → Q (.inl (some (.int (nI (lst (isT F C) (F.1 * F.2.1)).length)))) (hp F C' J G)) : Y y_Model_turns [.ref 169] (hp F C J G) Q := by
  unfold Y
  repeat (refine X_n rfl rfl rfl ?_)
  refine X_s rfl rfl ?_
  refine X_h (hp_f169_0 rfl) ?_
  repeat (refine X_n rfl rfl rfl ?_)
  refine X_h (H := hp F (st C 169 0 0) J G) rfl ?_
  refine X_k rfl rfl rfl rfl (Y_learnK hF (okS_cfg st0_cfg hS) (okG_cfg st0_cfg hg) (st0_rS hrS) (st0_okMS hm) (st0_okL hL) (fun C' s e14 hr hn h0 => ?_))
  dsimp only
  iterate 4 (refine X_n rfl rfl rfl ?_)
  have c : cfg C C' := fun k hk => by rw [s.1 k (by omega) (by omega) (by omega), st_f (by omega)]
  have kk := kk C' s e14 hr h0
  have hrS' : rS F C' := by
    have := st0_rS (v := 0) hrS
    unfold rS at *
    rw [s.1 170 (by omega) (by omega) (by omega), s.1 171 (by omega) (by omega) (by omega), s.2 7 (by omega), s.1 2 (by omega) (by omega) (by omega), s.1 5 (by omega) (by omega) (by omega), s.1 1 (by omega) (by omega) (by omega)]
    exact this
  have e2 := isT_eq hF (okS_cfg c hS) (okG_cfg c hg) hrS' h0
  have e3 : (lst (isTM F C') 576).length = (lst (isT F C') (F.1 * F.2.1)).length := by rw [e2, List.length_map]
  rw [← isT_cfg c, ← e3] at kk
  exact Y_mturns_loop hF kk 576 0 (by omega)
theorem Y_walk {x z q : Int32} (hF : okF F) (hG : okX G t) (hS : okS F C) (hN : okN F C)
    (k7 : (x < 0 ∨ nI F.1 ≤ x ∨ z < 0 ∨ nI F.2.1 ≤ z) ∨ ¬ (-1 ≤ q ∧ q < C 1 11) → Q (.inr (194 + G.2.1)) (hp F C J (gx G 7)))
    (kr : ∀ i j r C', i < F.1 → j < F.2.1 → x = nI i → z = nI j → r < 9 → q + 1 = nI r → nI r ≤ C 1 11 → sameN C C' → okN F C' → Q (.inl (some (.int (nuC F C r (j * F.1 + i))))) (hp F C' J G)) :
    Y y_Esc_walk [.ref 0, .int x, .int z, .int q] (hp F C J G) Q := by
  have hn := hF.n
  unfold Y
  repeat (refine X_n rfl rfl rfl ?_)
  refine X_k rfl rfl rfl rfl (Y_cellOfK hF (fun h => ?_) (fun i j hi hj e1 e2 => ?_))
  · dsimp only
    repeat (refine X_n rfl rfl rfl ?_)
    refine X_bt rfl rfl rfl rfl ?_
    exact X_w (x := 0) hG rfl rfl rfl rfl rfl (k7 (Or.inl h))
  · dsimp only
    have hc := ji_lt hi hj
    repeat (refine X_n rfl rfl rfl ?_)
    refine X_bf rfl rfl rfl (nI_nm1 (by omega)) ?_
    repeat (refine X_n rfl rfl rfl ?_)
    refine X_cd rfl rfl rfl rfl Y_isExitNumberOrNone ?_
    refine X_nz rfl (fun w => ?_) (fun w => ?_)
    · obtain ⟨r, hr9, hr1, hrX⟩ : ∃ r, r < 9 ∧ q + 1 = nI r ∧ nI r ≤ C 1 11 := by
        obtain ⟨-, -, X8, hX, h11, -⟩ := hS
        rw [h11] at w ⊢
        by_cases e : q = -1
        · exact ⟨0, by omega, by rw [e]; decide, nI_pos' (by omega)⟩
        · have h0 : ¬ q < 0 := fun h => e (i32_neg w.1 h)
          obtain ⟨y, hy, ey⟩ := nI_of h0
          subst ey
          have := (nI_ltI hy (by omega)).mp w.2
          exact ⟨y + 1, by omega, nI_1 y, nI_le (by omega) (by omega)⟩
      repeat (refine X_n rfl rfl rfl ?_)
      refine X_k rfl rfl rfl rfl (Y_rowK hF hS hN hr9 hr1 (fun C' s n h1 _ => ?_))
      dsimp only
      repeat (refine X_n rfl rfl rfl ?_)
      refine X_li rfl (hp_at (kd_row _ hr9).1 (ln_0 (kd_row _ hr9).2)) rfl hc (by omega) ?_
      have e : C' (12 + r) (j * F.1 + i) = nuC F C r (j * F.1 + i) := by
        rcases n r hr9 with g | ⟨-, g⟩
        · rw [h1] at g; exact absurd g (by decide)
        · rw [nuC_row hF (okS_same s hS) hr9 g hc, nuC_cfg s.cfg]
      rw [e]
      exact X_r rfl rfl rfl rfl (kr i j r C' hi hj e1 e2 hr9 hr1 hrX s n)
    · exact X_w (x := 0) hG rfl rfl rfl rfl rfl (k7 (Or.inr w))
theorem Y_mwalk_no {x z q : Int32} (h : (x < 0 ∨ nI F.1 ≤ x ∨ z < 0 ∨ nI F.2.1 ≤ z) ∨ ¬ (-1 ≤ q ∧ q < C 169 7)) : Yd y_Model_walk [.ref 169, .int x, .int z, .int q] (hp F C J G) (.inl (some (.int 0))) (hp F (st C 169 0 1) J G) := by
  refine Yd_of (fun Q k => ?_)
  unfold Y
  repeat (refine X_n rfl rfl rfl ?_)
  refine X_cd rfl rfl rfl rfl Y_isCell ?_
  refine X_z rfl (fun w => ?_) (fun w => ?_)
  · repeat (refine X_n rfl rfl rfl ?_)
    refine X_cd rfl rfl rfl rfl Y_refuses ?_
    refine X_z rfl (fun q => absurd (by decide) q) (fun _ => ?_)
    repeat (refine X_n rfl rfl rfl ?_)
    exact X_r rfl rfl rfl rfl k
  · have h : ¬ (-1 ≤ q ∧ q < C 169 7) := h.resolve_left (fun h => inC_no h w)
    repeat (refine X_n rfl rfl rfl ?_)
    refine X_b rfl rfl rfl (fun w2 => ?_) (fun w2 => ?_)
    · repeat (refine X_n rfl rfl rfl ?_)
      refine X_cd rfl rfl rfl rfl Y_refuses ?_
      refine X_z rfl (fun q => absurd (by decide) q) (fun _ => ?_)
      repeat (refine X_n rfl rfl rfl ?_)
      exact X_r rfl rfl rfl rfl k
    repeat (refine X_n rfl rfl rfl ?_)
    refine X_b rfl rfl rfl (fun w3 => ?_) (fun w3 => ?_)
    · exact absurd ⟨Int32.not_lt.mp w2, w3⟩ h
    · repeat (refine X_n rfl rfl rfl ?_)
      refine X_cd rfl rfl rfl rfl Y_refuses ?_
      refine X_z rfl (fun q => absurd (by decide) q) (fun _ => ?_)
      repeat (refine X_n rfl rfl rfl ?_)
      exact X_r rfl rfl rfl rfl k
theorem Y_mwalk {i j r : Nat} {q : Int32} (hF : okF F) (hS : okS F C) (hg : okG F C) (hrS : rS F C) (hm : okMS F C) (hL : okL F C) (hi : i < F.1) (hj : j < F.2.1) (hr9 : r < 9) (hq : q + 1 = nI r) (hrX : nI r ≤ C 169 7)
    (kk : ∀ C', sameL (st C 169 0 0) C' → C' 169 14 = 1 → (∀ wh, wh ≤ 8 → rowOkM F C' wh (nuM C' wh)) → Q (.inl (some (.int (nuC F C r (j * F.1 + i))))) (hp F C' J G)) : Y y_Model_walk [.ref 169, .int (nI i), .int (nI j), .int q] (hp F C J G) Q := by
  have hn := hF.n
  have hc := ji_lt hi hj
  have ecm : cm F (j * F.1 + i) = 24 * j + i := by
    unfold cm
    have f1 : 0 < F.1 := by omega
    rw [Nat.add_comm (j * F.1) i, Nat.add_mul_div_right _ _ f1, Nat.add_mul_mod_self_right, Nat.div_eq_of_lt hi, Nat.mod_eq_of_lt hi, Nat.zero_add]
  have hq2 : q = nI r - 1 := by rw [← hq, Int32.add_sub_cancel]
  have tail : ∀ D : Ct, sameL (st C 169 0 0) D → C = C → mnu F D → D 169 14 = 1 → (∀ wh, wh ≤ 8 → rowOkM F D wh (nuM D wh)) → X y_Model_walk 51 [some (.ref 169), some (.int (nI i)), some (.int (nI j)), some (.int q)] [.int (nI (whN r)), .ref 169] (hp F D J G) Q := by
    intro D s _ hn0 e14 hr
    have c : cfg C D := fun k hk => by rw [s.1 k (by omega) (by omega) (by omega), st_f (by omega)]
    repeat (refine X_n rfl rfl rfl ?_)
    refine X_cd rfl rfl rfl rfl (Y_mcell _) ?_
    rw [← ecm]
    refine X_cd rfl rfl rfl rfl (Y_numberOf (w := whN r) (c := cm F (j * F.1 + i)) (whN_le hr9) (cm_in hF hc).2.2.2) ?_
    rw [hn0 r hr9 _ hc, nuC_cfg c]
    exact X_r rfl rfl rfl rfl (kk D s e14 hr)
  have go : X y_Model_walk 36 [some (.ref 169), some (.int (nI i)), some (.int (nI j)), some (.int q)] [] (hp F (st C 169 0 0) J G) Q := by
    repeat (refine X_n rfl rfl rfl ?_)
    refine X_k rfl rfl rfl rfl (Y_learnK hF (okS_cfg st0_cfg hS) (okG_cfg st0_cfg hg) (st0_rS hrS) (st0_okMS hm) (st0_okL hL) (fun C' s e14 hr hn h0 => ?_))
    dsimp only
    cases r with
    | zero =>
      have e : q = -1 := by rw [hq2]; decide
      subst e
      repeat (refine X_n rfl rfl rfl ?_)
      refine X_bf rfl rfl rfl (show ¬ (0 : Int32) ≤ -1 by decide) ?_
      iterate 2 (refine X_n rfl rfl rfl ?_)
      exact tail C' s rfl hn e14 hr
    | succ y =>
      have e : q = nI y := by rw [hq2, nI_pred]
      subst e
      repeat (refine X_n rfl rfl rfl ?_)
      refine X_bt rfl rfl rfl (nI_pos' (by omega)) ?_
      iterate 1 (refine X_n rfl rfl rfl ?_)
      exact tail C' s rfl hn e14 hr
  have q1 : -1 ≤ q ∧ q < C 169 7 := by
    cases r with
    | zero =>
      have e : q = -1 := by rw [hq2]; decide
      subst e
      exact ⟨Int32.le_refl _, Int32.lt_of_lt_of_le (show (-1 : Int32) < nI 0 by decide) hrX⟩
    | succ y =>
      have e : q = nI y := by rw [hq2, nI_pred]
      subst e
      exact ⟨Int32.le_trans (show (-1 : Int32) ≤ 0 by decide) (nI_pos' (by omega)), Int32.lt_of_lt_of_le (nI_lt (Nat.lt_succ_self y) (by omega)) hrX⟩
  unfold Y
  repeat (refine X_n rfl rfl rfl ?_)
  refine X_cd rfl rfl rfl rfl Y_isCell ?_
  refine X_z rfl (fun w => ?_) (fun w => ?_)
  · exact absurd (inC_yes hF hi hj) w
  repeat (refine X_n rfl rfl rfl ?_)
  refine X_bf rfl rfl rfl (Int32.not_lt.mpr q1.1) ?_
  repeat (refine X_n rfl rfl rfl ?_)
  refine X_bt rfl rfl rfl q1.2 ?_
  repeat (refine X_n rfl rfl rfl ?_)
  refine X_cd rfl rfl rfl rfl Y_refuses ?_
  refine X_z rfl (fun _ => ?_) (fun q => absurd q (by decide))
  exact go
end
