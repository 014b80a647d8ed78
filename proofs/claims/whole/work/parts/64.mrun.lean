/-! the reference's run: a second, the whole -/
section
variable {F : Fx} {C0 A C : Ct} {P t p b k c : Nat} {N : Nat → Int32} {u18 : Int32} {J : Nat → Int64} {G : Ex} {Q : mE → mH → Prop}
theorem repM.now {g : Nat → Int32} (h : repM F C0 P u18 N A C) : repM F C0 P u18 (fun c => g (cm F c)) A (stA C 190 g) := by
  obtain ⟨⟨h1, h1'⟩, h2, h3⟩ := h
  refine ⟨⟨fun k hk h169 => ?_, fun j => ?_⟩, fun q hq => ?_, fun d hd => ?_⟩
  · rw [stA_f (by omega)]; exact h1 k hk h169
  · rw [stA_f (by omega)]; exact h1' j
  · have := h2 q hq
    unfold repQ at *
    simpa [stA_r] using this
  · obtain ⟨g1, g2, -⟩ := h3 d hd
    exact ⟨by simpa [stA_r] using g1, by simpa [stA_r] using g2, by simp [stA_r]⟩
theorem repM.lst {v : Int32} (h : repM F C0 P u18 N A C) : repM F C0 P v N A (st C 169 18 v) := by
  obtain ⟨⟨h1, h1'⟩, h2, h3⟩ := h
  refine ⟨⟨fun k hk h169 => ?_, fun j => ?_⟩, fun q hq => ?_, fun d hd => ?_⟩
  · rw [st_f h169]; exact h1 k hk h169
  · by_cases e : j = 18
    · subst e; rw [st_s, if_pos rfl]
    · rw [st_i e, if_neg e, h1' j, if_neg e]
  · have := h2 q hq
    unfold repQ at *
    simpa [st_r] using this
  · simpa [st_r] using h3 d hd
/-- smoke -/
theorem repM.smk (h : repM F C0 P u18 N A C) (hF : okF F) (hp : p < P) (hcn : c < F.1 * F.2.1) : repM F C0 P u18 N (st (st (st A 5 c (-1)) 0 p 2) 1 p (nI t)) (st (st (st (st C 181 p 2) 182 p (nI t)) 188 (cm F c) (-1)) 187 p (-1)) := by
  obtain ⟨⟨h1, h1'⟩, h2, h3⟩ := h
  refine ⟨⟨fun k hk h169 => ?_, fun j => ?_⟩, fun q hq => ?_, fun d hd => ?_⟩
  · rw [st_f (by omega), st_f (by omega), st_f (by omega), st_f (by omega)]; exact h1 k hk h169
  · rw [st_f (by omega), st_f (by omega), st_f (by omega), st_f (by omega)]; exact h1' j
  · obtain ⟨g0, g1, g2, g3, g4, g5⟩ := h2 q hq
    unfold repQ pA at *
    by_cases e : q = p
    · subst e
      refine ⟨by simp [st_r], by simp [st_r], by simpa [st_r] using g2, by simpa [st_r] using g3, fun h => ?_, by simpa [st_r] using g5⟩
      exact absurd h (by simp [st_r])
    · refine ⟨by simpa [st_r, e] using g0, by simpa [st_r, e] using g1, by simpa [st_r] using g2, by simpa [st_r] using g3, by simpa [st_r, e] using g4, by simpa [st_r] using g5⟩
  · obtain ⟨g1, g2, g3⟩ := h3 d hd
    have e1 := cm_eqP hF hd hcn
    exact ⟨by simp [st_r, e1, g1], by simpa [st_r] using g2, by simpa [st_r] using g3⟩
theorem Y_second2 (hF : okF F) (hS : okS F C0) (hg : okG F C0) (hP : okP F C0 P) (hmc : mcf F C0 P) (hm : mnu F C0) (hi : inv F C0 P t A) (ht : t ≤ 3600)
    (kk : ∀ C' N', repM F C0 P u18 N' (sec F C0 P t A) C' → Q (.inl none) (hp F C' J G)) :
    ∀ d i C, i + d = P → repM F C0 P u18 (fun _ => 0) (ctI C0 t A i) C → (∀ p, p < i → C 191 p = 0) → X y_Model_second 24 [some (.ref 169), some (.int (nI t)), some (.int (nI i))] [] (hp F C J G) Q := by
  have hn := hF.n
  have hP60 := hP.1
  intro d
  induction d with
  | zero =>
    intro i C hd hr hgo
    have : i = P := by omega
    subst this
    have hi2 := ct_inv (C := C0) (t := t) hF hi (Nat.le_refl i)
    have ho := ordL_ok (F := F) (C := C0) (A := ctI C0 t A i) (t := t) i
    repeat (refine X_n rfl rfl rfl ?_)
    refine X_bt rfl rfl rfl (show C 169 9 ≤ nI i by rw [hr.in hmc]; exact Int32.le_refl _) ?_
    repeat (refine X_n rfl rfl rfl ?_)
    refine X_k rfl rfl rfl rfl (Y_nextOne hF hS hP hmc hm hr hi2 ht (fun v hv => ?_))
    dsimp only
    iterate 1 (refine X_n rfl rfl rfl ?_)
    refine Y_second_loop (z1 := (ordL F C0 (ctI C0 t A i) t i).foldl (go1 F C0 t) (ctI C0 t A i, fun _ => 0)) hF hS hg hP hmc hm ht (fun C' h => kk C' _ h) _ (ordL F C0 (ctI C0 t A i) t i) (ctI C0 t A i, fun _ => 0) C v rfl rfl hr hi2 ho.1 (fun p hp => ((ho.2 p).mp hp).1) (fun p hp => ?_) hv
    refine ⟨fun h => (ho.2 p).mpr ⟨hp, h.1.1, h.1.2.1, h.2⟩, fun h => ?_⟩
    obtain ⟨-, h0, h9, hnu⟩ := (ho.2 p).mp h
    exact ⟨⟨h0, h9, hgo p hp⟩, hnu⟩
  | succ d ih =>
    intro i C hd hr hgo
    have hiP : i < P := by omega
    have hi2 := ct_inv (C := C0) (t := t) hF hi (show i ≤ P by omega)
    obtain ⟨⟨c, c1, c2, c3, c4⟩, -, -⟩ := hi2.1 i hiP
    obtain ⟨g0, g1, g2, g3, g4, g5⟩ := hr.2.1 i hiP
    have ec := pA_eq hF c1 c2
    have hr1 : repM F C0 P u18 (fun _ => 0) (ctI C0 t A i) (st C 191 i 0) := hr.gone
    have hg1 : ∀ p, p < i + 1 → st C 191 i 0 191 p = 0 := fun p hp => by
      by_cases e : p = i
      · subst e; exact st_s
      · rw [st_i e]; exact hgo p (by omega)
    have nx : ∀ C', repM F C0 P u18 (fun _ => 0) (ctI C0 t A (i + 1)) C' → (∀ p, p < i + 1 → C' 191 p = 0) → X y_Model_second 95 [some (.ref 169), some (.int (nI t)), some (.int (nI i))] [] (hp F C' J G) Q := by
      intro C' h1 h2
      iterate 2 (refine X_n rfl rfl rfl ?_)
      rw [nI_1']
      exact ih (i + 1) C' (by omega) h1 h2
    have no : ¬ (ctI C0 t A i 0 i = 0 ∧ brd C0 (pA (ctI C0 t A i) i) t) → X y_Model_second 95 [some (.ref 169), some (.int (nI t)), some (.int (nI i))] [] (hp F (st C 191 i 0) J G) Q := fun h => nx _ (by rw [ctI, m_if_f h]; exact hr1) hg1
    repeat (refine X_n rfl rfl rfl ?_)
    refine X_bf rfl rfl rfl (show ¬ C 169 9 ≤ nI i by rw [hr.in hmc]; exact nI_ge hiP (by omega)) ?_
    repeat (refine X_n rfl rfl rfl ?_)
    refine X_sb rfl rfl (by decide) rfl hF (show i < 60 by omega) ?_
    repeat (refine X_n rfl rfl rfl ?_)
    refine X_la rfl rfl rfl hF (show i < 60 by omega) ?_
    refine X_top (w := C 181 i) rfl ?_
    rw [g0]
    refine X_b rfl rfl rfl (fun q => ?_) (fun q => ?_)
    · exact no (fun h => q h.1)
    have q : ctI C0 t A i 0 i = 0 := Classical.not_not.mp q
    have g4 := g4 q
    rw [ec] at g4
    repeat (refine X_n rfl rfl rfl ?_)
    refine X_la rfl rfl rfl hF (show i < 60 by omega) ?_
    refine X_top (w := nI (cm F c)) g4 ?_
    repeat (refine X_n rfl rfl rfl ?_)
    have hc5 := (cm_in hF c1).2.2.2
    obtain ⟨b1, b2, b3⟩ := hmc.2.2.2 c c1
    have e173 : st C 191 i 0 173 (cm F c) = C0 4 c := by rw [st_f (by omega), hr.1.1 173 (by omega) (by omega)]; exact b1
    have hbr : (0 ≤ st C 191 i 0 173 (cm F c) ∧ st C 191 i 0 173 (cm F c) ≤ nI t) ↔ brd C0 c t := by
      rw [e173]
      unfold brd
      rcases b2 with g | g
      · rw [g]; exact ⟨fun h => absurd h.1 (by decide), fun h => absurd rfl h.1⟩
      · exact ⟨fun h => ⟨fun e => by rw [e] at g; exact absurd g (by decide), h.2⟩, fun h => ⟨g, h.2⟩⟩
    refine X_cd rfl rfl rfl rfl (Y_misBarred (c := cm F c) hc5) ?_
    refine X_z rfl (fun q2 => ?_) (fun q2 => ?_)
    · exact no (fun h => q2 (hbr.mpr (by rw [ec] at h; exact h.2)))
    · have q2 := hbr.mp q2
      repeat (refine X_n rfl rfl rfl ?_)
      refine X_sa rfl rfl rfl hF (show i < 60 by omega) ?_
      repeat (refine X_n rfl rfl rfl ?_)
      refine X_sa rfl rfl rfl hF (show i < 60 by omega) ?_
      repeat (refine X_n rfl rfl rfl ?_)
      refine X_la rfl rfl rfl hF (show i < 60 by omega) ?_
      refine X_top (w := nI (cm F c)) g4 ?_
      repeat (refine X_n rfl rfl rfl ?_)
      refine X_sa rfl rfl rfl hF (show cm F c < 576 from hc5) ?_
      repeat (refine X_n rfl rfl rfl ?_)
      refine X_sa rfl rfl rfl hF (show i < 60 by omega) ?_
      refine nx _ ?_ (fun p hp => ?_)
      · rw [ctI, m_if_t ⟨q, by rw [ec]; exact q2⟩, ec]
        exact hr1.smk hF hiP c1
      · rw [st_f (by omega), st_f (by omega), st_f (by omega), st_f (by omega)]; exact hg1 p hp
theorem Y_second1 (kk : X y_Model_second 22 [some (.ref 169), some (.int (nI t)), some (.int (nI 576))] [] (hp F (stA C 190 (flt (C 190) 0 576)) J G) Q) (hF : okF F) :
    ∀ d i, i + d = 576 → X y_Model_second 2 [some (.ref 169), some (.int (nI t)), some (.int (nI i))] [] (hp F (stA C 190 (flt (C 190) 0 i)) J G) Q := by
  intro d
  induction d with
  | zero =>
    intro i hd
    have : i = 576 := by omega
    subst this
    repeat (refine X_n rfl rfl rfl ?_)
    refine X_bt rfl rfl rfl (Int32.le_refl _) ?_
    exact kk
  | succ d ih =>
    intro i hd
    repeat (refine X_n rfl rfl rfl ?_)
    refine X_bf rfl rfl rfl (show ¬ nI 576 ≤ nI i from nI_ge (by omega) (by omega)) ?_
    repeat (refine X_n rfl rfl rfl ?_)
    refine X_sa rfl rfl rfl hF (show i < 576 by omega) ?_
    rw [st_stA, show upd (flt (C 190) 0 i) i (Int32.ofInt 0) = flt (C 190) 0 (i + 1) from flt_s _ _ _]
    iterate 2 (refine X_n rfl rfl rfl ?_)
    rw [nI_1']
    exact ih (i + 1) (by omega)
theorem Y_second (hF : okF F) (hS : okS F C0) (hg : okG F C0) (hP : okP F C0 P) (hmc : mcf F C0 P) (hm : mnu F C0) (hr : repM F C0 P u18 N A C) (hi : inv F C0 P t A) (ht : t ≤ 3600)
    (kk : ∀ C' N', repM F C0 P u18 N' (sec F C0 P t A) C' → Q (.inl none) (hp F C' J G)) : Y y_Model_second [.ref 169, .int (nI t)] (hp F C J G) Q := by
  unfold Y
  iterate 2 (refine X_n rfl rfl rfl ?_)
  have h := Y_second1 (F := F) (C := C) (J := J) (G := G) (Q := Q) (t := t) ?_ hF 576 0 (by omega)
  · rw [flt_0, stA_self] at h
    exact h
  · iterate 2 (refine X_n rfl rfl rfl ?_)
    refine Y_second2 hF hS hg hP hmc hm hi ht kk P 0 _ (by omega) ?_ (fun p hp => by omega)
    have h2 := hr.now (g := flt (C 190) 0 576)
    refine ⟨h2.1, h2.2.1, fun c hc => ?_⟩
    obtain ⟨a1, a2, a3⟩ := h2.2.2 c hc
    refine ⟨a1, a2, a3.trans ?_⟩
    show (if cm F c < 576 then (0 : Int32) else _) = 0
    rw [if_pos (cm_in hF hc).2.2.2]
theorem Y_anyWaits_loop (hP : okP F C0 P) (hF : okF F) (hmc : mcf F C0 P) (hr : repM F C0 P u18 N A C)
    (kk : Q (.inl (some (.int (bI (decide (0 < cntW A P)))))) (hp F C J G)) :
    ∀ d i, i + d = P → X y_Model_anyWaits 4 [some (.ref 169), some (.int (bI (decide (0 < cntW A i)))), some (.int (nI i))] [] (hp F C J G) Q := by
  have hP60 := hP.1
  intro d
  induction d with
  | zero =>
    intro i hd
    have : i = P := by omega
    subst this
    repeat (refine X_n rfl rfl rfl ?_)
    refine X_bt rfl rfl rfl (show C 169 9 ≤ nI i by rw [hr.in hmc]; exact Int32.le_refl _) ?_
    by_cases h : 0 < cntW A i
    · rw [decide_eq_true h] at kk ⊢
      repeat (refine X_n rfl rfl rfl ?_)
      exact X_r rfl rfl rfl rfl kk
    · rw [decide_eq_false h] at kk ⊢
      repeat (refine X_n rfl rfl rfl ?_)
      exact X_r rfl rfl rfl rfl kk
  | succ d ih =>
    intro i hd
    have hiP : i < P := by omega
    have g0 := (hr.2.1 i hiP).1
    have ih := ih (i + 1) (by omega)
    repeat (refine X_n rfl rfl rfl ?_)
    refine X_bf rfl rfl rfl (show ¬ C 169 9 ≤ nI i by rw [hr.in hmc]; exact nI_ge hiP (by omega)) ?_
    repeat (refine X_n rfl rfl rfl ?_)
    refine X_nz rfl (fun q => ?_) (fun q => ?_)
    · rw [decide_eq_true (cntW_pos.mpr ((cntW_pos.mp q).elim fun p h => ⟨p, by omega, h.2⟩))] at ih
      iterate 5 (refine X_n rfl rfl rfl ?_)
      rw [nI_1']
      exact ih
    · repeat (refine X_n rfl rfl rfl ?_)
      refine X_la rfl rfl rfl hF (show i < 60 by omega) ?_
      rw [g0]
      refine X_b rfl rfl rfl (fun q2 => ?_) (fun q2 => ?_)
      · rw [decide_eq_false (fun hh => (cntW_pos.mp hh).elim fun p h => by
          obtain ⟨h1, h2⟩ := h
          by_cases e : p = i
          · subst e; exact q2 h2
          · exact q (cntW_pos.mpr ⟨p, by omega, h2⟩))] at ih
        iterate 4 (refine X_n rfl rfl rfl ?_)
        rw [nI_1']
        exact ih
      · have q2 : A 0 i = 0 := Classical.not_not.mp q2
        rw [decide_eq_true (cntW_pos.mpr ⟨i, by omega, q2⟩)] at ih
        iterate 5 (refine X_n rfl rfl rfl ?_)
        rw [nI_1']
        exact ih
theorem Y_anyWaits (hP : okP F C0 P) (hF : okF F) (hmc : mcf F C0 P) (hr : repM F C0 P u18 N A C) : Yd y_Model_anyWaits [.ref 169] (hp F C J G) (.inl (some (.int (bI (decide (0 < cntW A P)))))) (hp F C J G) := by
  refine Yd_of (fun Q kk => ?_)
  unfold Y
  iterate 4 (refine X_n rfl rfl rfl ?_)
  have h := Y_anyWaits_loop (J := J) (G := G) (Q := Q) hP hF hmc hr kk P 0 (by omega)
  rw [decide_eq_false (show ¬ 0 < cntW A 0 from by simp [cntW])] at h
  exact h
end
