/-! the class's run: a step, held against the run's state -/
section
variable {F : Fx} {C0 A C : Ct} {P t p b k c : Nat} {N : Nat → Int32} {J : Nat → Int64} {G : Ex} {Q : mE → mH → Prop}
theorem repC.ex {v : Int32} (h : repC F C0 P t N A C) (hP : P ≤ 60) : repC F C0 P t N (st A 2 p v) (st C 32 p v) := by
  obtain ⟨h1, h2, h3, h4, h5⟩ := h
  refine ⟨fun k hk => ?_, fun q hq => ?_, fun c hc => ?_, ?_, fun c hc => ?_⟩
  · rw [← h1 k hk, st_f (by omega)]
  · obtain ⟨g0, g1, g2, g3⟩ := h2 q hq
    have e39 := ne39 (q := q) (by omega)
    have e100 := ne100 (q := q) (by omega)
    unfold repP at *
    refine ⟨by simpa [st_r] using g0, by simpa [st_r] using g1, ?_, by simpa [st_r, e39, e100] using g3⟩
    by_cases e : q = p
    · subst e; simp [st_r]
    · simpa [st_r, e] using g2
  · simpa [st_r] using h3 c hc
  · rw [cntW_le (A := A) (fun q _ => st_k (by omega)), st_k (by omega)]; exact h4
  · simpa [ciC, st_r] using h5 c hc
theorem st_cm {k i k' i' : Nat} {v v' : Int32} (h : k ≠ k') : st (st A k i v) k' i' v' = st (st A k' i' v') k i v := by
  funext x
  funext j
  simp only [st_r]
  by_cases e : x = k'
  · subst e
    simp [Ne.symm h]
  · by_cases e2 : x = k
    · subst e2; simp [h]
    · simp [e, e2]
theorem repC_out (h : repC F C0 P t N A C) (hi : inv F C0 P t A) (hF : okF F) (hP : P ≤ 60) (hp : p < P) (h0 : A 0 p = 0) (hc : A 4 p = nI c) (hcn : c < F.1 * F.2.1) (hk : A 3 p = nI k) (hkn : k < F.1 * F.2.1) (ho : nuC F C0 (gRow F C0 p) b = 0) : repC F C0 P t (upd N b (N b + 1)) (stp F C0 t p b A) (endC (st (mvC C p b k c t) 32 p (C0 5 b)) p 1 (nI t)) := by
  have h2 := ((repC_mv (b := b) h hi hF hP hp hc hcn hk hkn).ex (p := p) (v := C0 5 b) hP).fin (p := p) (how := 1) (by decide) hp (by simpa [mv, st_r] using h0) hP
  unfold stp
  rw [m_if_t ho, st_cm (show (1 : Nat) ≠ 2 by omega), st_cm (show (0 : Nat) ≠ 2 by omega)]
  exact h2
theorem repC_stay (h : repC F C0 P t N A C) (hi : inv F C0 P t A) (hF : okF F) (hP : P ≤ 60) (hp : p < P) (hc : A 4 p = nI c) (hcn : c < F.1 * F.2.1) (hk : A 3 p = nI k) (hkn : k < F.1 * F.2.1) (ho : ¬ nuC F C0 (gRow F C0 p) b = 0) : repC F C0 P t (upd N b (N b + 1)) (stp F C0 t p b A) (st (mvC C p b k c t) 160 b (nI p)) := by
  have h2 := (repC_mv (b := b) h hi hF hP hp hc hcn hk hkn).cell (b := b) (v := nI p) hP
  unfold stp
  rw [m_if_f ho]
  exact h2
theorem repC.nb (h : repC F C0 P t N A C) (c w : Nat) : opB C c w = opB C0 c w := by
  unfold opB; rw [h.1 9 (by omega), h.1 2 (by omega)]
theorem repC.B (h : repC F C0 P t N A C) (hB : okB F C0) : okB F C := by
  unfold okB; rw [h.1 9 (by omega)]; exact hB
theorem Y_stepOne_loop (hF : okF F) (hS : okS F C0) (hP : okP F C0 P) (hR : rwC F C0 P) (hr : repC F C0 P t N A C) (hi : inv F C0 P t A) (hpP : p < P) (h0 : A 0 p = 0) (hc : A 4 p = nI c) (hcn : c < F.1 * F.2.1) (hk : A 3 p = nI k) (hkn : k < F.1 * F.2.1)
    (kn : tgt F C0 A N t (gRow F C0 p) c 4 = none → Q (.inl (some (.int 0))) (hp F C J G))
    (ky : ∀ b C', tgt F C0 A N t (gRow F C0 p) c 4 = some b → repC F C0 P t (upd N b (N b + 1)) (stp F C0 t p b A) C' → C' 163 = C 163 → Q (.inl (some (.int 1))) (hp F C' J G)) :
    ∀ d x6, d ≤ 4 → tgt F C0 A N t (gRow F C0 p) c 4 = tgt F C0 A N t (gRow F C0 p) c d → X y_Flight_stepOne 25 [some (.ref 29), some (.int (nI p)), some (.int (nI t)), some (.ref (12 + gRow F C0 p)), some (.int (nI c)), some (.int (nI (4 - d))), x6] [] (hp F C J G) Q := by
  have hn := hF.n
  have hP60 := hP.1
  have hg9 := gRow_lt hP hpP
  have hrow : ∀ x, x < F.1 * F.2.1 → C (12 + gRow F C0 p) x = nuC F C0 (gRow F C0 p) x := fun x hx => by
    rw [hr.1 _ (by omega)]; exact (hR p hpP x hx).1
  have hat : ∀ (D : Ct), (hp F D J G).1 (12 + gRow F C0 p) = mI (F.1 * F.2.1) (D (12 + gRow F C0 p)) := fun D => hp_at (kd_row _ hg9).1 (ln_0 (kd_row _ hg9).2)
  intro d
  induction d with
  | zero =>
    intro x6 _ e
    repeat (refine X_n rfl rfl rfl ?_)
    refine X_bt rfl rfl rfl (Int32.le_refl _) ?_
    repeat (refine X_n rfl rfl rfl ?_)
    exact X_r rfl rfl rfl rfl (kn (e.trans rfl))
  | succ d ih =>
    intro x6 hd e
    rw [show 4 - (d + 1) = 3 - d by omega]
    have nx : tgt F C0 A N t (gRow F C0 p) c (d + 1) = tgt F C0 A N t (gRow F C0 p) c d → ∀ x6, X y_Flight_stepOne 130 [some (.ref 29), some (.int (nI p)), some (.int (nI t)), some (.ref (12 + gRow F C0 p)), some (.int (nI c)), some (.int (nI (3 - d))), x6] [] (hp F C J G) Q := by
      intro e2 x6
      iterate 2 (refine X_n rfl rfl rfl ?_)
      rw [nI_1', show 3 - d + 1 = 4 - d by omega]
      exact ih x6 (by omega) (e.trans e2)
    repeat (refine X_n rfl rfl rfl ?_)
    refine X_bf rfl rfl rfl (show ¬ nI 4 ≤ nI (3 - d) from nI_ge (by omega) (by omega)) ?_
    repeat (refine X_n rfl rfl rfl ?_)
    refine X_cd rfl rfl rfl rfl (Y_openBeside hF (hr.B hS.1) hcn (show 3 - d < 4 by omega)) ?_
    rw [hr.nb]
    rcases opB_cases hn hS.1 hcn (show 3 - d < 4 by omega) with ⟨e1, e2⟩ | ⟨b, hb, e1, e2, hbo, -⟩
    · rw [e1]
      repeat (refine X_n rfl rfl rfl ?_)
      refine X_bt rfl rfl rfl rfl ?_
      refine nx ?_ _
      rw [tgt, e2]
    · rw [e1]
      have hg : ¬ good F C0 A N t (gRow F C0 p) c b → tgt F C0 A N t (gRow F C0 p) c (d + 1) = tgt F C0 A N t (gRow F C0 p) c d := fun q => by rw [tgt, e2]; exact m_if_f q
      repeat (refine X_n rfl rfl rfl ?_)
      refine X_bf rfl rfl rfl (nI_nm1 (by omega)) ?_
      repeat (refine X_n rfl rfl rfl ?_)
      refine X_li rfl (hat C) rfl hb (by omega) ?_
      rw [hrow b hb]
      repeat (refine X_n rfl rfl rfl ?_)
      refine X_b rfl rfl rfl (fun q1 => ?_) (fun q1 => ?_)
      · exact nx (hg (fun g => g.1.1 q1)) _
      repeat (refine X_n rfl rfl rfl ?_)
      refine X_li rfl (hat C) rfl hb (by omega) ?_
      rw [hrow b hb]
      repeat (refine X_n rfl rfl rfl ?_)
      refine X_li rfl (hat C) rfl hcn (by omega) ?_
      rw [hrow c hcn]
      refine X_b rfl rfl rfl (fun q2 => ?_) (fun q2 => ?_)
      · exact nx (hg (fun g => Int32.not_lt.mpr q2 g.1.2)) _
      have q2 := Int32.not_le.mp q2
      repeat (refine X_n rfl rfl rfl ?_)
      refine X_cd rfl rfl rfl rfl (Y_mayEnter hF hb) ?_
      refine X_z rfl (fun q3 => ?_) (fun q3 => ?_)
      · refine nx (hg (fun g => q3 ?_)) _
        obtain ⟨g1, g2, g3⟩ := g.2
        refine ⟨by rw [(hr.2.2.1 b hb).1]; exact g1, by rw [hr.1 4 (by omega)]; exact g2, ?_⟩
        rw [hr.1 2 (by omega), hr.1 3 (by omega), ← (hr.2.2.2.2 b hb).1]; exact g3
      · have hgood : good F C0 A N t (gRow F C0 p) c b := by
          obtain ⟨g1, g2, g3⟩ := q3
          refine ⟨⟨q1, q2⟩, by rw [← (hr.2.2.1 b hb).1]; exact g1, by rw [hr.1 4 (by omega)] at g2; exact g2, ?_⟩
          rw [hr.1 2 (by omega), hr.1 3 (by omega), ← (hr.2.2.2.2 b hb).1] at g3; exact g3
        have ht : tgt F C0 A N t (gRow F C0 p) c 4 = some b := by rw [e, tgt, e2]; exact m_if_t hgood
        obtain ⟨g0, g1, g2, g3, g4, g5, g6, g7⟩ := hr.2.1 p hpP
        repeat (refine X_n rfl rfl rfl ?_)
        refine X_cd rfl rfl rfl rfl (Y_move hF (by omega) hb hcn hkn (g4.trans hc) (g3.trans hk)) ?_
        repeat (refine X_n rfl rfl rfl ?_)
        refine X_li rfl (hat _) rfl hb (by omega) ?_
        have hm : mvC C p b k c t (12 + gRow F C0 p) b = nuC F C0 (gRow F C0 p) b := by
          rw [← hrow b hb]
          unfold mvC
          rw [st_k (by omega), st_k (by omega), st_k (by omega), st_k (by omega), st_k (by omega), st_k (by omega), st_k (by omega), st_k (by omega), st_k (by omega)]
        rw [hm]
        have h5 : mvC C p b k c t 5 b = C0 5 b := by
          rw [← hr.1 5 (by omega)]
          unfold mvC
          rw [st_k (by omega), st_k (by omega), st_k (by omega), st_k (by omega), st_k (by omega), st_k (by omega), st_k (by omega), st_k (by omega), st_k (by omega)]
        have h163 : mvC C p b k c t 163 = C 163 := by
          unfold mvC
          rw [st_f (by omega), st_f (by omega), st_f (by omega), st_f (by omega), st_f (by omega), st_f (by omega), st_f (by omega), st_f (by omega), st_f (by omega)]
        refine X_b rfl rfl rfl (fun q4 => ?_) (fun q4 => ?_)
        · repeat (refine X_n rfl rfl rfl ?_)
          refine X_sa rfl rfl rfl hF hb ?_
          repeat (refine X_n rfl rfl rfl ?_)
          exact X_r rfl rfl rfl rfl (ky b _ ht (repC_stay hr hi hF hP60 hpP hc hcn hk hkn q4) (by rw [st_f (by omega)]; exact h163))
        · have q4 := Classical.not_not.mp q4
          repeat (refine X_n rfl rfl rfl ?_)
          refine X_la rfl rfl rfl hF hb ?_
          rw [h5]
          refine X_sa rfl rfl rfl hF (show p < 60 by omega) ?_
          repeat (refine X_n rfl rfl rfl ?_)
          refine X_cd rfl rfl rfl rfl (Y_end hF (show p < 60 by omega)) ?_
          repeat (refine X_n rfl rfl rfl ?_)
          exact X_r rfl rfl rfl rfl (ky b _ ht (repC_out hr hi hF hP60 hpP h0 hc hcn hk hkn q4) (by unfold endC; rw [st_f (by omega), st_f (by omega), st_f (by omega), st_f (by omega)]; exact h163))
theorem Y_stepOne (hF : okF F) (hS : okS F C0) (hP : okP F C0 P) (hR : rwC F C0 P) (hr : repC F C0 P t N A C) (hi : inv F C0 P t A) (hpP : p < P) (h0 : A 0 p = 0)
    (kn : tgt F C0 A N t (gRow F C0 p) (pA A p) 4 = none → Q (.inl (some (.int 0))) (hp F C J G))
    (ky : ∀ b C', tgt F C0 A N t (gRow F C0 p) (pA A p) 4 = some b → repC F C0 P t (upd N b (N b + 1)) (stp F C0 t p b A) C' → C' 163 = C 163 → Q (.inl (some (.int 1))) (hp F C' J G)) :
    Y y_Flight_stepOne [.ref 29, .int (nI p), .int (nI t)] (hp F C J G) Q := by
  have hn := hF.n
  have hP60 := hP.1
  obtain ⟨⟨c, c1, c2, c3, c4⟩, ⟨k, k1, k2, -⟩, -⟩ := hi.1 p hpP
  have ec := pA_eq hF c1 c2
  rw [ec] at kn ky
  obtain ⟨g0, g1, g2, g3, g4, g5, g6, g7⟩ := hr.2.1 p hpP
  unfold Y
  repeat (refine X_n rfl rfl rfl ?_)
  refine X_la rfl rfl rfl hF (show p < 60 by omega) ?_
  refine X_cd rfl rfl rfl rfl (Y_foundRowTo g6 (gRow_lt hP hpP)) ?_
  repeat (refine X_n rfl rfl rfl ?_)
  refine X_la rfl rfl rfl hF (show p < 60 by omega) ?_
  refine X_top (g4.trans c2) ?_
  iterate 3 (refine X_n rfl rfl rfl ?_)
  exact Y_stepOne_loop hF hS hP hR hr hi hpP h0 c2 c1 k1 (by omega) kn ky 4 _ (Nat.le_refl 4) rfl
end
