/-! the class's run: the order, all steps of a second -/
section
variable {F : Fx} {C0 A C : Ct} {P t p b k c : Nat} {N : Nat → Int32} {J : Nat → Int64} {G : Ex} {Q : mE → mH → Prop}
theorem ord_len {i : Nat} {l : List Nat} (h : Ord F C0 A t i l) : l.length ≤ i := pig i l (ord_nodup h) (fun x hx => ((h.2 x).mp hx).1)
theorem Y_lineUp_in {i m : Nat} (hF : okF F) (hP : okP F C0 P) (hR : rwC F C0 P) (hr : repC F C0 P t N A C) (hi : inv F C0 P t A) (hiP : i < P) (hc : cand F C0 A t i)
    (kk : ∀ f l, arrL f 0 l → l.length = m + 1 → Ord F C0 A t (i + 1) l → ∀ x5 x4, X y_Flight_lineUp 106 [some (.ref 29), some (.int (nI t)), some (.int (nI m)), some (.int (nI i)), x4, x5] [] (hp F (stA C 163 f) J G) Q) :
    ∀ n f l1 l2, l1.length = n → arrL f 0 l1 → arrL f (n + 1) l2 → n + l2.length = m → m < 60 → Ord F C0 A t i (l1 ++ l2) → (∀ p, p ∈ l2 → nuP F C0 A i < nuP F C0 A p) →
    X y_Flight_lineUp 53 [some (.ref 29), some (.int (nI t)), some (.int (nI m)), some (.int (nI i)), some (.int (nuP F C0 A i)), some (.int (nI n))] [] (hp F (stA C 163 f) J G) Q := by
  have hn := hF.n
  have hP60 := hP.1
  have exit : ∀ n f l1 l2, l1.length = n → arrL f 0 l1 → arrL f (n + 1) l2 → n + l2.length = m → m < 60 → Ord F C0 A t i (l1 ++ l2) → (∀ p, p ∈ l2 → nuP F C0 A i < nuP F C0 A p) → (∀ p, p ∈ l1 → nuP F C0 A p ≤ nuP F C0 A i) →
      X y_Flight_lineUp 98 [some (.ref 29), some (.int (nI t)), some (.int (nI m)), some (.int (nI i)), some (.int (nuP F C0 A i)), some (.int (nI n))] [] (hp F (stA C 163 f) J G) Q := by
    intro n f l1 l2 e1 h1 h2 e2 hm ho hl2 hl1
    repeat (refine X_n rfl rfl rfl ?_)
    refine X_sa (k := n) rfl rfl rfl hF (show n < 60 by omega) ?_
    rw [st_stA]
    refine kk _ (l1 ++ i :: l2) ?_ ?_ (ho.ins hc hl1 hl2) _ _
    · rw [arrL_app]
      refine ⟨arrL_upd (Or.inr (by omega)) h1, ?_, ?_⟩
      · show (if 0 + l1.length = n then nI i else f (0 + l1.length)) = nI i
        rw [if_pos (by omega)]
      · rw [show 0 + l1.length + 1 = n + 1 by omega]
        exact arrL_upd (Or.inl (by omega)) h2
    · rw [List.length_append, List.length_cons]; omega
  intro n
  induction n with
  | zero =>
    intro f l1 l2 e1 h1 h2 e2 hm ho hl2
    have : l1 = [] := List.length_eq_zero_iff.mp e1
    subst this
    repeat (refine X_n rfl rfl rfl ?_)
    refine X_bt rfl rfl rfl (show (nI 0 : Int32) ≤ 0 from Int32.le_refl _) ?_
    exact exit 0 f [] l2 e1 h1 h2 e2 hm ho hl2 (fun p hp => (by cases hp))
  | succ n ih =>
    intro f l1 l2 e1 h1 h2 e2 hm ho hl2
    rcases List.eq_nil_or_concat l1 with e | ⟨l0, a, e⟩
    · subst e; cases e1
    rw [List.concat_eq_append] at e
    subst e
    rw [List.length_append, List.length_cons, List.length_nil] at e1
    rw [arrL_app] at h1
    have fa : f n = nI a := by
      have := h1.2.1
      rw [show 0 + l0.length = n by omega] at this
      exact this
    have ma : a ∈ (l0 ++ [a]) ++ l2 := List.mem_append_left _ (List.mem_append_right _ (List.mem_cons_self ..))
    have haP : a < P := by have := ((ho.2 a).mp ma).1; omega
    repeat (refine X_n rfl rfl rfl ?_)
    refine X_bf rfl rfl rfl (show ¬ nI (n + 1) ≤ 0 from nI_ge (a := 0) (by omega) (by omega)) ?_
    repeat (refine X_n rfl rfl rfl ?_)
    refine X_top (w := nI n) (nI_pred n) ?_
    refine X_la rfl rfl rfl hF (show n < 60 by omega) ?_
    refine X_top (w := nI a) (show stA C 163 f 163 n = nI a by rw [stA_k]; exact fa) ?_
    refine X_cd rfl rfl rfl rfl (Y_fnum hF hP hR (hr.ord hP60) hi haP) ?_
    repeat (refine X_n rfl rfl rfl ?_)
    refine X_b rfl rfl rfl (fun q => ?_) (fun q => ?_)
    · refine exit (n + 1) f (l0 ++ [a]) l2 (by rw [List.length_append, List.length_cons, List.length_nil]; omega) (arrL_app.mpr h1) h2 e2 hm ho hl2 (fun p hp => ?_)
      have hpw := (List.pairwise_append.mp (List.pairwise_append.mp ho.1).1)
      rcases List.mem_append.mp hp with m1 | m1
      · rcases hpw.2.2 p m1 a (List.mem_cons_self ..) with g | ⟨g, -⟩
        · exact Int32.le_trans (Int32.le_of_lt g) q
        · rw [g]; exact q
      · rcases List.mem_cons.mp m1 with g | g
        · rw [g]; exact q
        · cases g
    · have q := Int32.not_le.mp q
      repeat (refine X_n rfl rfl rfl ?_)
      refine X_top (w := nI n) (nI_pred n) ?_
      refine X_la rfl rfl rfl hF (show n < 60 by omega) ?_
      refine X_top (w := nI a) (show stA C 163 f 163 n = nI a by rw [stA_k]; exact fa) ?_
      refine X_sa (k := n + 1) rfl rfl rfl hF (show n + 1 < 60 by omega) ?_
      rw [st_stA]
      iterate 2 (refine X_n rfl rfl rfl ?_)
      rw [show nI (n + 1) + Int32.ofInt (-1) = nI n from pk_m1 n]
      refine ih _ l0 (a :: l2) (by omega) (arrL_upd (Or.inr (by omega)) h1.1) ⟨?_, ?_⟩ (by rw [List.length_cons]; omega) hm (by rw [List.append_assoc] at ho; exact ho) (fun p hp => ?_)
      · show (if n + 1 = n + 1 then nI a else f (n + 1)) = nI a
        rw [if_pos rfl]
      · exact arrL_upd (Or.inl (by omega)) h2
      · rcases List.mem_cons.mp hp with g | g
        · rw [g]; exact q
        · exact hl2 p g
theorem Y_lineUp_loop (hF : okF F) (hP : okP F C0 P) (hR : rwC F C0 P) (hr : repC F C0 P t N A C) (hi : inv F C0 P t A)
    (kk : ∀ f l, arrL f 0 l → Ord F C0 A t P l → Q (.inl (some (.int (nI l.length)))) (hp F (stA C 163 f) J G)) :
    ∀ d i f l x4 x5, i + d = P → arrL f 0 l → Ord F C0 A t i l → X y_Flight_lineUp 4 [some (.ref 29), some (.int (nI t)), some (.int (nI l.length)), some (.int (nI i)), x4, x5] [] (hp F (stA C 163 f) J G) Q := by
  have hn := hF.n
  have hP60 := hP.1
  have e23 : ∀ f, stA C 163 f 23 5 = nI P := fun f => by rw [stA_f (by omega), hr.1 23 (by omega)]; exact hP.2.1
  intro d
  induction d with
  | zero =>
    intro i f l x4 x5 hd hf ho
    have : i = P := by omega
    subst this
    repeat (refine X_n rfl rfl rfl ?_)
    refine X_bt rfl rfl rfl (show stA C 163 f 23 5 ≤ nI i by rw [e23]; exact Int32.le_refl _) ?_
    repeat (refine X_n rfl rfl rfl ?_)
    exact X_r rfl rfl rfl rfl (kk f l hf ho)
  | succ d ih =>
    intro i f l x4 x5 hd hf ho
    have hiP : i < P := by omega
    obtain ⟨g0, g1, g2, g3, g4, g5, g6, g7⟩ := hr.2.1 i hiP
    have no : ¬ cand F C0 A t i → ∀ x4 x5, X y_Flight_lineUp 109 [some (.ref 29), some (.int (nI t)), some (.int (nI l.length)), some (.int (nI i)), x4, x5] [] (hp F (stA C 163 f) J G) Q := by
      intro h x4 x5
      iterate 2 (refine X_n rfl rfl rfl ?_)
      rw [nI_1']
      exact ih (i + 1) f l x4 x5 (by omega) hf (ho.skip h)
    repeat (refine X_n rfl rfl rfl ?_)
    refine X_bf rfl rfl rfl (show ¬ stA C 163 f 23 5 ≤ nI i by rw [e23]; exact nI_ge hiP (by omega)) ?_
    repeat (refine X_n rfl rfl rfl ?_)
    refine X_la rfl rfl rfl hF (show i < 60 by omega) ?_
    refine X_b rfl rfl rfl (fun q => ?_) (fun q => ?_)
    · exact no (fun h => q (show C 30 i = 0 from g0.trans h.1)) _ _
    have q : C 30 i = 0 := Classical.not_not.mp q
    repeat (refine X_n rfl rfl rfl ?_)
    refine X_la rfl rfl rfl hF (show i < 60 by omega) ?_
    repeat (refine X_n rfl rfl rfl ?_)
    refine X_b rfl rfl rfl (fun q2 => ?_) (fun q2 => ?_)
    · exact no (fun h => i32_irr _ (Int32.lt_of_lt_of_le (show nI t < A 9 i from g5 ▸ q2) h.2.1)) _ _
    have q2 : C 37 i ≤ nI t := Int32.not_lt.mp q2
    repeat (refine X_n rfl rfl rfl ?_)
    refine X_cd rfl rfl rfl rfl (Y_fnum hF hP hR (hr.ord hP60) hi hiP) ?_
    repeat (refine X_n rfl rfl rfl ?_)
    refine X_b rfl rfl rfl (fun q3 => ?_) (fun q3 => ?_)
    · exact no (fun h => h.2.2 q3) _ _
    have hc : cand F C0 A t i := ⟨g0.symm.trans q, by rw [← g5]; exact q2, q3⟩
    repeat (refine X_n rfl rfl rfl ?_)
    refine X_cd rfl rfl rfl rfl (Y_fnum hF hP hR (hr.ord hP60) hi hiP) ?_
    iterate 3 (refine X_n rfl rfl rfl ?_)
    have hl := ord_len ho
    refine Y_lineUp_in (m := l.length) hF hP hR hr hi hiP hc (fun f' l' h1 h2 h3 x5 x4 => ?_) l.length f l [] rfl hf trivial (by rw [List.length_nil]; rfl) (by omega) (by rw [List.append_nil]; exact ho) (fun p hp => (by cases hp))
    refine X_n rfl rfl rfl ?_
    iterate 2 (refine X_n rfl rfl rfl ?_)
    rw [nI_1', nI_1', ← h2]
    exact ih (i + 1) f' l' x4 x5 (by omega) h1 h3
theorem Y_lineUp (hF : okF F) (hP : okP F C0 P) (hR : rwC F C0 P) (hr : repC F C0 P t N A C) (hi : inv F C0 P t A)
    (kk : ∀ f l, arrL f 0 l → Ord F C0 A t P l → Q (.inl (some (.int (nI l.length)))) (hp F (stA C 163 f) J G)) : Y y_Flight_lineUp [.ref 29, .int (nI t)] (hp F C J G) Q := by
  unfold Y
  iterate 4 (refine X_n rfl rfl rfl ?_)
  have h := Y_lineUp_loop (Q := Q) hF hP hR hr hi kk P 0 (C 163) [] none none (by omega) trivial Ord.nil
  rw [stA_self] at h
  exact h
end
