/-! the class's run: all rows are found, then all go -/
def cut (C : Ct) : Ct := fun k => if (1 ≤ k ∧ k ≤ 9) ∨ (23 ≤ k ∧ k ≤ 28) then C k else fun _ => 0
section
variable {F : Fx} {C0 A C C' : Ct} {P t p b k c e : Nat} {N : Nat → Int32} {J : Nat → Int64} {G : Ex} {Q : mE → mH → Prop}
theorem cut_eq (h : cfg C C') : cut C' = cut C := by
  funext k
  unfold cut
  by_cases q : (1 ≤ k ∧ k ≤ 9) ∨ (23 ≤ k ∧ k ≤ 28)
  · rw [if_pos q, if_pos q, h k q]
  · rw [if_neg q, if_neg q]
theorem nuC_cut : nuC F (cut C) = nuC F C := rfl
theorem nuC_cfg (h : cfg C C') : nuC F C' = nuC F C := by rw [← nuC_cut, cut_eq h, nuC_cut]
theorem gRow_cfg (h : cfg C C') : gRow F C' p = gRow F C p := by
  unfold gRow hRow s0
  rw [nuC_cfg h, h 27 (by omega), h 24 (by omega)]
theorem good_cfg (h : cfg C C') : good F C' A N t k c b = good F C A N t k c b := by
  unfold good ent brd hasR
  rw [nuC_cfg h, h 4 (by omega), h 3 (by omega), h 2 (by omega)]
theorem nbC_cfg (h : cfg C C') : nbC C' c k = nbC C c k := by
  unfold nbC opB
  rw [h 9 (by omega), h 2 (by omega)]
theorem tgt_cfg (h : cfg C C') : ∀ d, tgt F C' A N t k c d = tgt F C A N t k c d := by
  intro d
  induction d with
  | zero => rfl
  | succ d ih =>
    rw [tgt, tgt, nbC_cfg h]
    cases nbC C c (3 - d) with
    | none => exact ih
    | some b => dsimp only; rw [good_cfg h, ih]
theorem stp_cfg (h : cfg C C') : stp F C' t p b A = stp F C t p b A := by
  unfold stp mv
  rw [nuC_cfg h, gRow_cfg h, h 5 (by omega), h 25 (by omega)]
theorem go1_cfg (h : cfg C C') : go1 F C' t = go1 F C t := by
  funext z p
  unfold go1
  rw [gRow_cfg h, tgt_cfg h]
  cases tgt F C z.1 z.2 t (gRow F C p) (pA z.1 p) 4 with
  | none => rfl
  | some b => dsimp only; rw [stp_cfg h]
theorem ctI_cfg (h : cfg C C') : ∀ i, ctI C' t A i = ctI C t A i := by
  intro i
  induction i with
  | zero => rfl
  | succ i ih =>
    rw [ctI, ctI, ih]
    unfold brd
    rw [h 4 (by omega)]
theorem ordL_cfg (h : cfg C C') : ordL F C' A t k = ordL F C A t k := by
  unfold ordL
  congr 1
  funext l
  unfold Ord lx cand nuP
  simp only [nuC_cfg h, gRow_cfg h]
theorem sec_cfg (h : cfg C C') : sec F C' P t A = sec F C P t A := by
  unfold sec
  rw [ctI_cfg h, ordL_cfg h, go1_cfg h]
theorem runF_cfg (h : cfg C C') : ∀ d t A, runF F C' P d t A = runF F C P d t A := by
  intro d
  induction d with
  | zero => intro t A; rfl
  | succ d ih => intro t A; rw [runF, runF, sec_cfg h, ih]
theorem bgn_cfg (h : cfg C C') : bgn C' = bgn C := by
  unfold bgn
  rw [h 24 (by omega), h 28 (by omega), h 26 (by omega), h 25 (by omega)]
theorem fin_cfg (h : cfg C C') : fin F C' P = fin F C P := by
  unfold fin
  rw [bgn_cfg h, runF_cfg h]
theorem okP_cfg (h : cfg C C') (hP : okP F C P) : okP F C' P := by
  unfold okP at *
  rw [h 23 (by omega), h 24 (by omega), h 25 (by omega), h 26 (by omega), h 27 (by omega), h 28 (by omega), h 2 (by omega), h 1 (by omega)]
  exact hP
theorem sameN.cfg (h : sameN C C') : cfg C C' := fun k hk => h k (by omega) (by omega) (by omega)
/-- rowTo once more: what was known stays known -/
theorem Y_rowK {x : Int32} (hF : okF F) (hS : okS F C) (hN : okN F C) (he : e < 9) (hx : x + 1 = nI e)
    (kk : ∀ C', sameN C C' → okN F C' → C' 21 e = 1 → (∀ r, C 21 r = 1 → C' 21 r = 1) → Q (.inl (some (.ref (12 + e)))) (hp F C' J G)) :
    Y y_Numbers_rowTo [.ref 10, .int x] (hp F C J G) Q := by
  have hn := hF.n
  have hx2 : x = nI e - 1 := by rw [← hx, Int32.add_sub_cancel]
  unfold Y
  iterate 4 (refine X_s rfl rfl ?_)
  rw [show x + Int32.ofInt 1 = nI e from hx]
  iterate 3 (refine X_s rfl rfl ?_)
  refine X_lz (n := 9) (f := C 21) rfl rfl rfl he (by omega) ?_
  rcases hN e he with e0 | ⟨e1, hr⟩
  · rw [e0]
    refine X_bf rfl rfl rfl (fun h => h rfl) ?_
    iterate 5 (refine X_s rfl rfl ?_)
    refine X_ln rfl rfl rfl rfl rfl he (show 9 < 2 ^ 31 by omega) ?_
    refine X_c rfl rfl rfl rfl (Y_find (g := x) hF hS he) ?_ ?_
    · rintro v h' ⟨row, qf, ev, rfl, hrow⟩
      cases ev
      iterate 4 (refine X_s rfl rfl ?_)
      refine X_tn (n := 9) (c := fun k => mZ 9 (upd (hB C e row qf 21) k 1)) rfl rfl rfl rfl rfl rfl he (show 9 < 2 ^ 31 by omega) ?_
      refine X_h (hp_stz (k := 21) rfl rfl) ?_
      iterate 3 (refine X_s rfl rfl ?_)
      refine X_ln rfl rfl rfl rfl rfl he (show 9 < 2 ^ 31 by omega) ?_
      have hsm : sameN C (st (hB C e row qf) 21 e 1) := fun k k1 k2 k3 => by rw [st_f k1, hB_o (by omega) k2]
      have hrow' : st (hB C e row qf) 21 e 1 (12 + e) = row := by rw [st_f (by omega), hB_row he]
      refine X_r rfl rfl rfl rfl (kk _ hsm (fun r hr9 => ?_) st_s (fun r h => ?_))
      · by_cases er : r = e
        · subst er
          right
          refine ⟨by rw [st_s], ?_⟩
          rw [hrow', ← hx2]
          exact rowOk_same hsm hrow
        · have e21 : st (hB C e row qf) 21 e 1 21 r = C 21 r := by rw [st_i er, hB_o (by omega) (by omega)]
          have e12 : st (hB C e row qf) 21 e 1 (12 + r) = C (12 + r) := by rw [st_f (by omega), hB_o (by omega) (by omega)]
          rw [e21, e12]
          rcases hN r hr9 with q | ⟨q1, q2⟩
          · exact Or.inl q
          · exact Or.inr ⟨q1, rowOk_same hsm q2⟩
      · by_cases er : r = e
        · subst er; rw [st_s]
        · rw [st_i er, hB_o (by omega) (by omega)]; exact h
    · rintro v h' ⟨row, qf, ev, -⟩
      cases ev
  · rw [e1]
    refine X_bt rfl rfl rfl (show ¬ (1 : Int32) = 0 by decide) ?_
    iterate 3 (refine X_s rfl rfl ?_)
    refine X_ln rfl rfl rfl rfl rfl he (show 9 < 2 ^ 31 by omega) ?_
    exact X_r rfl rfl rfl rfl (kk C (sameN_rf C) hN e1 (fun _ h => h))
theorem Y_findAll_loop {m : Nat} (hF : okF F) (hm : m ≤ 8) (kk : ∀ C', sameN C C' → okN F C' → (∀ r, r ≤ m → C' 21 r = 1) → Q (.inl none) (hp F C' J G)) :
    ∀ d e C', e + d = m + 1 → okS F C' → C' 1 11 = nI m → sameN C C' → okN F C' → (∀ r, r < e → C' 21 r = 1) → X y_Numbers_findAll 2 [some (.ref 10), some (.int (nI e - 1))] [] (hp F C' J G) Q := by
  intro d
  induction d with
  | zero =>
    intro e C' hd hS h11 hs hN hr
    have : e = m + 1 := by omega
    subst this
    repeat (refine X_n rfl rfl rfl ?_)
    refine X_bt rfl rfl rfl (show C' 1 11 ≤ nI (m + 1) - 1 by rw [h11, nI_pred]; exact Int32.le_refl _) ?_
    exact X_r rfl rfl rfl rfl (kk C' hs hN (fun r hr' => hr r (by omega)))
  | succ d ih =>
    intro e C' hd hS h11 hs hN hr
    have hlt : ¬ C' 1 11 ≤ nI e - 1 := by
      rw [h11]
      cases e with
      | zero => exact fun h => absurd (Int32.le_trans (nI_pos' (n := m) (by omega)) h) (by decide)
      | succ e => rw [nI_pred]; exact nI_ge (by omega) (by omega)
    repeat (refine X_n rfl rfl rfl ?_)
    refine X_bf rfl rfl rfl hlt ?_
    repeat (refine X_n rfl rfl rfl ?_)
    refine X_k rfl rfl rfl rfl (Y_rowK hF hS hN (show e < 9 by omega) (Int32.sub_add_cancel ..) (fun C2 s2 n2 h2 k2 => ?_))
    dsimp only
    iterate 3 (refine X_n rfl rfl rfl ?_)
    rw [show nI e - 1 + Int32.ofInt 1 = nI (e + 1) - 1 from by rw [nI_pred]; exact Int32.sub_add_cancel ..]
    refine ih (e + 1) C2 (by omega) (okS_same s2 hS) (by rw [s2 1 (by omega) (by omega) (by omega)]; exact h11) (sameN_tr hs s2) n2 (fun r hr' => ?_)
    by_cases q : r = e
    · subst q; exact h2
    · exact k2 r (hr r (by omega))
theorem Y_findAll {m : Nat} (hF : okF F) (hS : okS F C) (hN : okN F C) (hm : m ≤ 8) (h11 : C 1 11 = nI m) (kk : ∀ C', sameN C C' → okN F C' → (∀ r, r ≤ m → C' 21 r = 1) → Q (.inl none) (hp F C' J G)) : Y y_Numbers_findAll [.ref 10] (hp F C J G) Q := by
  unfold Y
  iterate 2 (refine X_n rfl rfl rfl ?_)
  exact Y_findAll_loop hF hm kk (m + 1) 0 C (by omega) hS h11 (sameN_rf C) hN (fun r hr => by omega)
theorem hRow_le {m : Nat} (hP : okP F C P) (h11 : C 1 11 = nI m) (hm : m ≤ 8) (hp : p < P) : hRow C p ≤ m := by
  unfold hRow
  rcases (hP.2.2.1 p hp).2.2.2 with e | ⟨x, e, h8, hx⟩
  · rw [e]; exact Nat.zero_le _
  · rw [h11] at hx
    have := (nI_ltI (by omega) (by omega)).mp hx
    rw [e, nI_1, nI_clamp (by omega)]; omega
theorem rwC_of {m : Nat} (hF : okF F) (hS : okS F C) (hP : okP F C P) (hN : okN F C) (h11 : C 1 11 = nI m) (hm : m ≤ 8) (h : ∀ r, r ≤ m → C 21 r = 1) : rwC F C P := by
  have key : ∀ r, r ≤ m → ∀ c, c < F.1 * F.2.1 → C (12 + r) c = nuC F C r c := fun r hr c hc => by
    rcases hN r (by omega) with q | ⟨-, q⟩
    · rw [h r hr] at q; exact absurd q (by decide)
    · exact nuC_row hF hS (by omega) q hc
  intro p hp c hc
  have h1 := hRow_le hP h11 hm hp
  refine ⟨key _ ?_ c hc, key _ h1 c hc⟩
  unfold gRow
  by_cases q : nuC F C (hRow C p) (s0 C p) = -1
  · rw [m_if_t q]; exact Nat.zero_le _
  · rw [m_if_f q]; exact h1
theorem run_inv (hF : okF F) (hS : okS F C) (hP : okP F C P) : ∀ d t A, t + d = 3600 → inv F C P t A → inv F C P (runF F C P d t A).1 (runF F C P d t A).2 ∧ (runF F C P d t A).1 ≤ 3600 := by
  intro d
  induction d with
  | zero => intro t A h1 h2; exact ⟨h2, by show t ≤ 3600; omega⟩
  | succ d ih =>
    intro t A h1 h2
    rw [runF]
    by_cases hw : waits P A
    · rw [m_if_t hw]; exact ih (t + 1) _ (by omega) (sec_inv hF hS hP h2 (by omega))
    · rw [m_if_f hw]; exact ⟨h2, by show t ≤ 3600; omega⟩
theorem fin_inv (hF : okF F) (hS : okS F C) (hP : okP F C P) : inv F C P (fin F C P).1 (fin F C P).2 ∧ (fin F C P).1 ≤ 3600 := run_inv hF hS hP 3600 0 (bgn C) (by omega) (bgn_inv hF hS hP)
/-- what the class keeps of a run -/
def resC (F : Fx) (P : Nat) (C : Ct) : Prop := (∀ p, p < P → C 30 p = (fin F C P).2 0 p ∧ C 31 p = (fin F C P).2 1 p ∧ C 32 p = (fin F C P).2 2 p ∧ C 33 p = (fin F C P).2 3 p ∧ ∀ k, k < ((fin F C P).2 3 p).toNatClampNeg → C (39 + p) k = (fin F C P).2 7 (600 * p + k) ∧ C (100 + p) k = (fin F C P).2 8 (600 * p + k)) ∧ (∀ c, c < F.1 * F.2.1 → C 34 c = (fin F C P).2 6 c) ∧ C 29 8 = nI (fin F C P).1
theorem resC.same (h : resC F P C) (h1 : cfg C C') (h2 : ∀ k, 29 ≤ k → k ≤ 163 → C' k = C k) (hP : P ≤ 60) : resC F P C' := by
  unfold resC at *
  rw [fin_cfg h1, h2 29 (by omega) (by omega), h2 30 (by omega) (by omega), h2 31 (by omega) (by omega), h2 32 (by omega) (by omega), h2 33 (by omega) (by omega), h2 34 (by omega) (by omega)]
  refine ⟨fun p hp => ?_, h.2⟩
  rw [h2 (39 + p) (by omega) (by omega), h2 (100 + p) (by omega) (by omega)]
  exact h.1 p hp
/-- what a run leaves as it was -/
def sameR (C C' : Ct) : Prop := ∀ k, (k < 12 ∨ 22 < k) → (k < 29 ∨ 163 < k) → 0 < k → C' k = C k
theorem sameR.cfg (h : sameR C C') : cfg C C' := fun k hk => h k (by omega) (by omega) (by omega)
theorem okN_eq (h : okN F C) (h1 : cfg C C') (h2 : ∀ k, 12 ≤ k → k ≤ 21 → C' k = C k) : okN F C' := by
  intro r hr
  have hrow : ∀ g row, rowOk F C' g row = rowOk F C g row := fun g row => by
    have e : ∀ D : Ct, rowOk F D g row = rowOk F (cut D) g row := fun D => rfl
    rw [e C', e C, cut_eq h1]
  rw [h2 21 (by omega) (by omega), h2 (12 + r) (by omega) (by omega), hrow]
  exact h r hr
theorem Y_run {m : Nat} (hF : okF F) (hS : okS F C) (hN : okN F C) (hm : m ≤ 8) (h11 : C 1 11 = nI m) (hP : okP F C P) (hb : C 0 5 = 0 ∨ C 0 5 = 1)
    (k1 : C 0 5 = 1 → Q (.inl (some (.int (C 29 8)))) (hp F C J G))
    (k0 : C 0 5 = 0 → ∀ C', sameR C C' → C' 0 5 = 1 → okN F C' → resC F P C' → Q (.inl (some (.int (nI (fin F C P).1)))) (hp F C' J G)) :
    Y y_Esc_run [.ref 0] (hp F C J G) Q := by
  have hP60 := hP.1
  unfold Y
  rcases hb with e | e
  · repeat (refine X_n rfl rfl rfl ?_)
    refine X_bf rfl rfl rfl (show ¬ ¬ C 0 5 = 0 from fun h => h e) ?_
    repeat (refine X_n rfl rfl rfl ?_)
    refine X_k rfl rfl rfl rfl (Y_findAll hF hS hN hm h11 (fun C1 s1 n1 r1 => ?_))
    dsimp only
    have S1 := okS_same s1 hS
    have P1 := okP_cfg s1.cfg hP
    have e11 : C1 1 11 = nI m := by rw [s1 1 (by omega) (by omega) (by omega)]; exact h11
    repeat (refine X_n rfl rfl rfl ?_)
    refine X_k rfl rfl rfl rfl (Y_goAll hF S1 P1 (rwC_of hF S1 P1 n1 e11 hm r1) (fun C2 N2 hr2 hl2 hi2 ht2 => ?_))
    dsimp only
    repeat (refine X_n rfl rfl rfl ?_)
    refine X_s rfl rfl ?_
    refine X_h (hp_f0_5 rfl) ?_
    repeat (refine X_n rfl rfl rfl ?_)
    have c2 : cfg C1 (st C2 0 5 1) := fun k hk => by rw [st_f (by omega)]; exact hr2.1 k (by omega)
    have ef : fin F C1 P = fin F C P := fin_cfg s1.cfg
    have hk := k0 e (st C2 0 5 1) (fun k a b c => by rw [st_f (by omega), hr2.1 k b, s1 k (by omega) (by omega) (by omega)]) st_s (okN_eq n1 c2 (fun k a b => by rw [st_f (by omega)]; exact hr2.1 k (by omega))) (by
      unfold resC
      rw [fin_cfg c2]
      refine ⟨fun p hp => ?_, fun c hc => ?_, ?_⟩
      · obtain ⟨g0, g1, g2, g3, g4, g5, g6, g7⟩ := hr2.2.1 p hp
        rw [st_f (by omega), st_f (by omega), st_f (by omega), st_f (by omega), st_f (by omega), st_f (by omega)]
        exact ⟨g0, g1, g2, g3, g7⟩
      · rw [st_f (by omega)]; exact (hr2.2.2.1 c hc).2
      · rw [st_f (by omega)]; exact hl2)
    rw [← ef, ← hl2] at hk
    exact X_r rfl rfl rfl rfl hk
  · repeat (refine X_n rfl rfl rfl ?_)
    refine X_bt rfl rfl rfl (show ¬ C 0 5 = 0 from fun h => by rw [e] at h; exact absurd h (by decide)) ?_
    repeat (refine X_n rfl rfl rfl ?_)
    exact X_r rfl rfl rfl rfl (k1 e)
end
