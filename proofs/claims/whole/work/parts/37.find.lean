/-! the class's walking numbers -/
/-- the open cell beside -/
def nbC (C : Ct) (c w : Nat) : Option Nat := if opB C c w = -1 then none else some (opB C c w).toNatClampNeg
def opC (C : Ct) (c : Nat) : Prop := ¬ C 2 c = 1
/-- the contents while the row e is found -/
def hB (C : Ct) (e : Nat) (row qf : Nat → Int32) : Ct := stA (stA C (12 + e) row) 22 qf
section
variable {F : Fx} {C : Ct} {J : Nat → Int64} {G : Ex} {e : Nat} {row qf : Nat → Int32}
theorem nI_nm1 {a : Nat} (h : a < 2 ^ 31) : ¬ nI a = -1 := by
  intro q
  have := nI_pos h
  rw [q] at this
  exact this (by decide)
theorem hB_row (he : e < 9) : hB C e row qf (12 + e) = row := by
  unfold hB; rw [stA_f (by omega), stA_k]
theorem hB_q : hB C e row qf 22 = qf := stA_k
theorem hB_o {k : Nat} (h1 : k ≠ 12 + e) (h2 : k ≠ 22) : hB C e row qf k = C k := by
  unfold hB; rw [stA_f h2, stA_f h1]
theorem hB_atr (he : e < 9) : (hp F (hB C e row qf) J G).1 (12 + e) = mI (F.1 * F.2.1) row := by
  rw [hp_at (kd_row e he).1 (ln_0 (kd_row e he).2), hB_row he]
theorem hB_atq : (hp F (hB C e row qf) J G).1 22 = mI (F.1 * F.2.1) qf := by
  rw [hp_at (k := 22) (n := F.1 * F.2.1) rfl rfl, hB_q]
theorem hB_sr (he : e < 9) (r' : Nat → Int32) : stA (hB C e row qf) (12 + e) r' = hB C e r' qf := by
  funext k
  unfold hB stA
  by_cases h1 : k = 12 + e
  · rw [if_pos h1, if_neg (by omega), if_pos h1]
  · rw [if_neg h1]
    by_cases h2 : k = 22
    · rw [if_pos h2, if_pos h2]
    · rw [if_neg h2, if_neg h2, if_neg h1, if_neg h1]
theorem hB_sq (q' : Nat → Int32) : stA (hB C e row qf) 22 q' = hB C e row q' := by
  funext k
  unfold hB stA
  by_cases h2 : k = 22
  · rw [if_pos h2, if_pos h2]
  · rw [if_neg h2, if_neg h2, if_neg h2]
theorem hB_op (he : e < 9) (c w : Nat) : opB (hB C e row qf) c w = opB C c w := by
  unfold opB
  rw [hB_o (k := 9) (by omega) (by omega), hB_o (k := 2) (by omega) (by omega)]
theorem hB_okB (he : e < 9) (h : okB F C) : okB F (hB C e row qf) := by
  unfold okB
  rw [hB_o (k := 9) (by omega) (by omega)]
  exact h
theorem opB_cases (hn : F.1 * F.2.1 ≤ 576) (hB : okB F C) {c w : Nat} (hc : c < F.1 * F.2.1) (hw : w < 4) : (opB C c w = -1 ∧ nbC C c w = none) ∨ ∃ d, d < F.1 * F.2.1 ∧ opB C c w = nI d ∧ nbC C c w = some d ∧ opC C d ∧ C 9 (c * 4 + w) = nI d := by
  unfold nbC
  by_cases h : opB C c w = -1
  · exact Or.inl ⟨h, if_pos h⟩
  · right
    rw [if_neg h]
    unfold opB at h ⊢
    split at h
    · exact absurd rfl h
    · rename_i h2
      rw [if_neg h2]
      rcases hB c hc w hw with q | ⟨d, hd, q⟩
      · exact absurd (Or.inl q) h2
      · have hd2 : d < 2 ^ 31 := by omega
        refine ⟨d, hd, q, by rw [q, nI_clamp hd2], fun hw => h2 (Or.inr (by rw [q, nI_clamp hd2]; exact hw)), q⟩
theorem Y_spread_loop {goal : Nat → Prop} {q0 : List Nat} {c nx : Nat} {qd : Int32} {Q : mE → mH → Prop} (hF : okF F) (hB0 : okB F C) (he : e < 9) (hx0 : nx < q0.length) (hc0 : q0.getD nx 0 = c) (hcn : c < F.1 * F.2.1) (hco : opC C c)
    (hsym : ∀ c w d, opC C c → c < F.1 * F.2.1 → w < 4 → nbC C c w = some d → ∃ w', w' < 4 ∧ nbC C d w' = some c)
    (kk : ∀ (q : List Nat) (row qf : Nat → Int32) (dn : Nat → Nat), Bf (F.1 * F.2.1) (nbC C) goal (opC C) q nx 4 row dn → (∀ i, i < q.length → qf i = nI (q.getD i 0)) → q0.length ≤ q.length → (∀ i, i < q0.length → q.getD i 0 = q0.getD i 0) → Q (.inl (some (.int (nI q.length)))) (hp F (hB C e row qf) J G)) :
    ∀ (d w : Nat), w + d = 4 → ∀ (q : List Nat) (row qf : Nat → Int32) (dn : Nat → Nat) (o6 : Option Value), Bf (F.1 * F.2.1) (nbC C) goal (opC C) q nx w row dn → (∀ i, i < q.length → qf i = nI (q.getD i 0)) → q0.length ≤ q.length → (∀ i, i < q0.length → q.getD i 0 = q0.getD i 0) →
      X y_Numbers_spread 6 [some (.ref 10), some (.int (nI c)), some (.ref (12 + e)), some (.int qd), some (.int (nI q.length)), some (.int (nI w)), o6] [] (hp F (hB C e row qf) J G) Q := by
  have hn := hF.n
  intro d
  induction d with
  | zero =>
    intro w hw q row qf dn o6 B hq hl hpre
    have : w = 4 := by omega
    subst this
    iterate 2 (refine X_s rfl rfl ?_)
    refine X_bt rfl rfl rfl (Int32.le_refl _) ?_
    refine X_s rfl rfl ?_
    exact X_r rfl rfl rfl rfl (kk q row qf dn B hq hl hpre)
  | succ d ih =>
    intro w hw q row qf dn o6 B hq hl hpre
    have hxq : nx < q.length := by omega
    have hcq : q.getD nx 0 = c := by rw [hpre nx hx0, hc0]
    have hlen := B.len
    iterate 2 (refine X_s rfl rfl ?_)
    refine X_bf rfl rfl rfl (nI_ge (b := 4) (show w < 4 by omega) (by decide)) ?_
    iterate 4 (refine X_s rfl rfl ?_)
    refine X_cd rfl rfl rfl rfl (Y_openBeside hF (hB_okB he hB0) hcn (show w < 4 by omega)) ?_
    rw [hB_op he]
    have again : ∀ (q : List Nat) (row qf : Nat → Int32) (dn : Nat → Nat) (o6 : Option Value), Bf (F.1 * F.2.1) (nbC C) goal (opC C) q nx (w + 1) row dn → (∀ i, i < q.length → qf i = nI (q.getD i 0)) → q0.length ≤ q.length → (∀ i, i < q0.length → q.getD i 0 = q0.getD i 0) →
        X y_Numbers_spread 69 [some (.ref 10), some (.int (nI c)), some (.ref (12 + e)), some (.int qd), some (.int (nI q.length)), some (.int (nI w)), o6] [] (hp F (hB C e row qf) J G) Q := by
      intro q row qf dn o6 B hq hl hpre
      iterate 2 (refine X_s rfl rfl ?_)
      have h := ih (w + 1) (by omega) q row qf dn o6 B hq hl hpre
      rw [← nI_1'] at h
      exact h
    rcases opB_cases hn hB0 hcn (show w < 4 by omega) with ⟨e1, e2⟩ | ⟨o, ho, e1, e2, e3, -⟩
    · rw [e1]
      iterate 3 (refine X_s rfl rfl ?_)
      refine X_bt rfl rfl rfl (show (-1 : Int32) = -1 from rfl) ?_
      exact again q row qf dn _ (B.skip hxq (fun o ho => by rw [hcq, e2] at ho; cases ho)) hq hl hpre
    · rw [e1]
      iterate 3 (refine X_s rfl rfl ?_)
      refine X_bf rfl rfl rfl (show ¬ nI o = -1 from nI_nm1 (by omega)) ?_
      iterate 2 (refine X_s rfl rfl ?_)
      refine X_li rfl (hB_atr he) rfl ho (by omega) ?_
      refine X_s rfl rfl ?_
      by_cases hm : o ∈ q
      · have hro : row o = nI (dn o) := (B.2.2.2.1 o hm).1
        have hdo : dn o < F.1 * F.2.1 := by
          obtain ⟨i, hi, ei⟩ := mem_getD hm
          have := B.2.2.2.2.1 i hi
          rw [ei] at this
          omega
        refine X_bt rfl rfl rfl (show ¬ row o = -1 from by rw [hro]; exact nI_nm1 (by omega)) ?_
        exact again q row qf dn _ (B.skip hxq (fun o' ho' => by rw [hcq, e2] at ho'; cases ho'; exact hm)) hq hl hpre
      · have hro : row o = -1 := B.2.2.1 o ho hm
        have hroom := B.room hm ho
        refine X_bf rfl rfl rfl (fun hh => hh hro) ?_
        iterate 3 (refine X_s rfl rfl ?_)
        refine X_len rfl hB_atq ?_
        refine X_bf rfl rfl rfl (nI_ge hroom (show F.1 * F.2.1 < 2 ^ 31 by omega)) ?_
        iterate 4 (refine X_s rfl rfl ?_)
        refine X_li rfl (hB_atr he) rfl hcn (by omega) ?_
        iterate 2 (refine X_s rfl rfl ?_)
        have hrc : row c = nI (dn c) := (B.2.2.2.1 c (by rw [← hcq]; exact getD_mem hxq)).1
        rw [hrc, nI_1']
        refine X_ti rfl (hB_atr he) (by omega) rfl ho (by omega) ?_
        refine X_h (hp_stA (kd_row e he).1 (ln_0 (kd_row e he).2)) ?_
        rw [hB_sr he]
        iterate 4 (refine X_s rfl rfl ?_)
        refine X_ti rfl hB_atq (by omega) rfl hroom (show F.1 * F.2.1 < 2 ^ 31 by omega) ?_
        refine X_h (hp_stA (k := 22) rfl rfl) ?_
        rw [hB_sq]
        refine X_s rfl rfl ?_
        have B2 := B.add hxq (show w < 4 by omega) (by rw [hcq]; exact e2) hm ho e3 (by rw [hcq]; exact hsym c w o hco hcn (by omega) e2)
        rw [hcq] at B2
        have h := again (q ++ [o]) (upd row o (nI (dn c + 1))) (upd qf q.length (nI o)) _ (some (.int (nI o))) B2 (fun i hi => by
          simp only [List.length_append, List.length_singleton] at hi
          rcases Nat.lt_or_ge i q.length with hl2 | hl2
          · rw [getD_app hl2]
            show (if i = q.length then _ else qf i) = _
            rw [if_neg (by omega)]; exact hq i hl2
          · have : i = q.length := by omega
            subst this
            rw [getD_last]
            exact if_pos rfl) (by simp; omega) (fun i hi => by rw [getD_app (by omega)]; exact hpre i hi)
        rw [List.length_append, List.length_singleton, ← nI_1'] at h
        exact h
end
