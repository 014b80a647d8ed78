/-! Numbers.find -/
theorem Bf_init {n : Nat} {nb : Nat → Nat → Option Nat} {goal op : Nat → Prop} {q : List Nat} {row : Nat → Int32} (h1 : q.Nodup) (h2 : ∀ c ∈ q, c < n) (h3 : ∀ c, c < n → c ∉ q → row c = -1) (h4 : ∀ c ∈ q, row c = 0) (h5 : ∀ c, c < n → (goal c ↔ c ∈ q)) : Bf n nb goal op q 0 0 row (fun _ => 0) :=
  ⟨h1, h2, h3, fun c hc => ⟨h4 c hc, h2 c hc, (h5 c (h2 c hc)).mpr hc⟩, fun i _ => Nat.zero_le i, fun _ _ _ _ => Nat.le_refl 0, fun _ _ _ => Nat.zero_le _, fun i w' hi hh _ o ho => by omega, fun c hc hg => ⟨(h5 c hc).mp hg, rfl⟩, Nat.zero_le _⟩
/-- the storey's own truth: what is beside is so both ways; the exits and their cells -/
def okS (F : Fx) (C : Ct) : Prop :=
  okB F C ∧ (∀ c, c < F.1 * F.2.1 → ∀ w, w < 4 → ∀ d, d < F.1 * F.2.1 → C 9 (c * 4 + w) = nI d → ∃ w', w' < 4 ∧ C 9 (d * 4 + w') = nI c) ∧
  ∃ X, X ≤ 8 ∧ C 1 11 = nI X ∧ (∀ x, x < X → C 6 x = -1 ∨ ∃ c, c < F.1 * F.2.1 ∧ C 6 x = nI c ∧ C 5 c = nI x ∧ C 2 c = 2) ∧ (∀ c, c < F.1 * F.2.1 → (C 5 c = -1 ∧ ¬ C 2 c = 2) ∨ ∃ x, x < X ∧ C 5 c = nI x ∧ C 6 x = nI c ∧ C 2 c = 2)
/-- the goals of a row: g is -1 for all exits, or an exit's number -/
def glC (C : Ct) (g : Int32) (c : Nat) : Prop := ∃ x, nI x < C 1 11 ∧ x < 8 ∧ C 6 x = nI c ∧ (g = -1 ∨ g = nI x)
theorem rch_op {n : Nat} {nb : Nat → Nat → Option Nat} {goal op : Nat → Prop} (hg : ∀ c, c < n → goal c → op c) : ∀ k c, Rch n nb goal op (k + 1) c → op c := by
  intro k
  induction k with
  | zero =>
    rintro c (h | h)
    · exact hg c h.1 h.2
    · exact h.1
  | succ k ih =>
    rintro c (h | h)
    · exact ih c h
    · exact h.1
section
variable {F : Fx} {C : Ct} {J : Nat → Int64} {G : Ex} {e : Nat} {row qf : Nat → Int32}
theorem okS.sym (hF : okF F) (h : okS F C) : ∀ c w d, opC C c → c < F.1 * F.2.1 → w < 4 → nbC C c w = some d → ∃ w', w' < 4 ∧ nbC C d w' = some c := by
  intro c w d ho hc hw hd
  have hn := hF.n
  rcases opB_cases hn h.1 hc hw with ⟨-, e2⟩ | ⟨d', hd', e1, e2, e3, e4⟩
  · rw [hd] at e2; cases e2
  · rw [hd] at e2; cases e2
    obtain ⟨w', hw', e5⟩ := h.2.1 c hc w hw d hd' e4
    refine ⟨w', hw', ?_⟩
    have ec : (C 9 (d * 4 + w')).toNatClampNeg = c := by rw [e5, nI_clamp (by omega)]
    have e6 : opB C d w' = nI c := by
      unfold opB
      rw [if_neg, e5]
      rintro (q | q)
      · rw [e5] at q; exact nI_nm1 (by omega) q
      · rw [ec] at q; exact ho q
    unfold nbC
    rw [e6, if_neg (nI_nm1 (by omega)), nI_clamp (by omega)]
theorem nbC_in (hF : okF F) (h : okS F C) {c w d : Nat} (hc : c < F.1 * F.2.1) (hw : w < 4) (hd : nbC C c w = some d) : d < F.1 * F.2.1 ∧ opC C d := by
  rcases opB_cases hF.n h.1 hc hw with ⟨-, e2⟩ | ⟨d', hd', e1, e2, e3, e4⟩
  · rw [hd] at e2; cases e2
  · rw [hd] at e2; cases e2
    exact ⟨hd', e3⟩
theorem hB_start (he : e < 9) : stA C (12 + e) row = hB C e row (C 22) := by
  funext k
  unfold hB stA
  by_cases h2 : k = 22
  · subst h2; rw [if_neg (by omega), if_pos rfl]
  · rw [if_neg h2]
/-- the answer: all numbers of the row -/
def rowOk (F : Fx) (C : Ct) (g : Int32) (row : Nat → Int32) : Prop := ∀ c, c < F.1 * F.2.1 → (row c = -1 ∧ ∀ k, ¬ Rch (F.1 * F.2.1) (nbC C) (glC C g) (opC C) k c) ∨ ∃ d, d < F.1 * F.2.1 ∧ row c = nI d ∧ Num (F.1 * F.2.1) (nbC C) (glC C g) (opC C) c d
/-- the second loop: the queue is spread, one after the other -/
theorem Y_find_loop2 {g : Int32} {Q : mE → mH → Prop} (hF : okF F) (hS : okS F C) (he : e < 9) (hgo : ∀ c, c < F.1 * F.2.1 → glC C g c → opC C c)
    (kk : ∀ (row qf : Nat → Int32), rowOk F C g row → Q (.inl none) (hp F (hB C e row qf) J G)) :
    ∀ (d nx : Nat), nx + d = F.1 * F.2.1 → ∀ (q : List Nat) (row qf : Nat → Int32) (dn : Nat → Nat) (o5 : Option Value), Bf (F.1 * F.2.1) (nbC C) (glC C g) (opC C) q nx 0 row dn → (∀ i, i < q.length → qf i = nI (q.getD i 0)) →
      X y_Numbers_find 76 [some (.ref 10), some (.int g), some (.ref (12 + e)), some (.int (nI q.length)), some (.int (nI nx)), o5] [] (hp F (hB C e row qf) J G) Q := by
  have hn := hF.n
  have done : ∀ (q : List Nat) (nx : Nat) (row qf : Nat → Int32) (dn : Nat → Nat) (o5 : Option Value), Bf (F.1 * F.2.1) (nbC C) (glC C g) (opC C) q nx 0 row dn → nx = q.length → X y_Numbers_find 112 [some (.ref 10), some (.int g), some (.ref (12 + e)), some (.int (nI q.length)), some (.int (nI nx)), o5] [] (hp F (hB C e row qf) J G) Q := by
    intro q nx row qf dn o5 B hnx
    subst hnx
    exact X_r rfl rfl rfl rfl (kk row qf (fun c hc => B.fin (fun c w d hc hw hd => nbC_in hF hS hc hw hd) (hS.sym hF) c hc))
  intro d
  induction d with
  | zero =>
    intro nx hd q row qf dn o5 B hq
    have hlen := B.len
    have hle : nx ≤ q.length := B.2.2.2.2.2.2.2.2.2
    have : nx = q.length := by omega
    iterate 2 (refine X_s rfl rfl ?_)
    refine X_bt rfl rfl rfl (show nI q.length ≤ nI nx by rw [this]; exact Int32.le_refl _) ?_
    exact done q nx row qf dn o5 B this
  | succ d ih =>
    intro nx hd q row qf dn o5 B hq
    have hlen := B.len
    have hle : nx ≤ q.length := B.2.2.2.2.2.2.2.2.2
    rcases Nat.lt_or_ge nx q.length with hx | hx
    · iterate 2 (refine X_s rfl rfl ?_)
      refine X_bf rfl rfl rfl (nI_ge hx (by omega)) ?_
      iterate 3 (refine X_s rfl rfl ?_)
      refine X_len rfl hB_atq ?_
      refine X_bf rfl rfl rfl (nI_ge (show nx < F.1 * F.2.1 by omega) (by omega)) ?_
      iterate 4 (refine X_s rfl rfl ?_)
      refine X_li rfl hB_atq rfl (show nx < F.1 * F.2.1 by omega) (by omega) ?_
      rw [hq nx hx]
      iterate 2 (refine X_s rfl rfl ?_)
      have hcn : q.getD nx 0 < F.1 * F.2.1 := B.2.1 _ (getD_mem hx)
      have hco : opC C (q.getD nx 0) := by
        have hr := (B.2.2.2.1 _ (getD_mem hx)).2
        cases hdn : dn (q.getD nx 0) with
        | zero => rw [hdn] at hr; exact hgo _ hr.1 hr.2
        | succ k => rw [hdn] at hr; exact rch_op hgo k _ hr
      refine X_c (Q' := fun o h' => ∃ (q2 : List Nat) (row2 qf2 : Nat → Int32) (dn2 : Nat → Nat), o = .inl (some (.int (nI q2.length))) ∧ h' = hp F (hB C e row2 qf2) J G ∧ Bf (F.1 * F.2.1) (nbC C) (glC C g) (opC C) q2 nx 4 row2 dn2 ∧ (∀ i, i < q2.length → qf2 i = nI (q2.getD i 0)) ∧ q.length ≤ q2.length) rfl rfl rfl rfl ?_ ?_ ?_
      · unfold Y
        iterate 4 (refine X_s rfl rfl ?_)
        exact Y_spread_loop (q0 := q) (c := q.getD nx 0) hF hS.1 he hx rfl hcn hco (hS.sym hF) (fun q2 row2 qf2 dn2 B2 hq2 hl2 _ => ⟨q2, row2, qf2, dn2, rfl, rfl, B2, hq2, hl2⟩) 4 0 (by omega) q row qf dn _ B hq (Nat.le_refl _) (fun _ _ => rfl)
      · rintro v h' ⟨q2, row2, qf2, dn2, e1, rfl, B2, hq2, hl2⟩
        cases e1
        iterate 3 (refine X_s rfl rfl ?_)
        have h := ih (nx + 1) (by omega) q2 row2 qf2 dn2 o5 (B2.next (by omega)) hq2
        rw [← nI_1'] at h
        exact h
      · rintro x h' ⟨q2, row2, qf2, dn2, e1, -⟩
        cases e1
    · have : nx = q.length := by omega
      iterate 2 (refine X_s rfl rfl ?_)
      refine X_bt rfl rfl rfl (show nI q.length ≤ nI nx by rw [this]; exact Int32.le_refl _) ?_
      exact done q nx row qf dn o5 B this
end
