/-! Numbers.find: the goals; rowTo -/
section
variable {F : Fx} {C : Ct} {J : Nat → Int64} {G : Ex} {e : Nat} {row qf : Nat → Int32}
theorem Y_find_loop1 {g : Int32} {n8 : Nat} {Q : mE → mH → Prop} (hF : okF F) (hS : okS F C) (he : e < 9) (hX8 : n8 ≤ 8) (hX : C 1 11 = nI n8) (hE : ∀ x, x < n8 → C 6 x = -1 ∨ ∃ c, c < F.1 * F.2.1 ∧ C 6 x = nI c ∧ C 5 c = nI x ∧ C 2 c = 2)
    (kk : ∀ (q : List Nat) (row qf : Nat → Int32) (o5 : Option Value), Bf (F.1 * F.2.1) (nbC C) (glC C g) (opC C) q 0 0 row (fun _ => 0) → (∀ i, i < q.length → qf i = nI (q.getD i 0)) → X y_Numbers_find 76 [some (.ref 10), some (.int g), some (.ref (12 + e)), some (.int (nI q.length)), some (.int (nI 0)), o5] [] (hp F (hB C e row qf) J G) Q) :
    ∀ (d x : Nat), x + d = n8 → ∀ (q : List Nat) (row qf : Nat → Int32) (o5 : Option Value), q.Nodup → (∀ c, c ∈ q ↔ ∃ x', x' < x ∧ c < F.1 * F.2.1 ∧ C 6 x' = nI c ∧ (g = -1 ∨ g = nI x')) → (∀ c, c < F.1 * F.2.1 → row c = if c ∈ q then 0 else -1) → (∀ i, i < q.length → qf i = nI (q.getD i 0)) →
      X y_Numbers_find 10 [some (.ref 10), some (.int g), some (.ref (12 + e)), some (.int (nI q.length)), some (.int (nI x)), o5] [] (hp F (hB C e row qf) J G) Q := by
  have hn := hF.n
  intro d
  induction d with
  | zero =>
    intro x hx q row qf o5 h1 h2 h3 h4
    have : x = n8 := by omega
    subst this
    iterate 4 (refine X_s rfl rfl ?_)
    rw [hB_o (k := 1) (by omega) (by omega), hX]
    refine X_bt rfl rfl rfl (Int32.le_refl _) ?_
    iterate 2 (refine X_s rfl rfl ?_)
    refine kk q row qf o5 (Bf_init h1 (fun c hc => ?_) (fun c hc hq => ?_) (fun c hc => ?_) (fun c hc => ?_)) h4
    · obtain ⟨x', -, hcn, -⟩ := (h2 c).mp hc
      exact hcn
    · rw [h3 c hc, if_neg hq]
    · have hcn := (h2 c).mp hc
      obtain ⟨x', -, hcn, -⟩ := hcn
      rw [h3 c hcn, if_pos hc]
    · unfold glC
      rw [h2 c, hX]
      constructor
      · rintro ⟨x', hx', hx8, hc6, hg⟩
        exact ⟨x', (nI_ltI (by omega) (by omega)).mp hx', hc, hc6, hg⟩
      · rintro ⟨x', hx', -, hc6, hg⟩
        exact ⟨x', nI_lt hx' (by omega), by omega, hc6, hg⟩
  | succ d ih =>
    intro x hx q row qf o5 h1 h2 h3 h4
    have again : ∀ (q : List Nat) (row qf : Nat → Int32) (o5 : Option Value), q.Nodup → (∀ c, c ∈ q ↔ ∃ x', x' < x + 1 ∧ c < F.1 * F.2.1 ∧ C 6 x' = nI c ∧ (g = -1 ∨ g = nI x')) → (∀ c, c < F.1 * F.2.1 → row c = if c ∈ q then 0 else -1) → (∀ i, i < q.length → qf i = nI (q.getD i 0)) →
        X y_Numbers_find 67 [some (.ref 10), some (.int g), some (.ref (12 + e)), some (.int (nI q.length)), some (.int (nI x)), o5] [] (hp F (hB C e row qf) J G) Q := by
      intro q row qf o5 g1 g2 g3 g4
      iterate 2 (refine X_s rfl rfl ?_)
      have h := ih (x + 1) (by omega) q row qf o5 g1 g2 g3 g4
      rw [← nI_1'] at h
      exact h
    have skip : (¬ ∃ c, c < F.1 * F.2.1 ∧ C 6 x = nI c ∧ (g = -1 ∨ g = nI x)) → ∀ c, c ∈ q ↔ ∃ x', x' < x + 1 ∧ c < F.1 * F.2.1 ∧ C 6 x' = nI c ∧ (g = -1 ∨ g = nI x') := by
      intro hno c
      rw [h2 c]
      constructor
      · rintro ⟨x', hx', r⟩; exact ⟨x', by omega, r⟩
      · rintro ⟨x', hx', r1, r2, r3⟩
        by_cases e9 : x' = x
        · subst e9; exact absurd ⟨c, r1, r2, r3⟩ hno
        · exact ⟨x', by omega, r1, r2, r3⟩
    iterate 4 (refine X_s rfl rfl ?_)
    rw [hB_o (k := 1) (by omega) (by omega), hX]
    refine X_bf rfl rfl rfl (nI_ge (show x < n8 by omega) (by omega)) ?_
    iterate 4 (refine X_s rfl rfl ?_)
    refine X_ln rfl rfl rfl rfl rfl (show x < 8 by omega) (show 8 < 2 ^ 31 by omega) ?_
    rw [hB_o (k := 6) (by omega) (by omega)]
    iterate 3 (refine X_s rfl rfl ?_)
    rcases hE x (by omega) with e6 | ⟨c, hc, e6, e5, e2⟩
    · rw [e6]
      refine X_bt rfl rfl rfl (show (-1 : Int32) = -1 from rfl) ?_
      exact again q row qf _ h1 (skip (fun ⟨c, hc, ec, _⟩ => by rw [e6] at ec; exact nI_nm1 (a := c) (by omega) ec.symm)) h3 h4
    · rw [e6]
      refine X_bf rfl rfl rfl (nI_nm1 (by omega)) ?_
      -- the goal is added
      have hnq : c ∉ q := by
        intro hm
        obtain ⟨x', hx', -, ec, -⟩ := (h2 c).mp hm
        rcases hE x' (by omega) with q6 | ⟨c', hc', q6, q5, -⟩
        · rw [q6] at ec; exact nI_nm1 (a := c) (by omega) ec.symm
        · rw [q6] at ec
          have : c' = c := (nI_eq (by omega) (by omega)).mp ec
          subst this
          rw [q5] at e5
          have : x' = x := (nI_eq (by omega) (by omega)).mp e5
          omega
      have hlenq : q.length < F.1 * F.2.1 := by
        have := pig (F.1 * F.2.1) (q ++ [c]) (by rw [List.nodup_append]; exact ⟨h1, by simp, fun a ha b hb => by simp at hb; rw [hb]; exact fun e => hnq (e ▸ ha)⟩) (fun z hz => by
          rcases List.mem_append.mp hz with hz | hz
          · obtain ⟨x', -, hcn, -⟩ := (h2 z).mp hz
            exact hcn
          · simp at hz; rw [hz]; exact hc)
        simp at this
        omega
      have addit : (g = -1 ∨ g = nI x) → X y_Numbers_find 51 [some (.ref 10), some (.int g), some (.ref (12 + e)), some (.int (nI q.length)), some (.int (nI x)), some (.int (nI c))] [] (hp F (hB C e row qf) J G) Q := by
        intro hg
        iterate 3 (refine X_s rfl rfl ?_)
        refine X_ti rfl (hB_atr he) (by omega) rfl hc (by omega) ?_
        refine X_h (hp_stA (kd_row e he).1 (ln_0 (kd_row e he).2)) ?_
        rw [hB_sr he]
        iterate 4 (refine X_s rfl rfl ?_)
        refine X_ti rfl hB_atq (by omega) rfl hlenq (by omega) ?_
        refine X_h (hp_stA (k := 22) rfl rfl) ?_
        rw [hB_sq]
        refine X_s rfl rfl ?_
        have h := again (q ++ [c]) (upd row c 0) (upd qf q.length (nI c)) (some (.int (nI c))) (by rw [List.nodup_append]; exact ⟨h1, by simp, fun a ha b hb => by simp at hb; rw [hb]; exact fun e => hnq (e ▸ ha)⟩) (fun z => by
            constructor
            · intro hz
              rcases List.mem_append.mp hz with hz | hz
              · obtain ⟨x', hx', r⟩ := (h2 z).mp hz
                exact ⟨x', by omega, r⟩
              · simp at hz; subst hz
                exact ⟨x, by omega, hc, e6, hg⟩
            · rintro ⟨x', hx', r1, r2, r3⟩
              by_cases e9 : x' = x
              · subst e9
                rw [e6] at r2
                have : c = z := (nI_eq (by omega) (by omega)).mp r2
                subst this
                simp
              · exact List.mem_append_left _ ((h2 z).mpr ⟨x', by omega, r1, r2, r3⟩)) (fun z hz => by
            show (if z = c then 0 else row z) = _
            by_cases e9 : z = c
            · subst e9; rw [if_pos rfl, if_pos (by simp)]
            · rw [if_neg e9, h3 z hz]
              by_cases hm : z ∈ q
              · rw [if_pos hm, if_pos (List.mem_append_left _ hm)]
              · rw [if_neg hm, if_neg (by simp [hm, e9])]) (fun i hi => by
            simp only [List.length_append, List.length_singleton] at hi
            rcases Nat.lt_or_ge i q.length with hl2 | hl2
            · rw [getD_app hl2]
              show (if i = q.length then _ else qf i) = _
              rw [if_neg (by omega)]; exact h4 i hl2
            · have : i = q.length := by omega
              subst this
              rw [getD_last]
              exact if_pos rfl)
        rw [List.length_append, List.length_singleton, ← nI_1'] at h
        exact h
      iterate 2 (refine X_s rfl rfl ?_)
      refine X_b rfl rfl rfl (fun q1 => addit (Or.inl q1)) (fun q1 => ?_)
      iterate 2 (refine X_s rfl rfl ?_)
      refine X_b rfl rfl rfl (fun q2 => ?_) (fun q2 => addit (Or.inr (Decidable.not_not.mp q2)))
      exact again q row qf _ h1 (skip (fun ⟨c', _, _, hg⟩ => hg.elim q1 q2)) h3 h4
/-- find: the row e holds all numbers behind it -/
theorem Y_find {g : Int32} (hF : okF F) (hS : okS F C) (he : e < 9) : Y y_Numbers_find [.ref 10, .int g, .ref (12 + e)] (hp F C J G) (fun o h' => ∃ row qf, o = .inl none ∧ h' = hp F (hB C e row qf) J G ∧ rowOk F C g row) := by
  have hn := hF.n
  obtain ⟨n8, hX8, hX, hE, hI⟩ := hS.2.2
  unfold Y
  iterate 2 (refine X_s rfl rfl ?_)
  refine X_cd rfl rfl rfl rfl (Y_fillC (kd_row e he).1 (ln_0 (kd_row e he).2) (show F.1 * F.2.1 < 2 ^ 31 by omega)) ?_
  rw [hB_start he]
  iterate 4 (refine X_s rfl rfl ?_)
  refine Y_find_loop1 (n8 := n8) hF hS he hX8 hX hE (fun q row qf o5 B hq => ?_) n8 0 (by omega) [] _ _ _ (by simp) (fun c => by simp) (fun c hc => by simp [flt, hc]) (fun i hi => by simp at hi)
  refine Y_find_loop2 hF hS he (fun c hc hg => ?_) (fun row qf hrow => ⟨row, qf, rfl, rfl, hrow⟩) (F.1 * F.2.1) 0 (by omega) q row qf _ o5 B hq
  obtain ⟨x, hx, hx8, ec, -⟩ := hg
  rw [hX] at hx
  have hxX : x < n8 := (nI_ltI (by omega) (by omega)).mp hx
  rcases hE x hxX with q6 | ⟨c', hc', q6, q5, q2⟩
  · rw [q6] at ec; exact absurd ec.symm (nI_nm1 (by omega))
  · rw [q6] at ec
    have : c' = c := (nI_eq (by omega) (by omega)).mp ec
    subst this
    unfold opC
    rw [q2]; decide
end
