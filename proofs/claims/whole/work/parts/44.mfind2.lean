/-! the reference's find and learn -/
section
variable {F : Fx} {C : Ct} {J : Nat → Int64} {G : Ex} {wh : Nat}
theorem Y_mfind_out {Q : mE → mH → Prop} (hF : okF F) (hw8 : wh ≤ 8) (hwal : ∀ c, c < 576 → C 170 c = 0 ∨ C 170 c = 1) (hgo : ∀ c, c < 576 → glM C wh c → opM F C c)
    (kk : ∀ (row ring : Nat → Int32), rowOkM F C wh row → Q (.inl none) (hp F (hM C wh row ring) J G)) :
    ∀ (d nx : Nat), nx + d = 576 → ∀ (q : List Nat) (row ring : Nat → Int32) (dn : Nat → Nat) (o4 o5 : Option Value), Bf 576 (nbM F C) (glM C wh) (opM F C) q nx 0 row dn → (∀ i, i < q.length → ring i = nI (q.getD i 0)) →
      X y_Model_find 64 [some (.ref 169), some (.int (nI wh)), some (.int (nI q.length)), some (.int (nI nx)), o4, o5] [] (hp F (hM C wh row ring) J G) Q := by
  have done : ∀ (q : List Nat) (nx : Nat) (row ring : Nat → Int32) (dn : Nat → Nat) (o4 o5 : Option Value), Bf 576 (nbM F C) (glM C wh) (opM F C) q nx 0 row dn → nx = q.length → X y_Model_find 64 [some (.ref 169), some (.int (nI wh)), some (.int (nI q.length)), some (.int (nI nx)), o4, o5] [] (hp F (hM C wh row ring) J G) Q := by
    intro q nx row ring dn o4 o5 B hnx
    subst hnx
    iterate 2 (refine X_s rfl rfl ?_)
    refine X_bt rfl rfl rfl (Int32.le_refl _) ?_
    exact X_r rfl rfl rfl rfl (kk row ring (fun c hc => B.fin (fun c w d _ _ hd => nbM_in hF hd) (fun c w d ho _ hw hd => nbM_sym hF ho hw hd) c hc))
  intro d
  induction d with
  | zero =>
    intro nx hd q row ring dn o4 o5 B hq
    have hlen := B.len
    have hle : nx ≤ q.length := B.2.2.2.2.2.2.2.2.2
    exact done q nx row ring dn o4 o5 B (by omega)
  | succ d ih =>
    intro nx hd q row ring dn o4 o5 B hq
    have hlen := B.len
    have hle : nx ≤ q.length := B.2.2.2.2.2.2.2.2.2
    rcases Nat.lt_or_ge nx q.length with hx | hx
    · iterate 2 (refine X_s rfl rfl ?_)
      refine X_bf rfl rfl rfl (nI_ge hx (by omega)) ?_
      iterate 2 (refine X_s rfl rfl ?_)
      have hcn : q.getD nx 0 < 576 := B.2.1 _ (getD_mem hx)
      have hco : opM F C (q.getD nx 0) := by
        have hr := (B.2.2.2.1 _ (getD_mem hx)).2
        cases hdn : dn (q.getD nx 0) with
        | zero => rw [hdn] at hr; exact hgo _ hr.1 hr.2
        | succ k => rw [hdn] at hr; exact rch_op hgo k _ hr
      refine Y_mfind_in hF hw8 hwal hcn hco q hx rfl (fun q2 row2 ring2 dn2 o52 B2 hq2 hl2 => ?_) 4 0 (by omega) q row ring dn o5 B hq (Nat.le_refl _) (fun _ _ => rfl)
      iterate 2 (refine X_s rfl rfl ?_)
      have h := ih (nx + 1) (by omega) q2 row2 ring2 dn2 (some (.int (nI 4))) o52 (B2.next (by omega)) hq2
      rw [← nI_1'] at h
      exact h
    · exact done q nx row ring dn o4 o5 B (by omega)
theorem Y_mfind_goals {Q : mE → mH → Prop} (hw8 : wh ≤ 8)
    (kk : ∀ (q : List Nat) (row ring : Nat → Int32) (o4 o5 : Option Value), Bf 576 (nbM F C) (glM C wh) (opM F C) q 0 0 row (fun _ => 0) → (∀ i, i < q.length → ring i = nI (q.getD i 0)) → X y_Model_find 64 [some (.ref 169), some (.int (nI wh)), some (.int (nI q.length)), some (.int (nI 0)), o4, o5] [] (hp F (hM C wh row ring) J G) Q) :
    ∀ (d c : Nat), c + d = 576 → ∀ (q : List Nat) (row ring : Nat → Int32) (o4 o5 : Option Value), q.Nodup → (∀ z, z ∈ q ↔ z < c ∧ glM C wh z) → (∀ z, z < c → row z = if z ∈ q then 0 else -1) → (∀ i, i < q.length → ring i = nI (q.getD i 0)) →
      X y_Model_find 4 [some (.ref 169), some (.int (nI wh)), some (.int (nI q.length)), some (.int (nI c)), o4, o5] [] (hp F (hM C wh row ring) J G) Q := by
  intro d
  induction d with
  | zero =>
    intro c hc q row ring o4 o5 h1 h2 h3 h4
    have : c = 576 := by omega
    subst this
    iterate 2 (refine X_s rfl rfl ?_)
    refine X_bt rfl rfl rfl (Int32.le_refl _) ?_
    iterate 2 (refine X_s rfl rfl ?_)
    exact kk q row ring o4 o5 (Bf_init h1 (fun z hz => ((h2 z).mp hz).1) (fun z hz hq => by rw [h3 z hz, if_neg hq]) (fun z hz => by rw [h3 z ((h2 z).mp hz).1, if_pos hz]) (fun z hz => ⟨fun hg => (h2 z).mpr ⟨hz, hg⟩, fun hm => ((h2 z).mp hm).2⟩)) h4
  | succ d ih =>
    intro c hc q row ring o4 o5 h1 h2 h3 h4
    have hlen : q.length ≤ c := pig c q h1 (fun z hz => ((h2 z).mp hz).1)
    have again : ∀ (q : List Nat) (row ring : Nat → Int32) (o4 o5 : Option Value), q.Nodup → (∀ z, z ∈ q ↔ z < c + 1 ∧ glM C wh z) → (∀ z, z < c + 1 → row z = if z ∈ q then 0 else -1) → (∀ i, i < q.length → ring i = nI (q.getD i 0)) →
        X y_Model_find 56 [some (.ref 169), some (.int (nI wh)), some (.int (nI q.length)), some (.int (nI c)), o4, o5] [] (hp F (hM C wh row ring) J G) Q := by
      intro q row ring o4 o5 g1 g2 g3 g4
      iterate 2 (refine X_s rfl rfl ?_)
      have h := ih (c + 1) (by omega) q row ring o4 o5 g1 g2 g3 g4
      rw [← nI_1'] at h
      exact h
    iterate 2 (refine X_s rfl rfl ?_)
    refine X_bf rfl rfl rfl (nI_ge (b := 576) (show c < 576 by omega) (by decide)) ?_
    iterate 3 (refine X_s rfl rfl ?_)
    refine X_c (Q' := fun o h' => h' = hp F (hM C wh row ring) J G ∧ ((glM C wh c ∧ o = .inl (some (.int 1))) ∨ (¬ glM C wh c ∧ o = .inl (some (.int 0))))) rfl rfl rfl rfl (Y_isGoal (show c < 576 by omega) hw8 (fun hg => ⟨rfl, Or.inl ⟨glM_o.mp hg, rfl⟩⟩) (fun hg => ⟨rfl, Or.inr ⟨fun h => hg (glM_o.mpr h), rfl⟩⟩)) ?_ ?_
    · rintro v h' ⟨rfl, ⟨hg, ev⟩ | ⟨hg, ev⟩⟩
      · cases ev
        have hnq : c ∉ q := fun hm => absurd ((h2 c).mp hm).1 (by omega)
        iterate 9 (refine X_s rfl rfl ?_)
        refine X_bf rfl rfl rfl (show ¬ (1 : Int32) = 0 by decide) ?_
        iterate 2 (refine X_s rfl rfl ?_)
        refine X_ti rfl hM_atn (by omega) (e576 wh c) (show 576 * wh + c < 5184 by omega) (by omega) ?_
        refine X_h (hp_stA (k := 179) rfl rfl) ?_
        rw [hM_sn (show c < 576 by omega)]
        refine X_s rfl rfl ?_
        refine X_bf rfl rfl rfl (show ¬ (1 : Int32) = 0 by decide) ?_
        iterate 4 (refine X_s rfl rfl ?_)
        refine X_ti rfl hM_atr (by omega) rfl (show q.length < 576 by omega) (by omega) ?_
        refine X_h (hp_stA (k := 180) rfl rfl) ?_
        rw [hM_sr]
        refine X_s rfl rfl ?_
        have h := again (q ++ [c]) (upd row c 0) (upd ring q.length (nI c)) (some (.int 1)) o5 (by rw [List.nodup_append]; exact ⟨h1, by simp, fun a ha b hb => by simp at hb; rw [hb]; exact fun e => hnq (e ▸ ha)⟩) (fun z => by
            constructor
            · intro hz
              rcases List.mem_append.mp hz with hz | hz
              · exact ⟨by have := ((h2 z).mp hz).1; omega, ((h2 z).mp hz).2⟩
              · simp at hz; subst hz; exact ⟨by omega, hg⟩
            · rintro ⟨hz, hg2⟩
              by_cases e9 : z = c
              · subst e9; simp
              · exact List.mem_append_left _ ((h2 z).mpr ⟨by omega, hg2⟩)) (fun z hz => by
            show (if z = c then 0 else row z) = _
            by_cases e9 : z = c
            · subst e9; rw [if_pos rfl, if_pos (by simp)]
            · rw [if_neg e9, h3 z (by omega)]
              by_cases hm : z ∈ q
              · rw [if_pos hm, if_pos (List.mem_append_left _ hm)]
              · rw [if_neg hm, if_neg (by simp [hm, e9])]) (fun i hi => by
            simp only [List.length_append, List.length_singleton] at hi
            rcases Nat.lt_or_ge i q.length with hl2 | hl2
            · rw [getD_app hl2]
              show (if i = q.length then _ else ring i) = _
              rw [if_neg (by omega)]; exact h4 i hl2
            · have : i = q.length := by omega
              subst this
              rw [getD_last]
              exact if_pos rfl)
        rw [List.length_append, List.length_singleton, ← nI_1'] at h
        exact h
      · cases ev
        have hnq : c ∉ q := fun hm => absurd ((h2 c).mp hm).1 (by omega)
        iterate 9 (refine X_s rfl rfl ?_)
        refine X_bt rfl rfl rfl (show (0 : Int32) = 0 from rfl) ?_
        refine X_s rfl rfl ?_
        refine X_ti rfl hM_atn (by omega) (e576 wh c) (show 576 * wh + c < 5184 by omega) (by omega) ?_
        refine X_h (hp_stA (k := 179) rfl rfl) ?_
        rw [hM_sn (show c < 576 by omega)]
        refine X_s rfl rfl ?_
        refine X_bt rfl rfl rfl (show (0 : Int32) = 0 from rfl) ?_
        exact again q (upd row c (-1)) ring (some (.int 0)) o5 h1 (fun z => by
            rw [h2 z]
            constructor
            · rintro ⟨a, b⟩; exact ⟨by omega, b⟩
            · rintro ⟨a, b⟩
              by_cases e9 : z = c
              · subst e9; exact absurd b hg
              · exact ⟨by omega, b⟩) (fun z hz => by
            show (if z = c then -1 else row z) = _
            by_cases e9 : z = c
            · subst e9; rw [if_pos rfl, if_neg hnq]
            · rw [if_neg e9, h3 z (by omega)]) h4
    · rintro x h' ⟨-, ⟨-, ev⟩ | ⟨-, ev⟩⟩ <;> cases ev
theorem Y_mfind (hF : okF F) (hw8 : wh ≤ 8) (hwal : ∀ c, c < 576 → C 170 c = 0 ∨ C 170 c = 1) (hgo : ∀ c, c < 576 → glM C wh c → opM F C c) :
    Y y_Model_find [.ref 169, .int (nI wh)] (hp F C J G) (fun o h' => ∃ row ring, o = .inl none ∧ h' = hp F (hM C wh row ring) J G ∧ rowOkM F C wh row) := by
  unfold Y
  iterate 4 (refine X_s rfl rfl ?_)
  have h := Y_mfind_goals (F := F) (C := C) (J := J) (G := G) (wh := wh) (Q := fun o h' => ∃ row ring, o = .inl none ∧ h' = hp F (hM C wh row ring) J G ∧ rowOkM F C wh row) hw8 (fun q row ring o4 o5 B hq => Y_mfind_out hF hw8 hwal hgo (fun row ring hr => ⟨row, ring, rfl, rfl, hr⟩) 576 0 (by omega) q row ring _ o4 o5 B hq) 576 0 (by omega) [] (fun c => C 179 (576 * wh + c)) (C 180) none none (by simp) (fun z => by simp) (fun z hz => by omega) (fun i hi => by simp at hi)
  rw [hM_start] at h
  exact h
end
