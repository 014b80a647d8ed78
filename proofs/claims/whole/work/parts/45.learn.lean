/-! the reference's learn -/
/-- a cell's number in the reference's table -/
def nuM (C : Ct) (wh c : Nat) : Int32 := C 179 (576 * wh + c)
/-- where 'known' says so, all numbers are there -/
def okL (F : Fx) (C : Ct) : Prop := C 169 14 = 0 ∨ (C 169 14 = 1 ∧ ∀ wh, wh ≤ 8 → rowOkM F C wh (nuM C wh))
/-- only the numbers, the ring and 'known' differ -/
def sameL (C C' : Ct) : Prop := (∀ k, k ≠ 179 → k ≠ 180 → k ≠ 169 → C' k = C k) ∧ ∀ j, j ≠ 14 → C' 169 j = C 169 j
theorem sameL_rf (C : Ct) : sameL C C := ⟨fun _ _ _ _ => rfl, fun _ _ => rfl⟩
theorem sameL_tr {A B C : Ct} (h1 : sameL A B) (h2 : sameL B C) : sameL A C := ⟨fun k a b c => (h2.1 k a b c).trans (h1.1 k a b c), fun j a => (h2.2 j a).trans (h1.2 j a)⟩
section
variable {F : Fx} {C : Ct} {J : Nat → Int64} {G : Ex}
theorem sameL_hM {wh : Nat} {row ring : Nat → Int32} : sameL C (hM C wh row ring) := ⟨fun k a b _ => hM_o a b, fun j _ => by rw [hM_o (by omega) (by omega)]⟩
theorem nbM_same {C C' : Ct} (h : C' 170 = C 170) : nbM F C' = nbM F C := by
  funext c w; unfold nbM; rw [h]
theorem rowOkM_same {C C' : Ct} (h : sameL C C') {wh : Nat} {row : Nat → Int32} (hr : rowOkM F C wh row) : rowOkM F C' wh row := by
  have e1 : nbM F C' = nbM F C := nbM_same (h.1 170 (by omega) (by omega) (by omega))
  have e2 : glM C' wh = glM C wh := by funext c; unfold glM; rw [h.1 171 (by omega) (by omega) (by omega)]
  have e3 : opM F C' = opM F C := by funext c; unfold opM; rw [h.1 170 (by omega) (by omega) (by omega)]
  unfold rowOkM
  rw [e1, e2, e3]
  exact hr
theorem nuM_same {wh w' : Nat} {row ring : Nat → Int32} : nuM (hM C wh row ring) w' = if w' = wh then (fun c => if c < 576 then row c else nuM (hM C wh row ring) w' c) else (fun c => if c < 576 then nuM C w' c else nuM (hM C wh row ring) w' c) := by
  funext c
  by_cases e : w' = wh
  · subst e
    rw [if_pos rfl]
    by_cases hc : c < 576
    · simp only [hc, if_true]
      unfold nuM
      rw [hM_n, spl_at hc]
    · simp only [hc, if_false]
  · rw [if_neg e]
    by_cases hc : c < 576
    · simp only [hc, if_true]
      unfold nuM
      rw [hM_n]
      unfold spl
      rw [if_neg (by omega)]
    · simp only [hc, if_false]
theorem rowOkM_ext {wh : Nat} {r r' : Nat → Int32} (h : ∀ c, c < 576 → r' c = r c) (hr : rowOkM F C wh r) : rowOkM F C wh r' := fun c hc => by rw [h c hc]; exact hr c hc
/-- what the reference's storey must hold -/
def okMS (F : Fx) (C : Ct) : Prop := (∀ c, c < 576 → C 170 c = 0 ∨ C 170 c = 1) ∧ ∀ c, c < 576 → ¬ C 171 c = -1 → (∃ x, x < 8 ∧ C 171 c = nI x) ∧ opM F C c
theorem okMS.goal (h : okMS F C) {wh : Nat} (hw : wh ≤ 8) : ∀ c, c < 576 → glM C wh c → opM F C c := by
  intro c hc hg
  refine (h.2 c hc (fun e => ?_)).2
  unfold glM at hg
  split at hg
  · rw [e] at hg; exact absurd hg (by decide)
  · rw [e] at hg; exact nI_nm1 (a := wh) (by omega) hg.symm
theorem okMS_same {C C' : Ct} (h : sameL C C') (hm : okMS F C) : okMS F C' := by
  unfold okMS opM
  rw [h.1 170 (by omega) (by omega) (by omega), h.1 171 (by omega) (by omega) (by omega)]
  exact hm
theorem Y_learn_loop {Q : mE → mH → Prop} (hF : okF F) (hk0 : C 169 14 = 0)
    (kk : ∀ C', sameL C C' → (∀ wh, wh ≤ 8 → rowOkM F C' wh (nuM C' wh)) → C' 169 14 = 0 → X y_Model_learn 26 [some (.ref 169), some (.int (nI 9))] [] (hp F C' J G) Q) :
    ∀ (d wh : Nat), wh + d = 9 → ∀ C1, sameL C C1 → okMS F C1 → C1 169 14 = 0 → (∀ w', w' < wh → rowOkM F C1 w' (nuM C1 w')) → X y_Model_learn 2 [some (.ref 169), some (.int (nI wh))] [] (hp F C1 J G) Q := by
  intro d
  induction d with
  | zero =>
    intro wh hd C1 hs hm h0 hr
    have : wh = 9 := by omega
    subst this
    iterate 2 (refine X_s rfl rfl ?_)
    refine X_bt rfl rfl rfl (show (8 : Int32) < nI 9 by decide) ?_
    exact kk C1 hs (fun w hw => hr w (by omega)) h0
  | succ d ih =>
    intro wh hd C1 hs hm h0 hr
    iterate 2 (refine X_s rfl rfl ?_)
    refine X_bf rfl rfl rfl (show ¬ (8 : Int32) < nI wh from nI_nlt (b := 8) (a := 8) (by omega) (by omega) |> fun _ => Int32.not_lt.mpr (nI_le (b := 8) (show wh ≤ 8 by omega) (by omega))) ?_
    iterate 2 (refine X_s rfl rfl ?_)
    rw [h0]
    refine X_bf rfl rfl rfl (fun h => h rfl) ?_
    iterate 2 (refine X_s rfl rfl ?_)
    refine X_c rfl rfl rfl rfl (Y_mfind (F := F) (C := C1) (wh := wh) hF (by omega) hm.1 (hm.goal (by omega))) ?_ ?_
    · rintro v h' ⟨row, ring, ev, rfl, hrow⟩
      cases ev
      iterate 2 (refine X_s rfl rfl ?_)
      have hs2 : sameL C1 (hM C1 wh row ring) := sameL_hM
      have h := ih (wh + 1) (by omega) (hM C1 wh row ring) (sameL_tr hs hs2) (okMS_same hs2 hm) (by rw [hM_o (by omega) (by omega)]; exact h0) (fun w' hw' => by
        by_cases e : w' = wh
        · subst e
          refine rowOkM_ext (r := row) (fun c hc => ?_) (rowOkM_same hs2 hrow)
          unfold nuM; rw [hM_n, spl_at hc]
        · refine rowOkM_ext (r := nuM C1 w') (fun c hc => ?_) (rowOkM_same hs2 (hr w' (by omega)))
          unfold nuM; rw [hM_n]; unfold spl; rw [if_neg (by omega)])
      rw [← nI_1'] at h
      exact h
    · rintro x h' ⟨row, ring, ev, -⟩
      cases ev
theorem Y_learn (hF : okF F) (hm : okMS F C) (hL : okL F C) : Y y_Model_learn [.ref 169] (hp F C J G) (fun o h' => ∃ C', o = .inl none ∧ h' = hp F C' J G ∧ sameL C C' ∧ C' 169 14 = 1 ∧ ∀ wh, wh ≤ 8 → rowOkM F C' wh (nuM C' wh)) := by
  unfold Y
  have fin : ∀ C' (i : Nat), sameL C C' → (∀ wh, wh ≤ 8 → rowOkM F C' wh (nuM C' wh)) → X y_Model_learn 26 [some (.ref 169), some (.int (nI i))] [] (hp F C' J G) (fun o h' => ∃ C', o = .inl none ∧ h' = hp F C' J G ∧ sameL C C' ∧ C' 169 14 = 1 ∧ ∀ wh, wh ≤ 8 → rowOkM F C' wh (nuM C' wh)) := by
    intro C' i hs hr
    iterate 3 (refine X_s rfl rfl ?_)
    refine X_h (hp_f169_14 rfl) ?_
    have hs2 : sameL C' (st C' 169 14 1) := ⟨fun k _ _ k3 => st_f k3, fun j hj => st_i hj⟩
    refine X_r rfl rfl rfl rfl ⟨_, rfl, rfl, sameL_tr hs hs2, st_s, fun wh hw => ?_⟩
    refine rowOkM_ext (r := nuM C' wh) (fun c hc => ?_) (rowOkM_same hs2 (hr wh hw))
    unfold nuM
    exact st_k (by omega)
  iterate 2 (refine X_s rfl rfl ?_)
  rcases hL with h0 | ⟨h1, hr⟩
  · exact Y_learn_loop hF h0 (fun C' hs hr _ => fin C' 9 hs hr) 9 0 (by omega) C (sameL_rf C) hm h0 (fun w' hw' => by omega)
  · iterate 2 (refine X_s rfl rfl ?_)
    refine X_bf rfl rfl rfl (show ¬ (8 : Int32) < 0 by decide) ?_
    iterate 2 (refine X_s rfl rfl ?_)
    rw [h1]
    refine X_bt rfl rfl rfl (show ¬ (1 : Int32) = 0 by decide) ?_
    exact fin C 0 (sameL_rf C) hr
end
