/-! the law's loop -/
theorem and15 (x : Int32) : ∃ n, n < 16 ∧ x &&& 15 = nI n := by
  refine ⟨x.toBitVec.toNat &&& 15, Nat.lt_of_le_of_lt Nat.and_le_right (by omega), ?_⟩
  rw [← nI_and]
  have : nI x.toBitVec.toNat = x := by
    unfold nI
    apply Int32.toBitVec_inj.mp
    show BitVec.ofNat 32 x.toBitVec.toNat = x.toBitVec
    rw [BitVec.ofNat_toNat, BitVec.setWidth_eq]
  rw [this]
  rfl
section
variable {F : Fx} {Q : mE → mH → Prop}
theorem law_loop (hF : okF F) (kk : ∀ C J G t, okX G t → Q (.inl (some (.int 1))) (hp F C J G)) :
    ∀ d t i P C J G x5 x6, F.2.2.1 < i + 5 + 5 * d → t + d ≤ 1000 → i ≤ 3000 → IV F P C → okX G t → X y_Law_law 43 [some (.ref 1000000002), some (.ref 0), some (.ref 169), some (.ref 193), some (.int (nI i)), x5, x6] [] (hp F C J G) Q := by
  have hF3 : F.2.2.1 ≤ 2562 := hF.2.2
  have hcmp : ∀ i, i ≤ 3000 → (nI F.2.2.1 - 5 < nI i ↔ F.2.2.1 < i + 5) := by
    intro i hi
    by_cases h5 : 5 ≤ F.2.2.1
    · rw [show nI F.2.2.1 - 5 = nI (F.2.2.1 - 5) from nI_sub (b := 5) h5, nI_ltI (by omega) (by omega)]
      omega
    · refine ⟨fun _ => by omega, fun _ => ?_⟩
      have h4 : F.2.2.1 = 0 ∨ F.2.2.1 = 1 ∨ F.2.2.1 = 2 ∨ F.2.2.1 = 3 ∨ F.2.2.1 = 4 := by omega
      have : nI F.2.2.1 - 5 < 0 := by rcases h4 with e | e | e | e | e <;> rw [e] <;> decide
      exact Int32.lt_of_lt_of_le this (nI_pos' (by omega))
  intro d
  induction d with
  | zero =>
    intro t i P C J G x5 x6 h1 h2 h3 hI hG
    repeat (refine X_n rfl rfl rfl ?_)
    refine X_bt rfl rfl rfl ((hcmp i h3).mpr (by omega)) ?_
    repeat (refine X_n rfl rfl rfl ?_)
    exact X_r rfl rfl rfl rfl (kk C J G t hG)
  | succ d ih =>
    intro t i P C J G x5 x6 h1 h2 h3 hI hG
    by_cases hout : F.2.2.1 < i + 5
    · repeat (refine X_n rfl rfl rfl ?_)
      refine X_bt rfl rfl rfl ((hcmp i h3).mpr hout) ?_
      repeat (refine X_n rfl rfl rfl ?_)
      exact X_r rfl rfl rfl rfl (kk C J G t hG)
    · have hL : i + 4 < F.2.2.1 := by omega
      have ht : t < 1000 := by omega
      have K : nxtL F t i Q := by
        intro P' C' J' G' y5 y6 hI' hG'
        iterate 2 (refine X_n rfl rfl rfl ?_)
        rw [show nI i + Int32.ofInt 5 = nI (i + 5) from nI_add i 5]
        exact ih (t + 1) (i + 5) P' C' J' G' y5 y6 (by omega) (by omega) (by omega) hI' hG'
      obtain ⟨n, hn, en⟩ := and15 (F.2.2.2 i)
      repeat (refine X_n rfl rfl rfl ?_)
      refine X_bf rfl rfl rfl (fun h => hout ((hcmp i h3).mp h)) ?_
      repeat (refine X_n rfl rfl rfl ?_)
      refine X_li (k := i) rfl rfl rfl (show i < F.2.2.1 by omega) (show F.2.2.1 < 2 ^ 31 by omega) ?_
      iterate 2 (refine X_n rfl rfl rfl ?_)
      refine X_top (w := nI n) en ?_
      have hn' : n = 0 ∨ n = 1 ∨ n = 2 ∨ n = 3 ∨ n = 4 ∨ n = 5 ∨ n = 6 ∨ n = 7 ∨ n = 8 ∨ n = 9 ∨ n = 10 ∨ n = 11 ∨ n = 12 ∨ n = 13 ∨ n = 14 ∨ n = 15 := by omega
      rcases hn' with e | e | e | e | e | e | e | e | e | e | e | e | e | e | e | e <;> subst e
      · refine X_m rfl rfl rfl rfl rfl rfl ?_
        exact law_wall hF hI hG ht hL K
      · refine X_m rfl rfl rfl rfl rfl rfl ?_
        exact law_exit hF hI hG ht hL K
      · refine X_m rfl rfl rfl rfl rfl rfl ?_
        exact law_door hF hI hG ht hL K
      · refine X_m rfl rfl rfl rfl rfl rfl ?_
        exact law_smoke hF hI hG ht hL K
      · refine X_m rfl rfl rfl rfl rfl rfl ?_
        exact law_person hF hI hG ht hL K
      · refine X_m rfl rfl rfl rfl rfl rfl ?_
        exact law_habit hF hI hG ht hL K
      · refine X_m rfl rfl rfl rfl rfl rfl ?_
        exact law_ways hF hI hG ht K
      · refine X_m rfl rfl rfl rfl rfl rfl ?_
        exact law_walk hF hI hG ht hL K
      · refine X_m rfl rfl rfl rfl rfl rfl ?_
        exact law_run hF hI hG ht K
      · refine X_m rfl rfl rfl rfl rfl rfl ?_
        exact law_told hF hI hG ht hL K
      · refine X_m rfl rfl rfl rfl rfl rfl ?_
        exact law_at hF hI hG ht hL K
      · refine X_m rfl rfl rfl rfl rfl rfl ?_
        exact law_through hF hI hG ht hL K
      · refine X_m rfl rfl rfl rfl rfl rfl ?_
        exact law_left hF hI hG ht hL K
      · refine X_m rfl rfl rfl rfl rfl rfl ?_
        exact law_turns hF hI hG ht K
      · refine X_m rfl rfl rfl rfl rfl rfl ?_
        exact law_signs hF hI hG ht K
      · refine X_m rfl rfl rfl rfl rfl rfl ?_
        exact K P C J G _ _ hI (hG.s ht)
end
