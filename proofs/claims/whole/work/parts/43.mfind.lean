/-! the reference's walking numbers -/
def spl (f : Nat → Int32) (wh : Nat) (row : Nat → Int32) : Nat → Int32 := fun j => if 576 * wh ≤ j ∧ j < 576 * wh + 576 then row (j - 576 * wh) else f j
theorem spl_at {f row : Nat → Int32} {wh o : Nat} (h : o < 576) : spl f wh row (576 * wh + o) = row o := by
  unfold spl; rw [if_pos (by omega)]; congr 1; omega
theorem spl_upd {f row : Nat → Int32} {wh o : Nat} {v : Int32} (h : o < 576) : upd (spl f wh row) (576 * wh + o) v = spl f wh (upd row o v) := by
  funext j
  unfold upd spl
  by_cases e : j = 576 * wh + o
  · subst e; rw [if_pos rfl, if_pos (by omega)]; exact (if_pos (by omega)).symm
  · rw [if_neg e]
    by_cases q : 576 * wh ≤ j ∧ j < 576 * wh + 576
    · rw [if_pos q, if_pos q]; exact (if_neg (by omega)).symm
    · rw [if_neg q, if_neg q]
def hM (C : Ct) (wh : Nat) (row ring : Nat → Int32) : Ct := stA (stA C 179 (spl (C 179) wh row)) 180 ring
def rowOkM (F : Fx) (C : Ct) (wh : Nat) (row : Nat → Int32) : Prop := ∀ c, c < 576 → (row c = -1 ∧ ∀ k, ¬ Rch 576 (nbM F C) (glM C wh) (opM F C) k c) ∨ ∃ d, d < 576 ∧ row c = nI d ∧ Num 576 (nbM F C) (glM C wh) (opM F C) c d
section
variable {F : Fx} {C : Ct} {J : Nat → Int64} {G : Ex} {wh : Nat} {row ring : Nat → Int32}
theorem hM_n : hM C wh row ring 179 = spl (C 179) wh row := by unfold hM; rw [stA_f (by omega), stA_k]
theorem hM_r : hM C wh row ring 180 = ring := stA_k
theorem hM_o {k : Nat} (h1 : k ≠ 179) (h2 : k ≠ 180) : hM C wh row ring k = C k := by unfold hM; rw [stA_f h2, stA_f h1]
theorem hM_atn : (hp F (hM C wh row ring) J G).1 179 = mI 5184 (spl (C 179) wh row) := by rw [hp_at (k := 179) (n := 5184) rfl rfl, hM_n]
theorem hM_atr : (hp F (hM C wh row ring) J G).1 180 = mI 576 ring := by rw [hp_at (k := 180) (n := 576) rfl rfl, hM_r]
theorem hM_sn {o : Nat} {v : Int32} (ho : o < 576) : stA (hM C wh row ring) 179 (upd (spl (C 179) wh row) (576 * wh + o) v) = hM C wh (upd row o v) ring := by
  rw [spl_upd ho]
  funext k
  unfold hM stA
  by_cases h1 : k = 179
  · subst h1; rw [if_pos rfl, if_neg (by omega), if_pos rfl]
  · rw [if_neg h1]
    by_cases h2 : k = 180
    · rw [if_pos h2, if_pos h2]
    · rw [if_neg h2, if_neg h2, if_neg h1, if_neg h1]
theorem hM_sr (r' : Nat → Int32) : stA (hM C wh row ring) 180 r' = hM C wh row r' := by
  funext k
  unfold hM stA
  by_cases h2 : k = 180
  · rw [if_pos h2, if_pos h2]
  · rw [if_neg h2, if_neg h2, if_neg h2]
theorem hM_start : hM C wh (fun c => C 179 (576 * wh + c)) (C 180) = C := by
  funext k
  unfold hM stA
  by_cases h2 : k = 180
  · rw [if_pos h2, h2]
  · rw [if_neg h2]
    by_cases h1 : k = 179
    · rw [if_pos h1, h1]
      funext j
      unfold spl
      split
      · rename_i hq
        show C 179 (576 * wh + (j - 576 * wh)) = C 179 j
        rw [show 576 * wh + (j - 576 * wh) = j by omega]
      · rfl
    · rw [if_neg h1]
theorem e576 (wh c : Nat) : (Int16.ofInt 576).toInt32 * nI wh + nI c = nI (576 * wh + c) := by
  rw [show (Int16.ofInt 576).toInt32 = nI 576 from rfl, pk_mul, nI_add]
theorem glM_o {c : Nat} : glM (hM C wh row ring) wh c ↔ glM C wh c := by unfold glM; rw [hM_o (by omega) (by omega)]
/-- the inner loop: one cell's four sides -/
theorem Y_mfind_in {goal : Nat → Prop} {c nx : Nat} {Q : mE → mH → Prop} (hF : okF F) (hw8 : wh ≤ 8) (hwal : ∀ c, c < 576 → C 170 c = 0 ∨ C 170 c = 1) (hc576 : c < 576) (hco : opM F C c) (q0 : List Nat) (hx0 : nx < q0.length) (hc0 : q0.getD nx 0 = c)
    (kk : ∀ (q : List Nat) (row ring : Nat → Int32) (dn : Nat → Nat) (o5 : Option Value), Bf 576 (nbM F C) goal (opM F C) q nx 4 row dn → (∀ i, i < q.length → ring i = nI (q.getD i 0)) → q0.length ≤ q.length →
      X y_Model_find 172 [some (.ref 169), some (.int (nI wh)), some (.int (nI q.length)), some (.int (nI nx)), some (.int (nI 4)), o5] [] (hp F (hM C wh row ring) J G) Q) :
    ∀ (d w : Nat), w + d = 4 → ∀ (q : List Nat) (row ring : Nat → Int32) (dn : Nat → Nat) (o5 : Option Value), Bf 576 (nbM F C) goal (opM F C) q nx w row dn → (∀ i, i < q.length → ring i = nI (q.getD i 0)) → q0.length ≤ q.length → (∀ i, i < q0.length → q.getD i 0 = q0.getD i 0) →
      X y_Model_find 72 [some (.ref 169), some (.int (nI wh)), some (.int (nI q.length)), some (.int (nI nx)), some (.int (nI w)), o5] [] (hp F (hM C wh row ring) J G) Q := by
  intro d
  induction d with
  | zero =>
    intro w hw q row ring dn o5 B hq hl hpre
    have : w = 4 := by omega
    subst this
    iterate 2 (refine X_s rfl rfl ?_)
    refine X_bt rfl rfl rfl (Int32.le_refl _) ?_
    exact kk q row ring dn o5 B hq hl
  | succ d ih =>
    intro w hw q row ring dn o5 B hq hl hpre
    have hxq : nx < q.length := by omega
    have hcq : q.getD nx 0 = c := by rw [hpre nx hx0, hc0]
    have hlen := B.len
    have again : ∀ (q : List Nat) (row ring : Nat → Int32) (dn : Nat → Nat) (o5 : Option Value), Bf 576 (nbM F C) goal (opM F C) q nx (w + 1) row dn → (∀ i, i < q.length → ring i = nI (q.getD i 0)) → q0.length ≤ q.length → (∀ i, i < q0.length → q.getD i 0 = q0.getD i 0) →
        X y_Model_find 166 [some (.ref 169), some (.int (nI wh)), some (.int (nI q.length)), some (.int (nI nx)), some (.int (nI w)), o5] [] (hp F (hM C wh row ring) J G) Q := by
      intro q row ring dn o5 B hq hl hpre
      iterate 2 (refine X_s rfl rfl ?_)
      have h := ih (w + 1) (by omega) q row ring dn o5 B hq hl hpre
      rw [← nI_1'] at h
      exact h
    iterate 2 (refine X_s rfl rfl ?_)
    refine X_bf rfl rfl rfl (nI_ge (b := 4) (show w < 4 by omega) (by decide)) ?_
    iterate 4 (refine X_s rfl rfl ?_)
    refine X_li rfl hM_atr rfl (show nx < 576 by omega) (by omega) ?_
    rw [hq nx hxq, hcq]
    refine X_s rfl rfl ?_
    refine X_cd rfl rfl rfl rfl (Y_beside (show c < 2 ^ 31 by omega) (show w < 4 by omega)) ?_
    rw [bsI_eq hF hc576 (show w < 4 by omega)]
    cases hb : bsN F c w with
    | none =>
      dsimp only
      iterate 2 (refine X_s rfl rfl ?_)
      refine X_bt rfl rfl rfl (show (-1 : Int32) < 0 by decide) ?_
      exact again q row ring dn _ (B.skip hxq (fun o ho => by rw [hcq, nbM, hb] at ho; cases ho)) hq hl hpre
    | some o =>
      dsimp only
      obtain ⟨ho1, ho⟩ := bsN_in hF hb
      iterate 2 (refine X_s rfl rfl ?_)
      refine X_bf rfl rfl rfl (nI_pos (by omega)) ?_
      iterate 3 (refine X_s rfl rfl ?_)
      refine X_lz (n := 576) (f := C 170) rfl (by show hf F _ J G 170 = _; rw [hf_lt (by omega)]; show mZ 576 (hM C wh row ring 170) = _; rw [hM_o (by omega) (by omega)]) rfl ho (by omega) ?_
      by_cases hwl : C 170 o = 0
      · rw [hwl]
        refine X_bf rfl rfl rfl (fun h => h rfl) ?_
        iterate 7 (refine X_s rfl rfl ?_)
        refine X_li rfl hM_atn (e576 wh o) (show 576 * wh + o < 5184 by omega) (by omega) ?_
        rw [spl_at ho]
        have hnb : nbM F C c w = some o := by unfold nbM; rw [hb]; exact if_pos hwl
        by_cases hm : o ∈ q
        · have hro : row o = nI (dn o) := (B.2.2.2.1 o hm).1
          have hdo : dn o < 576 := by
            obtain ⟨i, hi, ei⟩ := mem_getD hm
            have := B.2.2.2.2.1 i hi
            rw [ei] at this
            omega
          refine X_bt rfl rfl rfl (show (0 : Int32) ≤ row o by rw [hro]; exact nI_pos' (by omega)) ?_
          exact again q row ring dn _ (B.skip hxq (fun o' ho' => by rw [hcq, hnb] at ho'; cases ho'; exact hm)) hq hl hpre
        · have hro : row o = -1 := B.2.2.1 o ho hm
          have hroom := B.room hm ho
          refine X_bf rfl rfl rfl (show ¬ (0 : Int32) ≤ row o by rw [hro]; decide) ?_
          iterate 15 (refine X_s rfl rfl ?_)
          refine X_li rfl hM_atr rfl (show nx < 576 by omega) (by omega) ?_
          rw [hq nx hxq, hcq]
          refine X_s rfl rfl ?_
          refine X_li rfl hM_atn (e576 wh c) (show 576 * wh + c < 5184 by omega) (by omega) ?_
          rw [spl_at hc576]
          iterate 2 (refine X_s rfl rfl ?_)
          have hrc : row c = nI (dn c) := (B.2.2.2.1 c (by rw [← hcq]; exact getD_mem hxq)).1
          rw [hrc, nI_1']
          refine X_ti rfl hM_atn (by omega) (e576 wh o) (show 576 * wh + o < 5184 by omega) (by omega) ?_
          refine X_h (hp_stA (k := 179) rfl rfl) ?_
          rw [hM_sn ho]
          iterate 4 (refine X_s rfl rfl ?_)
          refine X_ti rfl hM_atr (by omega) rfl hroom (by omega) ?_
          refine X_h (hp_stA (k := 180) rfl rfl) ?_
          rw [hM_sr]
          refine X_s rfl rfl ?_
          have B2 := B.add hxq (show w < 4 by omega) (by rw [hcq]; exact hnb) hm ho ⟨ho1, hwl⟩ (by rw [hcq]; exact nbM_sym hF hco (by omega) hnb)
          rw [hcq] at B2
          have h := again (q ++ [o]) (upd row o (nI (dn c + 1))) (upd ring q.length (nI o)) _ (some (.int (nI o))) B2 (fun i hi => by
            simp only [List.length_append, List.length_singleton] at hi
            rcases Nat.lt_or_ge i q.length with hl2 | hl2
            · rw [getD_app hl2]
              show (if i = q.length then _ else ring i) = _
              rw [if_neg (by omega)]; exact hq i hl2
            · have : i = q.length := by omega
              subst this
              rw [getD_last]
              exact if_pos rfl) (by simp; omega) (fun i hi => by rw [getD_app (by omega)]; exact hpre i hi)
          rw [List.length_append, List.length_singleton, ← nI_1'] at h
          exact h
      · refine X_bt rfl rfl rfl hwl ?_
        exact again q row ring dn _ (B.skip hxq (fun o' ho' => by rw [hcq, nbM, hb] at ho'; dsimp only at ho'; rw [if_neg hwl] at ho'; cases ho')) hq hl hpre
end
