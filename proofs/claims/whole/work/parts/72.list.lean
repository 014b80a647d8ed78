/-! the class's signs: the sets that a sign can show, each once -/
def vv (i : Nat) : Nat := [48, 49, 47, 72, 24, 50, 46, 96, 0, 73, 23, 71, 25].getD i 0
section
variable {F : Fx} {C D D0 : Ct} {J : Nat → Int64} {G : Ex} {Q : mE → mH → Prop} {t k e c x b : Nat} {T : List Nat}
theorem nb_d (hF : okF F) (hg : okG F C) {w : Nat} (hx : x < F.1 * F.2.1) (hw : w < 4) (h : nbC C x w = some b) : b < F.1 * F.2.1 ∧ (cm F b = cm F x + 1 ∨ cm F b + 1 = cm F x ∨ cm F b = cm F x + 24 ∨ cm F b + 24 = cm F x) := by
  have hn := hF.n
  rcases opB_cases hn (hg.B hF) hx hw with ⟨-, e2⟩ | ⟨d, hd, -, e2, -, e9⟩
  · rw [e2] at h; cases h
  · rw [e2] at h
    cases h
    refine ⟨hd, ?_⟩
    have := hg x hx w hw
    rw [e9] at this
    cases hbs : bsN F (cm F x) w with
    | none => rw [hbs] at this; exact absurd this (nI_nm1 (by omega))
    | some m =>
      rw [hbs] at this
      dsimp only at this
      obtain ⟨hms, hm5⟩ := bsN_in hF hbs
      have hmc := mc_lt hF hms
      have e : b = mc F m := (nI_eq (by omega) (by omega)).mp this
      have ecm : cm F b = m := by rw [e]; exact cm_mc hF hms
      rw [ecm]
      unfold bsN at hbs
      split at hbs
      · split at hbs
        · cases hbs; omega
        · cases hbs
      · split at hbs
        · split at hbs
          · cases hbs; omega
          · cases hbs
        · split at hbs
          · split at hbs
            · cases hbs; omega
            · cases hbs
          · split at hbs
            · cases hbs; omega
            · cases hbs
theorem near_d (hF : okF F) (hg : okG F C) (hx : x < F.1 * F.2.1) (h : near C c x) : ∃ i, i < 13 ∧ cm F c + 48 = cm F x + vv i := by
  rcases h with e | ⟨w, hw, h⟩ | ⟨w, b, hw, h, w', hw', h'⟩
  · exact ⟨0, by omega, by rw [e]; rfl⟩
  · obtain ⟨-, q | q | q | q⟩ := nb_d hF hg hx hw h
    · exact ⟨1, by omega, by show _ = _ + 49; omega⟩
    · exact ⟨2, by omega, by show _ = _ + 47; omega⟩
    · exact ⟨3, by omega, by show _ = _ + 72; omega⟩
    · exact ⟨4, by omega, by show _ = _ + 24; omega⟩
  · obtain ⟨hb, q⟩ := nb_d hF hg hx hw h
    obtain ⟨-, q'⟩ := nb_d hF hg hb hw' h'
    have key : cm F c + 48 = cm F x + 48 ∨ cm F c + 48 = cm F x + 50 ∨ cm F c + 48 = cm F x + 46 ∨ cm F c + 48 = cm F x + 96 ∨ cm F c + 48 = cm F x + 0 ∨ cm F c + 48 = cm F x + 73 ∨ cm F c + 48 = cm F x + 23 ∨ cm F c + 48 = cm F x + 71 ∨ cm F c + 48 = cm F x + 25 := by
      rcases q with q | q | q | q <;> rcases q' with q' | q' | q' | q' <;> omega
    rcases key with g | g | g | g | g | g | g | g | g
    · exact ⟨0, by omega, g⟩
    · exact ⟨5, by omega, g⟩
    · exact ⟨6, by omega, g⟩
    · exact ⟨7, by omega, g⟩
    · exact ⟨8, by omega, g⟩
    · exact ⟨9, by omega, g⟩
    · exact ⟨10, by omega, g⟩
    · exact ⟨11, by omega, g⟩
    · exact ⟨12, by omega, g⟩
theorem shw_bit {i : Nat} : (shw C T c i).testBit t = true ↔ t < i ∧ near C c (T.getD t 0) := msk_bit
theorem shw_ne (h : ¬ shw C T c k = 0) : ∃ t, t < k ∧ near C c (T.getD t 0) := by
  refine Classical.byContradiction fun q => h ?_
  refine Nat.eq_of_testBit_eq fun i => ?_
  rw [Nat.zero_testBit]
  cases e : (shw C T c k).testBit i with
  | false => rfl
  | true => exact absurd ⟨i, shw_bit.mp e⟩ q
theorem shw_lt (hk : T.length ≤ 12) : shw C T c T.length < 2 ^ T.length ∧ 2 ^ T.length ≤ 4096 := ⟨msk_lt, Nat.pow_le_pow_right (n := 2) (by omega) hk⟩
/-- no more cells than 13 a turn -/
theorem few (hF : okF F) (hg : okG F C) (hT : ∀ x, x ∈ T → x < F.1 * F.2.1) (l : List Nat) (hd : l.Nodup) (h : ∀ c, c ∈ l → c < F.1 * F.2.1 ∧ ¬ shw C T c T.length = 0) : l.length ≤ 13 * T.length := by
  have hex : ∀ c, c ∈ l → ∃ m, m < 13 * T.length ∧ cm F c + 48 = cm F (T.getD (m / 13) 0) + vv (m % 13) := by
    intro c hc
    obtain ⟨t, ht, hn⟩ := shw_ne (h c hc).2
    obtain ⟨i, hi, e⟩ := near_d hF hg (hT _ (getD_mem ht)) hn
    refine ⟨13 * t + i, by omega, ?_⟩
    rw [show (13 * t + i) / 13 = t by omega, show (13 * t + i) % 13 = i by omega]
    exact e
  have hsp : ∀ c, c ∈ l → (Classical.epsilon (fun m => m < 13 * T.length ∧ cm F c + 48 = cm F (T.getD (m / 13) 0) + vv (m % 13)) < 13 * T.length ∧ cm F c + 48 = cm F (T.getD (Classical.epsilon (fun m => m < 13 * T.length ∧ cm F c + 48 = cm F (T.getD (m / 13) 0) + vv (m % 13)) / 13) 0) + vv (Classical.epsilon (fun m => m < 13 * T.length ∧ cm F c + 48 = cm F (T.getD (m / 13) 0) + vv (m % 13)) % 13)) := fun c hc => Classical.epsilon_spec (hex c hc)
  have := pig (13 * T.length) (l.map (fun c => Classical.epsilon (fun m => m < 13 * T.length ∧ cm F c + 48 = cm F (T.getD (m / 13) 0) + vv (m % 13)))) ?_ ?_
  · rw [List.length_map] at this; exact this
  · unfold List.Nodup
    rw [List.pairwise_map]
    refine List.Pairwise.imp_of_mem (fun {a b} ha hb hab e => hab ?_) hd
    have h1 := (hsp a ha).2
    have h2 := (hsp b hb).2
    rw [e] at h1
    exact cm_inj hF (h a ha).1 (h b hb).1 (by omega)
  · intro x hx
    obtain ⟨c, hc, rfl⟩ := List.mem_map.mp hx
    exact (hsp c hc).1
/-- isListed -/
theorem Y_isListed_loop {l : List Nat} {s : Nat} (hF : okF F) (hl : l.length ≤ 156) (h167 : arrL (C 167) 0 l) (hs : s < 4096) (hlt : ∀ x, x ∈ l → x < 4096)
    (kt : s ∈ l → Q (.inl (some (.int 1))) (hp F C J G)) (kf : s ∉ l → Q (.inl (some (.int 0))) (hp F C J G)) :
    ∀ d i, i + d = l.length → (∀ j, j < i → ¬ l.getD j 0 = s) → X y_Signposts_isListed 2 [some (.ref 164), some (.int (nI s)), some (.int (nI l.length)), some (.int (nI i))] [] (hp F C J G) Q := by
  intro d
  induction d with
  | zero =>
    intro i hd h
    have : i = l.length := by omega
    subst this
    repeat (refine X_n rfl rfl rfl ?_)
    refine X_bt rfl rfl rfl (Int32.le_refl _) ?_
    repeat (refine X_n rfl rfl rfl ?_)
    refine X_r rfl rfl rfl rfl (kf (fun m => ?_))
    obtain ⟨j, hj, e⟩ := mem_getD m
    exact h j hj e
  | succ d ih =>
    intro i hd h
    have hi : i < l.length := by omega
    have e := arrL_at h167 hi
    rw [Nat.zero_add] at e
    have hm := getD_mem hi
    have hlt := hlt _ hm
    repeat (refine X_n rfl rfl rfl ?_)
    refine X_bf rfl rfl rfl (show ¬ nI l.length ≤ nI i from nI_ge hi (by omega)) ?_
    repeat (refine X_n rfl rfl rfl ?_)
    refine X_la rfl rfl rfl hF (show i < 156 by omega) ?_
    rw [e]
    repeat (refine X_n rfl rfl rfl ?_)
    refine X_b rfl rfl rfl (fun q => ?_) (fun q => ?_)
    · have q : ¬ l.getD i 0 = s := fun g => q (by rw [g])
      iterate 2 (refine X_n rfl rfl rfl ?_)
      rw [nI_1']
      refine ih (i + 1) (by omega) (fun j hj => ?_)
      by_cases ej : j = i
      · subst ej; exact q
      · exact h j (by omega)
    · have q : l.getD i 0 = s := (nI_eq (by omega) (by omega)).mp (Classical.not_not.mp q)
      repeat (refine X_n rfl rfl rfl ?_)
      exact X_r rfl rfl rfl rfl (kt (q ▸ hm))
theorem Y_isListed {l : List Nat} {s : Nat} (hF : okF F) (hl : l.length ≤ 156) (h167 : arrL (C 167) 0 l) (hs : s < 4096) (hlt : ∀ x, x ∈ l → x < 4096)
    (kt : s ∈ l → Q (.inl (some (.int 1))) (hp F C J G)) (kf : s ∉ l → Q (.inl (some (.int 0))) (hp F C J G)) : Y y_Signposts_isListed [.ref 164, .int (nI s), .int (nI l.length)] (hp F C J G) Q := by
  unfold Y
  iterate 2 (refine X_n rfl rfl rfl ?_)
  exact Y_isListed_loop hF hl h167 hs hlt kt kf l.length 0 (by omega) (fun j hj => by omega)
/-- listShowings: lc the cells whose sets are listed -/
theorem Y_listS_loop (hF : okF F) (hg : okG F C) (hT : ∀ x, x ∈ T → x < F.1 * F.2.1) (hk : T.length ≤ 12) (h166 : ∀ c, c < F.1 * F.2.1 → D0 166 c = nI (shw C T c T.length))
    (kk : ∀ f (l : List Nat), l.length ≤ 156 → arrL f 0 l → (∀ s, s ∈ l → ∃ c, c < F.1 * F.2.1 ∧ s = shw C T c T.length) → (∀ c, c < F.1 * F.2.1 → ¬ shw C T c T.length = 0 → shw C T c T.length ∈ l) → Q (.inl (some (.int (nI l.length)))) (hp F (stA D0 167 f) J G)) :
    ∀ d i f (lc : List Nat), i + d = F.1 * F.2.1 → lc.Nodup → (∀ c, c ∈ lc → c < i ∧ ¬ shw C T c T.length = 0) → arrL f 0 (lc.map (fun c => shw C T c T.length)) → (∀ c, c < i → ¬ shw C T c T.length = 0 → shw C T c T.length ∈ lc.map (fun c => shw C T c T.length)) → X y_Signposts_listShowings 4 [some (.ref 164), some (.int (nI lc.length)), some (.int (nI i))] [] (hp F (stA D0 167 f) J G) Q := by
  have hn := hF.n
  intro d
  induction d with
  | zero =>
    intro i f lc hd hnd hlc hf hall
    have : i = F.1 * F.2.1 := by omega
    subst this
    have hfew := few hF hg hT lc hnd hlc
    have kk := kk f (lc.map (fun c => shw C T c T.length)) (by rw [List.length_map]; omega) hf (fun s hs => by
      obtain ⟨c, hc, e⟩ := List.mem_map.mp hs
      exact ⟨c, (hlc c hc).1, e.symm⟩) hall
    rw [List.length_map] at kk
    repeat (refine X_n rfl rfl rfl ?_)
    refine X_bt rfl rfl rfl (show nI (F.1 * F.2.1) ≤ nI (F.1 * F.2.1) from Int32.le_refl _) ?_
    repeat (refine X_n rfl rfl rfl ?_)
    exact X_r rfl rfl rfl rfl kk
  | succ d ih =>
    intro i f lc hd hnd hlc hf hall
    have hi : i < F.1 * F.2.1 := by omega
    obtain ⟨hs1, hs2⟩ := shw_lt (C := C) (c := i) hk
    have hlc' : ∀ c, c ∈ lc → c < F.1 * F.2.1 ∧ ¬ shw C T c T.length = 0 := fun c hc => ⟨by have := (hlc c hc).1; omega, (hlc c hc).2⟩
    have hfew := few hF hg hT lc hnd hlc'
    have e166 : stA D0 167 f 166 i = nI (shw C T i T.length) := by rw [stA_f (by omega)]; exact h166 i hi
    have no : (¬ shw C T i T.length = 0 → shw C T i T.length ∈ lc.map (fun c => shw C T c T.length)) → X y_Signposts_listShowings 60 [some (.ref 164), some (.int (nI lc.length)), some (.int (nI i))] [] (hp F (stA D0 167 f) J G) Q := by
      intro h
      iterate 2 (refine X_n rfl rfl rfl ?_)
      rw [nI_1']
      refine ih (i + 1) f lc (by omega) hnd (fun c hc => ⟨by have := (hlc c hc).1; omega, (hlc c hc).2⟩) hf (fun c hc hne => ?_)
      by_cases e : c = i
      · subst e; exact h hne
      · exact hall c (by omega) hne
    repeat (refine X_n rfl rfl rfl ?_)
    refine X_bf rfl rfl rfl (show ¬ nI (F.1 * F.2.1) ≤ nI i from nI_ge hi (by omega)) ?_
    repeat (refine X_n rfl rfl rfl ?_)
    refine X_la rfl rfl rfl hF hi ?_
    refine X_top e166 ?_
    refine X_b rfl rfl rfl (fun q => ?_) (fun q => ?_)
    · exact no (fun h => absurd ((nI_eq (b := 0) (by omega) (by omega)).mp q) h)
    have q : ¬ shw C T i T.length = 0 := fun h => q (by rw [h]; rfl)
    have hni : (lc ++ [i]).Nodup := by
      unfold List.Nodup
      rw [List.pairwise_append]
      refine ⟨hnd, List.pairwise_singleton _ _, fun a ha b hb => ?_⟩
      rw [List.mem_singleton] at hb
      have := (hlc a ha).1
      omega
    have hfew2 := few hF hg hT (lc ++ [i]) hni (fun c hc => by
      rcases List.mem_append.mp hc with g | g
      · exact hlc' c g
      · rw [List.mem_singleton] at g; subst g; exact ⟨hi, q⟩)
    rw [List.length_append, List.length_singleton] at hfew2
    repeat (refine X_n rfl rfl rfl ?_)
    refine X_bf rfl rfl rfl (show ¬ nI 156 ≤ nI lc.length from nI_ge (by omega) (by omega)) ?_
    repeat (refine X_n rfl rfl rfl ?_)
    refine X_la rfl rfl rfl hF hi ?_
    refine X_top e166 ?_
    repeat (refine X_n rfl rfl rfl ?_)
    rw [← List.length_map (f := fun c => shw C T c T.length)]
    refine X_k rfl rfl rfl rfl (Y_isListed (l := lc.map (fun c => shw C T c T.length)) hF (by rw [List.length_map]; omega) (by rw [stA_k]; exact hf) (by omega) (fun x hx => ?_) (fun w => ?_) (fun w => ?_))
    · obtain ⟨c, -, rfl⟩ := List.mem_map.mp hx
      have := (shw_lt (C := C) (c := c) hk).1
      omega
    · dsimp only
      rw [List.length_map]
      refine X_bt rfl rfl rfl (show ¬ (1 : Int32) = 0 by decide) ?_
      exact no (fun _ => w)
    · dsimp only
      rw [List.length_map]
      refine X_bf rfl rfl rfl (fun h => h rfl) ?_
      repeat (refine X_n rfl rfl rfl ?_)
      refine X_la rfl rfl rfl hF hi ?_
      refine X_top e166 ?_
      refine X_sa (k := lc.length) rfl rfl rfl hF (show lc.length < 156 by omega) ?_
      rw [st_stA]
      iterate 1 (refine X_n rfl rfl rfl ?_)
      iterate 2 (refine X_n rfl rfl rfl ?_)
      rw [nI_1', nI_1']
      have := ih (i + 1) (upd f lc.length (nI (shw C T i T.length))) (lc ++ [i]) (by omega) hni (fun c hc => ?_) ?_ (fun c hc hne => ?_)
      · rw [List.length_append, List.length_singleton] at this
        exact this
      · rcases List.mem_append.mp hc with g | g
        · exact ⟨by have := (hlc c g).1; omega, (hlc c g).2⟩
        · rw [List.mem_singleton] at g; subst g; exact ⟨by omega, q⟩
      · rw [List.map_append, arrL_app]
        refine ⟨arrL_upd (Or.inr (by rw [List.length_map]; omega)) hf, ?_, trivial⟩
        rw [List.length_map]
        show (if 0 + lc.length = lc.length then nI (shw C T i T.length) else f (0 + lc.length)) = _
        rw [if_pos (by omega)]
      · rw [List.map_append]
        by_cases e : c = i
        · subst e; exact List.mem_append_right _ (List.mem_singleton.mpr rfl)
        · exact List.mem_append_left _ (hall c (by omega) hne)
end
