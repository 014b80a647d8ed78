/-! the class's signs -/
section
variable {F : Fx} {C D D0 : Ct} {J : Nat → Int64} {G : Ex} {Q : mE → mH → Prop} {t k e c x b : Nat} {T : List Nat}
theorem Y_leastOf_loop {l : List Nat} (hF : okF F) (hk : k ≤ 12) (hl : l.length ≤ 156) (hlk : ∀ m, m ∈ l → m < 2 ^ k) (h167 : arrL (D0 167) 0 l)
    (kk : ∀ f, tabV (· ∈ l) 4096 13 f → f 0 = nI 0 → tabS l (2 ^ k - 1) f → Q (.inl (some (.int (f (2 ^ k - 1))))) (hp F (stA D0 168 f) J G)) :
    ∀ d s f x5 x6 x7 x8, s + d = 2 ^ k - 1 → tabV (· ∈ l) 4096 13 f → f 0 = nI 0 → tabS l s f → X y_Signposts_leastOf 25 [some (.ref 164), some (.int (nI k)), some (.int (nI l.length)), some (.int (nI (2 ^ k - 1))), some (.int (nI s)), x5, x6, x7, x8] [] (hp F (stA D0 168 f) J G) Q := by
  have h4 : 2 ^ k ≤ 4096 := Nat.pow_le_pow_right (n := 2) (by omega) hk
  have hp0 : 0 < 2 ^ k := Nat.two_pow_pos k
  intro d
  induction d with
  | zero =>
    intro s f x5 x6 x7 x8 hd hV h0 hS
    have : s = 2 ^ k - 1 := by omega
    subst this
    repeat (refine X_n rfl rfl rfl ?_)
    refine X_bt rfl rfl rfl (Int32.le_refl _) ?_
    repeat (refine X_n rfl rfl rfl ?_)
    refine X_la (k := 2 ^ k - 1) rfl rfl rfl hF (show 2 ^ k - 1 < 4096 by omega) ?_
    refine X_top (w := f (2 ^ k - 1)) (by rw [stA_k]) ?_
    exact X_r rfl rfl rfl rfl (kk f hV h0 hS)
  | succ d ih =>
    intro s f x5 x6 x7 x8 hd hV h0 hS
    obtain ⟨fs1, -, -⟩ := hV.g (by omega) (show s < 4096 by omega)
    obtain ⟨f1, -, -, -⟩ := first_ok (show s < 4096 by omega)
    repeat (refine X_n rfl rfl rfl ?_)
    refine X_bf rfl rfl rfl (show ¬ nI (2 ^ k - 1) ≤ nI s from nI_ge (by omega) (by omega)) ?_
    iterate 7 (refine X_n rfl rfl rfl ?_)
    refine X_top (w := nI (2 ^ lowz s)) f1 ?_
    repeat (refine X_n rfl rfl rfl ?_)
    refine X_la (k := s) rfl rfl rfl hF (show s < 4096 by omega) ?_
    refine X_top (w := nI (gN f s)) (by rw [stA_k]; exact fs1) ?_
    iterate 5 (refine X_n rfl rfl rfl ?_)
    refine Y_leastOf_in (first := 0) hF hk hl hlk h167 (by omega) (fun f' x7 x8 hV' h0' hS' => ?_) l.length 0 f _ (by omega) hV h0 hS (fun j hj => by omega)
    iterate 2 (refine X_n rfl rfl rfl ?_)
    rw [nI_1']
    exact ih (s + 1) f' _ _ _ _ (by omega) hV' h0' hS'
theorem Y_leastOf {l : List Nat} (hF : okF F) (hk : k ≤ 12) (hl : l.length ≤ 156) (hlk : ∀ m, m ∈ l → m < 2 ^ k) (h167 : arrL (D0 167) 0 l)
    (kk : ∀ f, tabV (· ∈ l) 4096 13 f → f 0 = nI 0 → tabS l (2 ^ k - 1) f → Q (.inl (some (.int (f (2 ^ k - 1))))) (hp F (stA D0 168 f) J G)) : Y y_Signposts_leastOf [.ref 164, .int (nI k), .int (nI l.length)] (hp F D0 J G) Q := by
  have h4 : 2 ^ k ≤ 4096 := Nat.pow_le_pow_right (n := 2) (by omega) hk
  have hp0 : 0 < 2 ^ k := Nat.two_pow_pos k
  unfold Y
  iterate 3 (refine X_n rfl rfl rfl ?_)
  refine X_top (w := nI (2 ^ k)) (shl1 k (by omega)) ?_
  iterate 2 (refine X_n rfl rfl rfl ?_)
  refine X_top (w := nI (2 ^ k - 1)) (nI_sub (b := 1) hp0) ?_
  repeat (refine X_n rfl rfl rfl ?_)
  refine X_cd rfl rfl rfl rfl (Y_fillC (k := 168) rfl rfl (show 4096 < 2 ^ 31 by omega)) ?_
  repeat (refine X_n rfl rfl rfl ?_)
  refine X_sa (k := 0) rfl rfl rfl hF (show 0 < 4096 by omega) ?_
  rw [st_stA]
  iterate 2 (refine X_n rfl rfl rfl ?_)
  refine Y_leastOf_loop hF hk hl hlk h167 kk (2 ^ k - 1) 0 _ _ _ _ _ (by omega) (fun S hS => ?_) rfl (fun s' hs' => by omega)
  by_cases e : S = 0
  · subst e
    exact ⟨0, by omega, rfl, fun _ => ⟨[], rfl, fun m h => (by cases h), rfl⟩⟩
  · refine ⟨13, by omega, ?_, fun h => by omega⟩
    refine (if_neg e).trans ?_
    show (if S < 4096 then _ else _) = _
    rw [if_pos hS]; rfl
/-- the sets that a sign can show -/
def famS (F : Fx) (C : Ct) (T : List Nat) (m : Nat) : Prop := ∃ c, c < F.1 * F.2.1 ∧ m = shw C T c T.length
/-- what signs leaves as it was -/
def sameG (C C' : Ct) : Prop := ∀ k, k < 165 ∨ 168 < k → C' k = C k
theorem Y_cLeast_loop (hF : okF F) (hS : okS F C) (hg : okG F C) (hr : row0 F C)
    (k13 : ∀ D, sameG C D → 12 < (lst (isT F C) (F.1 * F.2.1)).length → Q (.inl (some (.int (-1)))) (hp F D J G))
    (kk : ∀ D f, sameG C D → (lst (isT F C) (F.1 * F.2.1)).length ≤ 12 → stepF (famS F C (lst (isT F C) (F.1 * F.2.1))) (lst (isT F C) (F.1 * F.2.1)).length f → sndF (famS F C (lst (isT F C) (F.1 * F.2.1))) f (2 ^ (lst (isT F C) (F.1 * F.2.1)).length - 1) → f 0 = 0 → Q (.inl (some (.int (nI (f (2 ^ (lst (isT F C) (F.1 * F.2.1)).length - 1)))))) (hp F D J G)) :
    ∀ d i D, i + d = F.1 * F.2.1 → (∀ k, k ≠ 165 → D k = C k) → (lst (isT F C) i).length ≤ 12 → arrL (D 165) 0 (lst (isT F C) i) → X y_Signposts_countLeast 4 [some (.ref 164), some (.ref 12), some (.int (nI (lst (isT F C) i).length)), some (.int (nI i))] [] (hp F D J G) Q := by
  have hn := hF.n
  intro d
  induction d with
  | zero =>
    intro i D hd h1 h12 ha
    have : i = F.1 * F.2.1 := by omega
    subst this
    have kk := fun D f a => kk D f a h12
    have hT : ∀ x, x ∈ lst (isT F C) (F.1 * F.2.1) → x < F.1 * F.2.1 := fun x hx => (lst_mem.mp hx).1
    generalize lst (isT F C) (F.1 * F.2.1) = T at *
    have cD : cfg C D := fun k hk => h1 k (by omega)
    have hBD : okB F D := (okS_cfg cD hS).1
    have hgD : okG F D := okG_cfg cD hg
    have hnb : ∀ a w, nbC D a w = nbC C a w := fun a w => nbC_cfg cD
    have hsh : ∀ c i, shw D T c i = shw C T c i := fun c i => by unfold shw near; simp only [hnb]
    repeat (refine X_n rfl rfl rfl ?_)
    refine X_bt rfl rfl rfl (show nI (F.1 * F.2.1) ≤ nI (F.1 * F.2.1) from Int32.le_refl _) ?_
    repeat (refine X_n rfl rfl rfl ?_)
    refine X_k rfl rfl rfl rfl (Y_showTurns hF hBD hT h12 ha (fun D2 d1 d2 => ?_))
    dsimp only
    repeat (refine X_n rfl rfl rfl ?_)
    have c2 : cfg C D2 := fun k hk => by rw [d1 k (by omega)]; exact cD k hk
    refine X_k rfl rfl rfl rfl (show Y y_Signposts_listShowings [.ref 164] (hp F D2 J G) _ from ?_)
    unfold Y
    iterate 4 (refine X_n rfl rfl rfl ?_)
    have hgo := Y_listS_loop (F := F) (C := C) (D0 := D2) (T := T) (J := J) (G := G) hF hg hT h12 (fun c hc => by rw [d2 c hc, hsh]) (Q := fun o h' => match o with
      | .inl v => X y_Signposts_countLeast 59 [some (.ref 164), some (.ref 12), some (.int (nI T.length)), some (.int (nI (F.1 * F.2.1)))] (v.toList ++ [.int (nI T.length), .ref 164]) h' Q
      | .inr x => (match m_catch y_Signposts_countLeast 56 h' x with | some t => X y_Signposts_countLeast t [some (.ref 164), some (.ref 12), some (.int (nI T.length)), some (.int (nI (F.1 * F.2.1)))] [.ref x] h' Q | none => Q (.inr x) h')) ?_ (F.1 * F.2.1) 0 (D2 167) [] (by omega) List.nodup_nil (fun c h => (by cases h)) trivial (fun c h => by omega)
    · rw [stA_self] at hgo
      exact hgo
    · intro f l hl hf hl1 hl2
      dsimp only
      have hlk : ∀ m, m ∈ l → m < 2 ^ T.length := fun m hm => by
        obtain ⟨c, hc, e⟩ := hl1 m hm
        rw [e]; exact (shw_lt h12).1
      refine X_k rfl rfl rfl rfl (Y_leastOf (k := T.length) (l := l) hF h12 hl hlk (by rw [stA_k]; exact hf) (fun f' hV h0 hS' => ?_))
      dsimp only
      have h4 : 2 ^ T.length ≤ 4096 := Nat.pow_le_pow_right (n := 2) (by omega) h12
      have hp0 : 0 < 2 ^ T.length := Nat.two_pow_pos _
      obtain ⟨a1, a2, a3⟩ := hV.g (by omega) (show 2 ^ T.length - 1 < 4096 by omega)
      have kk := kk (stA (stA D2 167 f) 168 f') (gN f') (fun k hk => by rw [stA_f (by omega), stA_f (by omega), d1 k (by omega), h1 k (by omega)]) (fun s hs h12' => ?_) (fun h => ?_) ?_
      · rw [← a1] at kk
        exact X_r rfl rfl rfl rfl kk
      · obtain ⟨-, -, hb, -⟩ := first_ok (show s < 4096 by omega)
        refine ⟨lowz s, lowz_lt h12 hs, hb, fun m hm hmb => ?_⟩
        obtain ⟨c, hc, e⟩ := hm
        have hne : ¬ shw C T c T.length = 0 := fun z => by rw [e, z, Nat.zero_testBit] at hmb; cases hmb
        exact hS' s hs m (by rw [e]; exact hl2 c hc hne) hmb h12'
      · obtain ⟨l', b1, b2, b3⟩ := a3 (by omega)
        exact ⟨l', b1, fun m hm => hl1 m (b2 m hm), b3⟩
      · unfold gN; rw [h0]; rfl
  | succ d ih =>
    intro i D hd h1 h12 ha
    have hi : i < F.1 * F.2.1 := by omega
    have cD : cfg C D := fun k hk => h1 k (by omega)
    have hr' : row0 F D := fun c hc => by rw [h1 12 (by omega), nuC_cfg cD]; exact hr c hc
    have eT : isT F D = isT F C := isT_cfg cD
    have ih := ih (i + 1)
    repeat (refine X_n rfl rfl rfl ?_)
    refine X_bf rfl rfl rfl (show ¬ nI (F.1 * F.2.1) ≤ nI i from nI_ge hi (by omega)) ?_
    repeat (refine X_n rfl rfl rfl ?_)
    refine X_cd rfl rfl rfl rfl (Y_isTurn hF (okS_cfg cD hS).1 hr' hi) ?_
    refine X_z rfl (fun q => ?_) (fun q => ?_)
    · have q : ¬ isT F C i := by rw [← eT]; exact q
      rw [lst_f q] at ih
      iterate 2 (refine X_n rfl rfl rfl ?_)
      rw [nI_1']
      exact ih D (by omega) h1 h12 ha
    · have q : isT F C i := by rw [← eT]; exact q
      rw [lst_t q, List.length_append, List.length_singleton] at ih
      repeat (refine X_n rfl rfl rfl ?_)
      refine X_b rfl rfl rfl (fun q2 => ?_) (fun q2 => ?_)
      · have q2 : (lst (isT F C) i).length < 12 := (nI_ltI (b := 12) (by omega) (by omega)).mp q2
        repeat (refine X_n rfl rfl rfl ?_)
        refine X_sa (k := (lst (isT F C) i).length) rfl rfl rfl hF (show (lst (isT F C) i).length < 12 from q2) ?_
        iterate 1 (refine X_n rfl rfl rfl ?_)
        iterate 2 (refine X_n rfl rfl rfl ?_)
        rw [nI_1', nI_1']
        refine ih _ (by omega) (fun k hk => by rw [st_f hk]; exact h1 k hk) (by omega) ?_
        rw [arrL_app, st_kk]
        refine ⟨arrL_upd (Or.inr (by omega)) ha, ?_, trivial⟩
        show (if 0 + (lst (isT F C) i).length = (lst (isT F C) i).length then nI i else _) = nI i
        rw [if_pos (by omega)]
      · have q2 : ¬ (lst (isT F C) i).length < 12 := fun h => q2 (nI_lt (b := 12) h (by omega))
        repeat (refine X_n rfl rfl rfl ?_)
        refine X_r rfl rfl rfl rfl (k13 D (fun k hk => h1 k (by omega)) ?_)
        have mono : ∀ a b, a ≤ b → (lst (isT F C) a).length ≤ (lst (isT F C) b).length := by
          intro a b hab
          induction b with
          | zero => have : a = 0 := by omega
                    subst this; exact Nat.le_refl _
          | succ b ihb =>
            by_cases e : a = b + 1
            · subst e; exact Nat.le_refl _
            · have := ihb (by omega)
              by_cases w : isT F C b
              · rw [lst_t w, List.length_append]; omega
              · rw [lst_f w]; exact this
        have := mono (i + 1) (F.1 * F.2.1) (by omega)
        rw [lst_t q, List.length_append, List.length_singleton] at this
        omega
theorem Y_signs (hF : okF F) (hS : okS F C) (hg : okG F C) (hN : okN F C)
    (k13 : ∀ C' D, sameN C C' → okN F C' → sameG C' D → 12 < (lst (isT F C) (F.1 * F.2.1)).length → Q (.inl (some (.int (-1)))) (hp F D J G))
    (kk : ∀ C' D f, sameN C C' → okN F C' → sameG C' D → (lst (isT F C) (F.1 * F.2.1)).length ≤ 12 → stepF (famS F C (lst (isT F C) (F.1 * F.2.1))) (lst (isT F C) (F.1 * F.2.1)).length f → sndF (famS F C (lst (isT F C) (F.1 * F.2.1))) f (2 ^ (lst (isT F C) (F.1 * F.2.1)).length - 1) → f 0 = 0 → Q (.inl (some (.int (nI (f (2 ^ (lst (isT F C) (F.1 * F.2.1)).length - 1)))))) (hp F D J G)) :
    Y y_Esc_signs [.ref 0] (hp F C J G) Q := by
  unfold Y
  repeat (refine X_n rfl rfl rfl ?_)
  refine X_k rfl rfl rfl rfl (Y_row0 hF hS hN rfl (fun C' s n hr => ?_))
  dsimp only
  have c : cfg C C' := s.cfg
  have eT := isT_cfg (F := F) c
  have ef : ∀ T, famS F C' T = famS F C T := fun T => by
    funext m
    unfold famS shw near
    simp only [nbC_cfg c]
  refine X_k rfl rfl rfl rfl (show Y y_Signposts_countLeast [.ref 164, .ref 12] (hp F C' J G) _ from ?_)
  unfold Y
  iterate 4 (refine X_n rfl rfl rfl ?_)
  refine Y_cLeast_loop hF (okS_same s hS) (okG_cfg c hg) hr (fun D g h => ?_) (fun D f g h1 h2 h3 h4 => ?_) _ 0 C' (Nat.zero_add _) (fun _ _ => rfl) (Nat.zero_le _) trivial
  · dsimp only
    rw [eT] at h
    exact X_r rfl rfl rfl rfl (k13 C' D s n g h)
  · dsimp only
    rw [eT] at h1 h2 h3 ⊢
    rw [ef] at h2 h3
    exact X_r rfl rfl rfl rfl (kk C' D f s n g h1 h2 h3 h4)
end
