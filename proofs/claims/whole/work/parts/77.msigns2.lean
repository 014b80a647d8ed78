/-! the reference's signs: the whole -/
/-- what a question leaves as it was -/
def sameQ (C C' : Ct) : Prop := (∀ k, k ≠ 169 → k ≠ 179 → k ≠ 180 → k ≠ 192 → C' k = C k) ∧ ∀ j, j ≠ 0 → j ≠ 14 → C' 169 j = C 169 j
def fl1 (f : Nat → Int32) (i : Nat) : Nat → Int32 := fun S => if 1 ≤ S ∧ S < i then nI 100000 else f S
section
variable {F : Fx} {C D D0 : Ct} {J : Nat → Int64} {G : Ex} {Q : mE → mH → Prop} {t k e c x b : Nat} {T : List Nat}
theorem sameL.q (h : sameL (st C 169 0 0) D) : sameQ C D := ⟨fun k a b c _ => by rw [h.1 k b c a, st_f a], fun j a b => by rw [h.2 j b, st_i a]⟩
theorem Y_msigns_out (hF : okF F) (hS : okS F D0) (hg : okG F D0) (hr : rS F D0) (h0 : mrow0 F D0) (hT : ∀ x, x ∈ T → x < F.1 * F.2.1 ∧ opC D0 x) (hk : T.length ≤ 12) (h180 : arrL (D0 180) 0 (T.map (cm F))) {x2 : Option Value}
    (kk : ∀ f, tabV (famS F D0 T) (2 ^ T.length) 100000 f → f 0 = nI 0 → tabM F D0 T (2 ^ T.length) f → Q (.inl (some (.int (f (2 ^ T.length - 1))))) (hp F (stA D0 192 f) J G)) :
    ∀ d s f x5 x6 x7, s + d = 2 ^ T.length → tabV (famS F D0 T) (2 ^ T.length) 100000 f → f 0 = nI 0 → tabM F D0 T s f → X y_Model_signs 88 [some (.ref 169), some (.int (nI T.length)), x2, some (.int (nI (2 ^ T.length - 1))), some (.int (nI s)), x5, x6, x7] [] (hp F (stA D0 192 f) J G) Q := by
  have h4 : 2 ^ T.length ≤ 4096 := Nat.pow_le_pow_right (n := 2) (by omega) hk
  have hp0 : 0 < 2 ^ T.length := Nat.two_pow_pos _
  intro d
  induction d with
  | zero =>
    intro s f x5 x6 x7 hd hV hf0 hM
    have : s = 2 ^ T.length := by omega
    subst this
    repeat (refine X_n rfl rfl rfl ?_)
    refine X_bt rfl rfl rfl (show nI (2 ^ T.length - 1) < nI (2 ^ T.length) from nI_lt (by omega) (by omega)) ?_
    repeat (refine X_n rfl rfl rfl ?_)
    refine X_la (k := 2 ^ T.length - 1) rfl rfl rfl hF (show 2 ^ T.length - 1 < 4096 by omega) ?_
    refine X_top (w := f (2 ^ T.length - 1)) (by rw [stA_k]) ?_
    exact X_r rfl rfl rfl rfl (kk f hV hf0 hM)
  | succ d ih =>
    intro s f x5 x6 x7 hd hV hf0 hM
    repeat (refine X_n rfl rfl rfl ?_)
    refine X_bf rfl rfl rfl (show ¬ nI (2 ^ T.length - 1) < nI s from nI_nlt (by omega) (by omega)) ?_
    iterate 2 (refine X_n rfl rfl rfl ?_)
    refine Y_msigns_in (x2 := x2) hF hS hg hr h0 hT hk h180 (by omega) (fun f' x5 x6 x7 hV' h0' hM' => ?_) 576 0 f _ _ (by omega) hV hf0 hM (fun _ _ c hc hci => by omega)
    iterate 2 (refine X_n rfl rfl rfl ?_)
    rw [nI_1']
    exact ih (s + 1) f' _ _ _ (by omega) hV' h0' hM'
theorem Y_msigns_fill {f0 : Nat → Int32} {x2 x5 x6 x7 : Option Value} (hF : okF F) (hk : k ≤ 12)
    (kk : X y_Model_signs 78 [some (.ref 169), some (.int (nI k)), x2, some (.int (nI (2 ^ k - 1))), some (.int (nI (2 ^ k))), x5, x6, x7] [] (hp F (stA D0 192 (fl1 f0 (2 ^ k))) J G) Q) :
    ∀ d i, i + d = 2 ^ k → 1 ≤ i → X y_Model_signs 57 [some (.ref 169), some (.int (nI k)), x2, some (.int (nI (2 ^ k - 1))), some (.int (nI i)), x5, x6, x7] [] (hp F (stA D0 192 (fl1 f0 i)) J G) Q := by
  have h4 : 2 ^ k ≤ 4096 := Nat.pow_le_pow_right (n := 2) (by omega) hk
  intro d
  induction d with
  | zero =>
    intro i hd hi
    have : i = 2 ^ k := by omega
    subst this
    repeat (refine X_n rfl rfl rfl ?_)
    refine X_bt rfl rfl rfl (show nI (2 ^ k - 1) < nI (2 ^ k) from nI_lt (by omega) (by omega)) ?_
    exact kk
  | succ d ih =>
    intro i hd hi
    repeat (refine X_n rfl rfl rfl ?_)
    refine X_bf rfl rfl rfl (show ¬ nI (2 ^ k - 1) < nI i from nI_nlt (by omega) (by omega)) ?_
    repeat (refine X_n rfl rfl rfl ?_)
    refine X_sa (k := i) rfl rfl rfl hF (show i < 4096 by omega) ?_
    rw [st_stA]
    have e : upd (fl1 f0 i) i (Int32.ofInt 100000) = fl1 f0 (i + 1) := by
      funext S
      show (if S = i then Int32.ofInt 100000 else (if 1 ≤ S ∧ S < i then nI 100000 else f0 S)) = (if 1 ≤ S ∧ S < i + 1 then nI 100000 else f0 S)
      by_cases e : S = i
      · rw [if_pos e, if_pos (by omega)]; rfl
      · rw [if_neg e]
        by_cases q : 1 ≤ S ∧ S < i
        · rw [if_pos q, if_pos (by omega)]
        · rw [if_neg q, if_neg (by omega)]
    have ih := ih (i + 1) (by omega) (by omega)
    rw [← e] at ih
    iterate 2 (refine X_n rfl rfl rfl ?_)
    rw [nI_1']
    exact ih
theorem Y_msigns_ring {x4 x5 x6 x7 : Option Value} {x1 : Int32} (hF : okF F)
    (kk : ∀ g, arrL g 0 (lst (isTM F D0) 576) → X y_Model_signs 48 [some (.ref 169), some (.int x1), some (.int (nI (lst (isTM F D0) 576).length)), some (.int (nI 576)), x4, x5, x6, x7] [] (hp F (stA D0 180 g) J G) Q) :
    ∀ d i g, i + d = 576 → arrL g 0 (lst (isTM F D0) i) → X y_Model_signs 17 [some (.ref 169), some (.int x1), some (.int (nI (lst (isTM F D0) i).length)), some (.int (nI i)), x4, x5, x6, x7] [] (hp F (stA D0 180 g) J G) Q := by
  intro d
  induction d with
  | zero =>
    intro i g hd hg
    have : i = 576 := by omega
    subst this
    repeat (refine X_n rfl rfl rfl ?_)
    refine X_bt rfl rfl rfl (Int32.le_refl _) ?_
    exact kk g hg
  | succ d ih =>
    intro i g hd hg
    have hlen := lst_len (p := isTM F D0) (i := i)
    have eT : isTM F (stA D0 180 g) = isTM F D0 := by
      have e1 : ∀ m w, lsM F (stA D0 180 g) m w = lsM F D0 m w := fun m w => by unfold lsM; rw [stA_f (by omega)]
      have e2 : ∀ m w, lsNM F (stA D0 180 g) m w = lsNM F D0 m w := by
        intro m w
        induction w with
        | zero => rfl
        | succ w ih => rw [lsNM, lsNM, ih, e1]
      funext m
      unfold isTM
      rw [e2, stA_f (by omega)]
    have ih := ih (i + 1)
    repeat (refine X_n rfl rfl rfl ?_)
    refine X_bf rfl rfl rfl (show ¬ nI 576 ≤ nI i from nI_ge (by omega) (by omega)) ?_
    repeat (refine X_n rfl rfl rfl ?_)
    refine X_k rfl rfl rfl rfl (Y_misTurn hF (show i < 576 by omega) (fun q => ?_) (fun q => ?_))
    · rw [eT] at q
      rw [lst_t q, List.length_append, List.length_singleton] at ih
      dsimp only
      refine X_bf rfl rfl rfl (show ¬ (1 : Int32) = 0 by decide) ?_
      repeat (refine X_n rfl rfl rfl ?_)
      refine X_sa (k := (lst (isTM F D0) i).length) rfl rfl rfl hF (show (lst (isTM F D0) i).length < 576 by omega) ?_
      rw [st_stA]
      iterate 1 (refine X_n rfl rfl rfl ?_)
      iterate 2 (refine X_n rfl rfl rfl ?_)
      rw [nI_1', nI_1']
      refine ih _ (by omega) ?_
      rw [arrL_app]
      refine ⟨arrL_upd (Or.inr (by omega)) hg, ?_, trivial⟩
      show (if 0 + (lst (isTM F D0) i).length = (lst (isTM F D0) i).length then nI i else _) = nI i
      rw [if_pos (by omega)]
    · rw [eT] at q
      rw [lst_f q] at ih
      dsimp only
      refine X_bt rfl rfl rfl rfl ?_
      iterate 2 (refine X_n rfl rfl rfl ?_)
      rw [nI_1']
      exact ih g (by omega) hg
theorem turn_has (hF : okF F) (hS : okS F C) (hc : c < F.1 * F.2.1) (h : isT F C c) : hasN F C c := by
  intro e
  have hz : ∀ w, w ≤ 4 → lsN F C c w = 0 := by
    intro w
    induction w with
    | zero => intro _; rfl
    | succ w ih =>
      intro hw
      rw [lsN, ih (by omega), m_if_f]
      rintro ⟨b, h1, h2, h3⟩
      have hb := (nbC_in hF hS hc (show w < 4 by omega) h1).1
      have := (nu_sg hF hS (r := 0) (by omega) hb).2.mpr h2
      rw [e] at h3
      exact absurd (Int32.lt_of_le_of_lt this h3) (by decide)
  unfold isT at h
  rw [hz 4 (Nat.le_refl 4)] at h
  omega
theorem near_has (hF : okF F) (hS : okS F C) (hx : x < F.1 * F.2.1) (hN : hasN F C x) (h : near C c x) : hasN F C c := by
  have hxo := nu_op hF hS (by omega) hx hN
  rcases h with e | ⟨w, hw, h⟩ | ⟨w, b, hw, h, w', hw', h'⟩
  · rw [e]; exact hN
  · exact fun g => hN ((nu_nb hF hS (by omega) hx hxo hw h).mp g)
  · obtain ⟨hb, hbo⟩ := nbC_in hF hS hx hw h
    exact fun g => hN ((nu_nb hF hS (by omega) hx hxo hw h).mp ((nu_nb hF hS (by omega) hb hbo hw' h').mp g))
theorem Y_msigns (hF : okF F) (hS : okS F C) (hg : okG F C) (hrS : rS F C) (hm : okMS F C) (hL : okL F C) (hTe : T = lst (isT F C) (F.1 * F.2.1))
    (k13 : ∀ D, sameQ C D → D 169 0 = 0 → okL F D → 12 < T.length → Q (.inl (some (.int (-1)))) (hp F D J G))
    (kk : ∀ D f, sameQ C D → D 169 0 = 0 → okL F D → T.length ≤ 12 → stepF (famS F C T) T.length f → sndF (famS F C T) f (2 ^ T.length - 1) → f 0 = 0 → (f (2 ^ T.length - 1) ≤ 100000) → Q (.inl (some (.int (nI (f (2 ^ T.length - 1)))))) (hp F D J G)) :
    Y y_Model_signs [.ref 169] (hp F C J G) Q := by
  have hn := hF.n
  unfold Y
  repeat (refine X_n rfl rfl rfl ?_)
  refine X_k rfl rfl rfl rfl (Y_mturns hF hS hg hrS hm hL (fun C1 s e14 hr h0 => ?_))
  dsimp only
  rw [← hTe]
  have q1 : sameQ C C1 := s.q
  have e0 : C1 169 0 = 0 := by rw [s.2 0 (by omega), st_s]
  have c1 : cfg C C1 := fun k hk => q1.1 k (by omega) (by omega) (by omega) (by omega)
  have hS1 := okS_cfg c1 hS
  have hg1 := okG_cfg c1 hg
  have hr1 : rS F C1 := by
    unfold rS at *
    rw [q1.1 170 (by omega) (by omega) (by omega) (by omega), q1.1 171 (by omega) (by omega) (by omega) (by omega), q1.2 7 (by omega) (by omega), c1 2 (by omega), c1 5 (by omega), c1 1 (by omega)]
    exact hrS
  have hlenT : T.length ≤ 576 := by rw [hTe]; have := lst_len (p := isT F C) (i := F.1 * F.2.1); omega
  iterate 3 (refine X_n rfl rfl rfl ?_)
  refine X_b rfl rfl rfl (fun q => ?_) (fun q => ?_)
  · have q : T.length ≤ 12 := (nI_leI (b := 12) (by omega) (by omega)).mp q
    have h4 : 2 ^ T.length ≤ 4096 := Nat.pow_le_pow_right (n := 2) (by omega) q
    have hp0 : 0 < 2 ^ T.length := Nat.two_pow_pos _
    have eTM : lst (isTM F C1) 576 = T.map (cm F) := by rw [isT_eq hF hS1 hg1 hr1 h0, isT_cfg c1, hTe]
    have hTo : ∀ x, x ∈ T → x < F.1 * F.2.1 ∧ hasN F C x := fun x hx => by
      rw [hTe] at hx
      have := lst_mem.mp hx
      exact ⟨this.1, turn_has hF hS this.1 this.2⟩
    iterate 4 (refine X_n rfl rfl rfl ?_)
    have go := Y_msigns_ring (F := F) (D0 := C1) (J := J) (G := G) (Q := Q) (x1 := nI T.length) (x4 := none) (x5 := none) (x6 := none) (x7 := none) hF ?_ 576 0 (C1 180) (by omega) trivial
    · rw [stA_self] at go
      exact go
    · intro g hg'
      rw [eTM] at hg'
      iterate 3 (refine X_n rfl rfl rfl ?_)
      refine X_top (w := nI (2 ^ T.length)) (shl1 T.length (by omega)) ?_
      iterate 2 (refine X_n rfl rfl rfl ?_)
      refine X_top (w := nI (2 ^ T.length - 1)) (nI_sub (b := 1) hp0) ?_
      iterate 3 (refine X_n rfl rfl rfl ?_)
      -- the contents from here on but for the table
      have fr : ∀ k, k ≠ 180 → stA C1 180 g k = C1 k := fun k hk => stA_f hk
      have cR : cfg C1 (stA C1 180 g) := fun k hk => fr k (by omega)
      have cR' : cfg C (stA C1 180 g) := fun k hk => (fr k (by omega)).trans (c1 k hk)
      have go2 := Y_msigns_fill (F := F) (D0 := stA C1 180 g) (f0 := C1 192) (J := J) (G := G) (Q := Q) (k := T.length) (x2 := some (.int (nI (lst (isTM F C1) 576).length))) (x5 := none) (x6 := none) (x7 := none) hF q ?_ (2 ^ T.length - 1) 1 (by omega) (Nat.le_refl 1)
      · have e1 : stA (stA C1 180 g) 192 (fl1 (C1 192) 1) = stA C1 180 g := by
          have : fl1 (C1 192) 1 = stA C1 180 g 192 := by
            rw [fr 192 (by omega)]
            funext S
            show (if 1 ≤ S ∧ S < 1 then _ else _) = _
            rw [if_neg (by omega)]
          rw [this, stA_self]
        rw [e1] at go2
        exact go2
      · repeat (refine X_n rfl rfl rfl ?_)
        refine X_sa (k := 0) rfl rfl rfl hF (show 0 < 4096 by omega) ?_
        rw [st_stA]
        iterate 2 (refine X_n rfl rfl rfl ?_)
        have hSR := okS_cfg cR hS1
        have hgR := okG_cfg cR hg1
        have hrR : rS F (stA C1 180 g) := by
          unfold rS at *
          rw [fr 170 (by omega), fr 171 (by omega), fr 169 (by omega), fr 2 (by omega), fr 5 (by omega), fr 1 (by omega)]
          exact hr1
        have h0R : mrow0 F (stA C1 180 g) := by
          unfold mrow0 at *
          rw [fr 179 (by omega), nuC_cfg cR]
          exact h0
        have hfam : famS F (stA C1 180 g) T = famS F C T := by
          funext m
          unfold famS shw near
          simp only [nbC_cfg cR']
        have hsw : ∀ c, shw (stA C1 180 g) T c T.length = shw C T c T.length := fun c => by unfold shw near; simp only [nbC_cfg cR']
        have hhN : ∀ c, hasN F (stA C1 180 g) c = hasN F C c := fun c => by unfold hasN; rw [nuC_cfg cR']
        refine Y_msigns_out (T := T) hF hSR hgR hrR h0R (fun x hx => ⟨(hTo x hx).1, nu_op hF hSR (r := 0) (by omega) (hTo x hx).1 (by rw [nuC_cfg cR']; exact (hTo x hx).2)⟩) q (by rw [stA_k]; exact hg') (fun f hV hf0 hM => ?_) (2 ^ T.length) 0 _ _ _ _ (by omega) (fun S hS' => ?_) ?_ (fun s' hs' => by omega)
        · obtain ⟨a1, a2, a3⟩ := hV.g (by omega) (show 2 ^ T.length - 1 < 2 ^ T.length by omega)
          rw [hfam] at hV a3
          have kk := kk (stA (stA C1 180 g) 192 f) (gN f) ⟨fun k w1 w2 w3 w4 => by rw [stA_f w4, fr k w3]; exact q1.1 k w1 w2 w3 w4, fun j w1 w2 => by rw [stA_f (by omega), fr 169 (by omega)]; exact q1.2 j w1 w2⟩ (by rw [stA_f (by omega), fr 169 (by omega)]; exact e0) ?_ q (fun s' hs' h12 => ?_) (fun h12 => a3 (by omega)) (by unfold gN; rw [hf0]; rfl) a2
          · rw [← a1] at kk
            exact kk
          · refine Or.inr ⟨by rw [stA_f (by omega), fr 169 (by omega)]; exact e14, fun wh hw => ?_⟩
            have e2 : nuM (stA (stA C1 180 g) 192 f) wh = nuM C1 wh := by unfold nuM; rw [stA_f (by omega), fr 179 (by omega)]
            rw [e2]
            exact rowOkM_eq (by rw [stA_f (by omega), fr 170 (by omega)]) (by rw [stA_f (by omega), fr 171 (by omega)]) (hr wh hw)
          · obtain ⟨t, ht, hb⟩ := zero_bit hs'
            refine ⟨t, ht, hb, fun m hmf hmb => ?_⟩
            obtain ⟨c, hc, e⟩ := hmf
            rw [e] at hmb ⊢
            obtain ⟨-, hnr⟩ := shw_bit.mp hmb
            have hx := hTo _ (getD_mem ht)
            have hcN := near_has hF hS hx.1 hx.2 hnr
            have := hM s' (by omega) (by omega) hs' c hc (by rw [hhN]; exact hcN) (by rw [hsw]; exact fun g => absurd (or_gt hb hmb) (by omega))
            rw [hsw] at this
            exact this
        · by_cases e : S = 0
          · subst e
            exact ⟨0, by omega, rfl, fun _ => ⟨[], rfl, fun m h => (by cases h), rfl⟩⟩
          · refine ⟨100000, Nat.le_refl _, ?_, fun h => by omega⟩
            refine (if_neg e).trans ?_
            show (if 1 ≤ S ∧ S < 2 ^ T.length then nI 100000 else _) = _
            rw [if_pos (by omega)]
        · rfl
  · have q : ¬ T.length ≤ 12 := fun h => q (nI_le (b := 12) h (by omega))
    repeat (refine X_n rfl rfl rfl ?_)
    exact X_r rfl rfl rfl rfl (k13 C1 q1 e0 (Or.inr ⟨e14, hr⟩) (by omega))
end
