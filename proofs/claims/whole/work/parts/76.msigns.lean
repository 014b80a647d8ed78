/-! the reference's signs: the table -/
/-- what holds of the sets below s -/
def tabM (F : Fx) (C : Ct) (T : List Nat) (s : Nat) (f : Nat → Int32) : Prop := ∀ s', s' < s → gN f s' < 100000 → s' < 2 ^ T.length - 1 → ∀ c, c < F.1 * F.2.1 → hasN F C c → ¬ s' ||| shw C T c T.length = s' → gN f (s' ||| shw C T c T.length) ≤ gN f s' + 1
section
variable {F : Fx} {C D D0 : Ct} {J : Nat → Int64} {G : Ex} {Q : mE → mH → Prop} {t k e c x b : Nat} {T : List Nat}
theorem tabM_upd {s S j : Nat} {f : Nat → Int32} (h : tabM F C T s f) (hS : s < S) (hj : j ≤ gN f S) (hj2 : j < 2 ^ 31) : tabM F C T s (upd f S (nI j)) := by
  intro s' hs' h1 h2 c hc hN hne
  have e1 : gN (upd f S (nI j)) s' = gN f s' := by rw [gN_upd hj2, if_neg (by omega)]
  have e2 : gN (upd f S (nI j)) (s' ||| shw C T c T.length) = _ := gN_upd hj2
  rw [e1] at h1 ⊢
  rw [e2]
  have := h s' hs' h1 h2 c hc hN hne
  by_cases e : s' ||| shw C T c T.length = S
  · rw [if_pos e]; rw [e] at this; omega
  · rw [if_neg e]; exact this
theorem upd_self {f : Nat → Int32} {S : Nat} : upd f S (f S) = f := by
  funext x
  show (if x = S then f S else f x) = f x
  by_cases e : x = S
  · rw [if_pos e, e]
  · rw [if_neg e]
theorem Y_msigns_in {s : Nat} (hF : okF F) (hS : okS F D0) (hg : okG F D0) (hr : rS F D0) (h0 : mrow0 F D0) (hT : ∀ x, x ∈ T → x < F.1 * F.2.1 ∧ opC D0 x) (hk : T.length ≤ 12) (h180 : arrL (D0 180) 0 (T.map (cm F))) (hs : s < 2 ^ T.length) {x2 : Option Value}
    (kk : ∀ f x5 x6 x7, tabV (famS F D0 T) (2 ^ T.length) 100000 f → f 0 = nI 0 → tabM F D0 T (s + 1) f → X y_Model_signs 212 [some (.ref 169), some (.int (nI T.length)), x2, some (.int (nI (2 ^ T.length - 1))), some (.int (nI s)), x5, x6, x7] [] (hp F (stA D0 192 f) J G) Q) :
    ∀ d i f x6 x7, i + d = 576 → tabV (famS F D0 T) (2 ^ T.length) 100000 f → f 0 = nI 0 → tabM F D0 T s f → (gN f s < 100000 → s < 2 ^ T.length - 1 → ∀ c, c < F.1 * F.2.1 → cm F c < i → hasN F D0 c → ¬ s ||| shw D0 T c T.length = s → gN f (s ||| shw D0 T c T.length) ≤ gN f s + 1) → X y_Model_signs 97 [some (.ref 169), some (.int (nI T.length)), x2, some (.int (nI (2 ^ T.length - 1))), some (.int (nI s)), some (.int (nI i)), x6, x7] [] (hp F (stA D0 192 f) J G) Q := by
  have hn := hF.n
  have h4 : 2 ^ T.length ≤ 4096 := Nat.pow_le_pow_right (n := 2) (by omega) hk
  have hp0 : 0 < 2 ^ T.length := Nat.two_pow_pos _
  have out : ∀ f x5 x6 x7, tabV (famS F D0 T) (2 ^ T.length) 100000 f → f 0 = nI 0 → tabM F D0 T s f → (gN f s < 100000 → s < 2 ^ T.length - 1 → ∀ c, c < F.1 * F.2.1 → hasN F D0 c → ¬ s ||| shw D0 T c T.length = s → gN f (s ||| shw D0 T c T.length) ≤ gN f s + 1) → X y_Model_signs 212 [some (.ref 169), some (.int (nI T.length)), x2, some (.int (nI (2 ^ T.length - 1))), some (.int (nI s)), x5, x6, x7] [] (hp F (stA D0 192 f) J G) Q := by
    intro f x5 x6 x7 hV hf0 hM hI
    refine kk f x5 x6 x7 hV hf0 (fun s' hs' h1 h2 c hc hN hne => ?_)
    by_cases es : s' = s
    · subst es; exact hI h1 h2 c hc hN hne
    · exact hM s' (by omega) h1 h2 c hc hN hne
  intro d
  induction d with
  | zero =>
    intro i f x6 x7 hd hV hf0 hM hI
    have : i = 576 := by omega
    subst this
    repeat (refine X_n rfl rfl rfl ?_)
    refine X_bt rfl rfl rfl (Int32.le_refl _) ?_
    exact out f _ _ _ hV hf0 hM (fun h1 h2 c hc hN hne => hI h1 h2 c hc (cm_in hF hc).2.2.2 hN hne)
  | succ d ih =>
    intro i f x6 x7 hd hV hf0 hM hI
    obtain ⟨fs1, fs2, -⟩ := hV.g (by omega) hs
    have e192 : ∀ S, stA D0 192 f 192 S = f S := fun S => by rw [stA_k]
    repeat (refine X_n rfl rfl rfl ?_)
    refine X_bf rfl rfl rfl (show ¬ nI 576 ≤ nI i from nI_ge (by omega) (by omega)) ?_
    repeat (refine X_n rfl rfl rfl ?_)
    refine X_la (k := s) rfl rfl rfl hF (show s < 4096 by omega) ?_
    refine X_top (w := nI (gN f s)) ((e192 s).trans fs1) ?_
    repeat (refine X_n rfl rfl rfl ?_)
    refine X_b rfl rfl rfl (fun q1 => ?_) (fun q1 => ?_)
    · have q1 : 100000 ≤ gN f s := (nI_leI (a := 100000) (by omega) (by omega)).mp q1
      exact out f _ _ _ hV hf0 hM (fun h1 => by omega)
    have q1 : gN f s < 100000 := Classical.byContradiction fun h => q1 (nI_le (a := 100000) (by omega) (by omega))
    repeat (refine X_n rfl rfl rfl ?_)
    refine X_b rfl rfl rfl (fun q2 => ?_) (fun q2 => ?_)
    · have q2 : 2 ^ T.length - 1 ≤ s := (nI_leI (by omega) (by omega)).mp q2
      exact out f _ _ _ hV hf0 hM (fun _ h2 => by omega)
    have q2 : s < 2 ^ T.length - 1 := Classical.byContradiction fun h => q2 (nI_le (by omega) (by omega))
    -- the set that the cell shows: z
    have tail : ∀ z x6 x7, z < 2 ^ T.length → (famS F D0 T z ∨ z = 0) → (∀ c, c < F.1 * F.2.1 → cm F c = i → hasN F D0 c → shw D0 T c T.length = z) → X y_Model_signs 145 [some (.ref 169), some (.int (nI T.length)), x2, some (.int (nI (2 ^ T.length - 1))), some (.int (nI s)), some (.int (nI i)), x6, x7] [.int (nI z)] (hp F (stA D0 192 f) J G) Q := by
      intro z x6 x7 hz hfz hzc
      have hto : s ||| z < 2 ^ T.length := Nat.or_lt_two_pow hs hz
      obtain ⟨ft1, ft2, -⟩ := hV.g (by omega) hto
      -- the table as it is
      have keep : (¬ s ||| z = s → gN f (s ||| z) ≤ gN f s + 1) → X y_Model_signs 198 [some (.ref 169), some (.int (nI T.length)), x2, some (.int (nI (2 ^ T.length - 1))), some (.int (nI s)), some (.int (nI i)), some (.int (nI z)), some (.int (nI (s ||| z)))] [.int (nI (s ||| z)), .ref 192] (hp F (stA D0 192 f) J G) Q := by
        intro hle
        repeat (refine X_n rfl rfl rfl ?_)
        refine X_la (k := s ||| z) rfl rfl rfl hF (show s ||| z < 4096 by omega) ?_
        rw [e192]
        refine X_sa (k := s ||| z) rfl rfl rfl hF (show s ||| z < 4096 by omega) ?_
        rw [st_stA, upd_self]
        iterate 2 (refine X_n rfl rfl rfl ?_)
        rw [nI_1']
        refine ih (i + 1) f _ _ (by omega) hV hf0 hM (fun h1 h2 c hc hci hN hne => ?_)
        by_cases ec : cm F c = i
        · have := hzc c hc ec hN
          rw [this] at hne ⊢
          exact hle hne
        · exact hI h1 h2 c hc (by omega) hN hne
      iterate 3 (refine X_n rfl rfl rfl ?_)
      refine X_n rfl rfl rfl ?_
      refine X_top (w := nI (s ||| z)) (nI_or _ _) ?_
      repeat (refine X_n rfl rfl rfl ?_)
      by_cases q3 : s ||| z = s
      · refine X_bt rfl rfl rfl (show nI (s ||| z) = nI s by rw [q3]) ?_
        exact keep (fun h => absurd q3 h)
      · refine X_bf rfl rfl rfl (show ¬ nI (s ||| z) = nI s from fun h => q3 ((nI_eq (by omega) (by omega)).mp h)) ?_
        have hgt : s < s ||| z := Nat.lt_of_le_of_ne Nat.left_le_or (Ne.symm q3)
        have hfam : famS F D0 T z := hfz.resolve_right (fun h => q3 (by rw [h, Nat.or_zero]))
        repeat (refine X_n rfl rfl rfl ?_)
        refine X_la (k := s) rfl rfl rfl hF (show s < 4096 by omega) ?_
        refine X_top (w := nI (gN f s)) ((e192 s).trans fs1) ?_
        iterate 2 (refine X_n rfl rfl rfl ?_)
        refine X_top (w := nI (gN f s + 1)) (nI_1' _) ?_
        repeat (refine X_n rfl rfl rfl ?_)
        refine X_la (k := s ||| z) rfl rfl rfl hF (show s ||| z < 4096 by omega) ?_
        refine X_top (w := nI (gN f (s ||| z))) ((e192 _).trans ft1) ?_
        refine X_b rfl rfl rfl (fun q4 => ?_) (fun q4 => ?_)
        · have q4 : gN f (s ||| z) ≤ gN f s + 1 := (nI_leI (by omega) (by omega)).mp q4
          exact keep (fun _ => q4)
        · have q4 : gN f s + 1 < gN f (s ||| z) := Classical.byContradiction fun h => q4 (nI_le (by omega) (by omega))
          repeat (refine X_n rfl rfl rfl ?_)
          refine X_la (k := s) rfl rfl rfl hF (show s < 4096 by omega) ?_
          refine X_top (w := nI (gN f s)) ((e192 s).trans fs1) ?_
          iterate 2 (refine X_n rfl rfl rfl ?_)
          refine X_top (w := nI (gN f s + 1)) (nI_1' _) ?_
          iterate 1 (refine X_n rfl rfl rfl ?_)
          refine X_sa (k := s ||| z) rfl rfl rfl hF (show s ||| z < 4096 by omega) ?_
          rw [st_stA]
          iterate 2 (refine X_n rfl rfl rfl ?_)
          rw [nI_1']
          have eg : gN (upd f (s ||| z) (nI (gN f s + 1))) s = gN f s := by rw [gN_upd (by omega), if_neg (by omega)]
          refine ih (i + 1) _ _ _ (by omega) (tabV_upd hV (by omega) hs hfam (by omega)) ((if_neg (by omega)).trans hf0) (tabM_upd hM hgt (by omega) (by omega)) (fun h1 h2 c hc hci hN hne => ?_)
          rw [eg] at h1 ⊢
          rw [gN_upd (by omega)]
          by_cases ez : s ||| shw D0 T c T.length = s ||| z
          · rw [if_pos ez]; omega
          · rw [if_neg ez]
            refine hI h1 h2 c hc ?_ hN hne
            have : ¬ cm F c = i := fun ec => ez (by rw [hzc c hc ec hN])
            omega
    repeat (refine X_n rfl rfl rfl ?_)
    refine X_cd rfl rfl rfl rfl (Y_numberOf (w := 8) (c := i) (by omega) (by omega)) ?_
    refine X_top (w := D0 179 (576 * 8 + i)) (by rw [stA_f (by omega)]) ?_
    refine X_b rfl rfl rfl (fun q3 => ?_) (fun q3 => ?_)
    · -- a cell with a number
      have hin : inS F i := Classical.byContradiction fun ho => by
        rw [h0.2 i (by omega) ho] at q3
        exact absurd (show (0 : Int32) ≤ -1 from q3) (by decide)
      have hc := mc_lt hF hin
      have ecm := cm_mc hF hin
      generalize mc F i = c at *
      subst ecm
      rw [h0.1 c hc] at q3
      have hN : hasN F D0 c := (nu_sg hF hS (by omega) hc).2.mp q3
      have hco := nu_op hF hS (by omega) hc hN
      have cS : cfg D0 (stA D0 192 f) := fun k hk => stA_f (by omega)
      have rS' : rS F (stA D0 192 f) := by
        unfold rS at *
        rw [stA_f (by omega), stA_f (by omega), stA_f (by omega), stA_f (by omega), stA_f (by omega), stA_f (by omega)]
        exact hr
      have hop' : ∀ x, opC (stA D0 192 f) x = opC D0 x := fun x => by unfold opC; rw [stA_f (by omega)]
      have hsw : shw (stA D0 192 f) T c T.length = shw D0 T c T.length := by unfold shw near; simp only [nbC_cfg cS]
      repeat (refine X_n rfl rfl rfl ?_)
      refine X_cd rfl rfl rfl rfl (Y_shownBy (T := T) hF (okS_cfg cS hS) (okG_cfg cS hg) rS' hc (by rw [hop']; exact hco) (fun x hx => by rw [hop']; exact hT x hx) hk (by rw [stA_f (by omega)]; exact h180)) ?_
      rw [hsw]
      refine tail _ _ _ (shw_lt hk).1 (Or.inl ⟨c, hc, rfl⟩) (fun c' hc' ec' _ => ?_)
      rw [cm_inj hF hc' hc ec']
    · -- a cell without
      iterate 2 (refine X_n rfl rfl rfl ?_)
      refine tail 0 _ _ hp0 (Or.inr rfl) (fun c hc ec hN => ?_)
      exfalso
      rw [← ec, h0.1 c hc] at q3
      exact q3 ((nu_sg hF hS (by omega) hc).2.mpr hN)
end
