/-! the class's signs: the least number of signs for each set of turns -/
def gN (f : Nat → Int32) (S : Nat) : Nat := (f S).toNatClampNeg
/-- the table: each number is that of a list of sets -/
def tabV (fam : Nat → Prop) (N B : Nat) (f : Nat → Int32) : Prop := ∀ S, S < N → ∃ j, j ≤ B ∧ f S = nI j ∧ (j < B → ∃ l : List Nat, l.length = j ∧ (∀ m, m ∈ l → fam m) ∧ orL l = S)
theorem tabV.g {fam : Nat → Prop} {N B : Nat} {f : Nat → Int32} (h : tabV fam N B f) (hB : B < 2 ^ 31) {S : Nat} (hS : S < N) : f S = nI (gN f S) ∧ gN f S ≤ B ∧ (gN f S < B → ∃ l : List Nat, l.length = gN f S ∧ (∀ m, m ∈ l → fam m) ∧ orL l = S) := by
  obtain ⟨j, h1, h2, h3⟩ := h S hS
  have : gN f S = j := by unfold gN; rw [h2, nI_clamp (by omega)]
  rw [this]
  exact ⟨h2, h1, h3⟩
theorem gN_upd {f : Nat → Int32} {S j S' : Nat} (hj : j < 2 ^ 31) : gN (upd f S (nI j)) S' = if S' = S then j else gN f S' := by
  unfold gN
  show (if S' = S then nI j else f S').toNatClampNeg = _
  by_cases e : S' = S
  · rw [if_pos e, if_pos e, nI_clamp hj]
  · rw [if_neg e, if_neg e]
/-- a set more -/
theorem tabV_upd {fam : Nat → Prop} {N B : Nat} {f : Nat → Int32} (h : tabV fam N B f) (hB : B < 2 ^ 31) {s m : Nat} (hs : s < N) (hm : fam m) (h1 : gN f s + 1 ≤ B) : tabV fam N B (upd f (s ||| m) (nI (gN f s + 1))) := by
  intro S hS
  by_cases e : S = s ||| m
  · subst e
    refine ⟨gN f s + 1, h1, if_pos rfl, fun _ => ?_⟩
    obtain ⟨-, -, g⟩ := h.g hB hs
    obtain ⟨l, l1, l2, l3⟩ := g (by omega)
    refine ⟨m :: l, by rw [List.length_cons, l1], fun x hx => ?_, by rw [orL, l3, Nat.or_comm]⟩
    rcases List.mem_cons.mp hx with e | hx
    · subst e; exact hm
    · exact l2 x hx
  · obtain ⟨j, a, b, c⟩ := h S hS
    exact ⟨j, a, (if_neg e).trans b, c⟩
section
variable {F : Fx} {C D D0 : Ct} {J : Nat → Int64} {G : Ex} {Q : mE → mH → Prop} {t k e c x b : Nat} {T : List Nat}
/-- what holds of the sets below s -/
def tabS (l : List Nat) (s : Nat) (f : Nat → Int32) : Prop := ∀ s', s' < s → ∀ m, m ∈ l → m.testBit (lowz s') = true → gN f s' + 1 ≤ 12 → gN f (s' ||| m) ≤ gN f s' + 1
theorem or_gt {s m t : Nat} (h1 : s.testBit t = false) (h2 : m.testBit t = true) : s < s ||| m := by
  refine Nat.lt_of_le_of_ne Nat.left_le_or (fun e => ?_)
  have : (s ||| m).testBit t = true := by rw [Nat.testBit_or, h2, Bool.or_true]
  rw [← e, h1] at this
  cases this
theorem tabS_upd {l : List Nat} {s S j : Nat} {f : Nat → Int32} (h : tabS l s f) (hS : s < S) (hj : j ≤ gN f S) (hj2 : j < 2 ^ 31) : tabS l s (upd f S (nI j)) := by
  intro s' hs' m hm hb h12
  have e1 : gN (upd f S (nI j)) s' = gN f s' := by rw [gN_upd hj2, if_neg (by omega)]
  have e2 : gN (upd f S (nI j)) (s' ||| m) = _ := gN_upd hj2
  rw [e1] at h12 ⊢
  rw [e2]
  have := h s' hs' m hm hb h12
  by_cases e : s' ||| m = S
  · rw [if_pos e]; rw [e] at this; omega
  · rw [if_neg e]; exact this
theorem and_pow {m t : Nat} : m &&& 2 ^ t = if m.testBit t = true then 2 ^ t else 0 := by
  refine Nat.eq_of_testBit_eq fun i => ?_
  rw [Nat.testBit_and, Nat.testBit_two_pow]
  by_cases e : t = i
  · subst e
    cases h : m.testBit t with
    | true => simp
    | false => simp
  · rw [decide_eq_false e, Bool.and_false]
    split
    · rw [Nat.testBit_two_pow, decide_eq_false e]
    · rw [Nat.zero_testBit]
theorem Y_leastOf_in {l : List Nat} {s first : Nat} (hF : okF F) (hk : k ≤ 12) (hl : l.length ≤ 156) (hlk : ∀ m, m ∈ l → m < 2 ^ k) (h167 : arrL (D0 167) 0 l) (hs : s < 2 ^ k - 1)
    (kk : ∀ f x7 x8, tabV (· ∈ l) 4096 13 f → f 0 = nI 0 → tabS l (s + 1) f → X y_Signposts_leastOf 119 [some (.ref 164), some (.int (nI k)), some (.int (nI l.length)), some (.int (nI (2 ^ k - 1))), some (.int (nI s)), some (.int (nI (2 ^ lowz s))), some (.int (nI (gN f s) + 1)), x7, x8] [] (hp F (stA D0 168 f) J G) Q) :
    ∀ d i f x8, i + d = l.length → tabV (· ∈ l) 4096 13 f → f 0 = nI 0 → tabS l s f → (∀ j, j < i → (l.getD j 0).testBit (lowz s) = true → gN f s + 1 ≤ 12 → gN f (s ||| l.getD j 0) ≤ gN f s + 1) → X y_Signposts_leastOf 56 [some (.ref 164), some (.int (nI k)), some (.int (nI l.length)), some (.int (nI (2 ^ k - 1))), some (.int (nI s)), some (.int (nI (2 ^ lowz s))), some (.int (nI (gN f s) + 1)), some (.int (nI i)), x8] [] (hp F (stA D0 168 f) J G) Q := by
  have h4 : 2 ^ k ≤ 4096 := Nat.pow_le_pow_right (n := 2) (by omega) hk
  obtain ⟨-, hz13, hzb, -⟩ := first_ok (show s < 4096 by omega)
  intro d
  induction d with
  | zero =>
    intro i f x8 hd hV h0 hS hI
    have : i = l.length := by omega
    subst this
    repeat (refine X_n rfl rfl rfl ?_)
    refine X_bt rfl rfl rfl (Int32.le_refl _) ?_
    refine kk f _ _ hV h0 (fun s' hs' m hm hb h12 => ?_)
    by_cases es : s' = s
    · subst es
      obtain ⟨j, hj, e⟩ := mem_getD hm
      have := hI j hj (by rw [e]; exact hb) h12
      rw [e] at this; exact this
    · exact hS s' (by omega) m hm hb h12
  | succ d ih =>
    intro i f x8 hd hV h0 hS hI
    have hi : i < l.length := by omega
    obtain ⟨fs1, fs2, fs3⟩ := hV.g (by omega) (show s < 4096 by omega)
    have e167 : stA D0 168 f 167 i = nI (l.getD i 0) := by
      rw [stA_f (by omega)]
      have := arrL_at h167 hi
      rw [Nat.zero_add] at this
      exact this
    have hml := getD_mem hi
    have hmk := hlk _ hml
    repeat (refine X_n rfl rfl rfl ?_)
    refine X_bf rfl rfl rfl (show ¬ nI l.length ≤ nI i from nI_ge hi (by omega)) ?_
    repeat (refine X_n rfl rfl rfl ?_)
    refine X_b rfl rfl rfl (fun q => ?_) (fun q => ?_)
    · have q : ¬ gN f s + 1 ≤ 12 := fun h => by
        rw [nI_1] at q
        exact i32_irr _ (Int32.lt_of_lt_of_le q (nI_le (b := 12) h (by omega)))
      refine kk f _ _ hV h0 (fun s' hs' m hm hb h12 => ?_)
      by_cases es : s' = s
      · subst es; exact absurd h12 q
      · exact hS s' (by omega) m hm hb h12
    have q : gN f s + 1 ≤ 12 := by
      rw [nI_1] at q
      refine Classical.byContradiction fun h => q (nI_lt (a := 12) (by omega) (by omega))
    have no : ¬ (l.getD i 0).testBit (lowz s) = true → ∀ x8, X y_Signposts_leastOf 113 [some (.ref 164), some (.int (nI k)), some (.int (nI l.length)), some (.int (nI (2 ^ k - 1))), some (.int (nI s)), some (.int (nI (2 ^ lowz s))), some (.int (nI (gN f s) + 1)), some (.int (nI i)), x8] [] (hp F (stA D0 168 f) J G) Q := by
      intro h x8
      iterate 2 (refine X_n rfl rfl rfl ?_)
      rw [nI_1']
      refine ih (i + 1) f x8 (by omega) hV h0 hS (fun j hj hb => ?_)
      by_cases ej : j = i
      · subst ej; exact absurd hb h
      · exact hI j (by omega) hb
    repeat (refine X_n rfl rfl rfl ?_)
    refine X_la rfl rfl rfl hF (show i < 156 by omega) ?_
    refine X_top e167 ?_
    iterate 2 (refine X_n rfl rfl rfl ?_)
    refine X_top (w := nI (l.getD i 0 &&& 2 ^ lowz s)) (nI_and _ _) ?_
    rw [and_pow]
    cases hbit : (l.getD i 0).testBit (lowz s) with
    | false =>
      rw [if_neg (by decide)]
      refine X_bt rfl rfl rfl rfl ?_
      exact no (by rw [hbit]; decide) _
    | true =>
      have hp2 : 0 < 2 ^ lowz s ∧ 2 ^ lowz s ≤ 4096 := ⟨Nat.two_pow_pos _, Nat.le_trans (Nat.pow_le_pow_right (n := 2) (by omega) (show lowz s ≤ 12 by omega)) (by decide)⟩
      have hne : ¬ nI (2 ^ lowz s) = 0 := fun h => by have := (nI_eq (b := 0) (by omega) (by omega)).mp h; omega
      rw [if_pos rfl]
      refine X_bf rfl rfl rfl hne ?_
      have hgt := or_gt hzb hbit
      have hmore : s ||| l.getD i 0 < 2 ^ k := Nat.or_lt_two_pow (by omega) hmk
      obtain ⟨gm1, gm2, gm3⟩ := hV.g (by omega) (show s ||| l.getD i 0 < 4096 by omega)
      repeat (refine X_n rfl rfl rfl ?_)
      refine X_la rfl rfl rfl hF (show i < 156 by omega) ?_
      refine X_top e167 ?_
      iterate 1 (refine X_n rfl rfl rfl ?_)
      refine X_top (w := nI (s ||| l.getD i 0)) (nI_or _ _) ?_
      repeat (refine X_n rfl rfl rfl ?_)
      refine X_la rfl rfl rfl hF (show s ||| l.getD i 0 < 4096 by omega) ?_
      refine X_top (w := f (s ||| l.getD i 0)) (by rw [stA_k]) ?_
      iterate 2 (refine X_n rfl rfl rfl ?_)
      refine X_sa (k := s ||| l.getD i 0) rfl rfl rfl hF (show s ||| l.getD i 0 < 4096 by omega) ?_
      rw [st_stA]
      have nx : ∀ f', f' = upd f (s ||| l.getD i 0) (nI (min (gN f (s ||| l.getD i 0)) (gN f s + 1))) → X y_Signposts_leastOf 113 [some (.ref 164), some (.int (nI k)), some (.int (nI l.length)), some (.int (nI (2 ^ k - 1))), some (.int (nI s)), some (.int (nI (2 ^ lowz s))), some (.int (nI (gN f s) + 1)), some (.int (nI i)), some (.int (nI (s ||| l.getD i 0)))] [] (hp F (stA D0 168 f') J G) Q := by
        intro f' hf'
        have hmin : min (gN f (s ||| l.getD i 0)) (gN f s + 1) < 2 ^ 31 := by omega
        have eg : gN f' s = gN f s := by rw [hf', gN_upd hmin, if_neg (by omega)]
        have hV' : tabV (· ∈ l) 4096 13 f' := by
          by_cases hle : gN f (s ||| l.getD i 0) ≤ gN f s + 1
          · rw [Nat.min_eq_left hle, ← gm1] at hf'
            have : f' = f := by
              rw [hf']; funext S
              show (if S = s ||| l.getD i 0 then f (s ||| l.getD i 0) else f S) = f S
              split
              · rename_i e; rw [e]
              · rfl
            rw [this]; exact hV
          · rw [Nat.min_eq_right (by omega)] at hf'
            rw [hf']
            exact tabV_upd hV (by omega) (by omega) hml (by omega)
        iterate 2 (refine X_n rfl rfl rfl ?_)
        rw [nI_1', ← eg]
        refine ih (i + 1) f' _ (by omega) hV' ?_ ?_ (fun j hj hb h12 => ?_)
        · rw [hf']; exact (if_neg (by omega)).trans h0
        · rw [hf']; exact tabS_upd hS hgt (by omega) hmin
        · rw [eg] at h12 ⊢
          rw [hf', gN_upd hmin]
          by_cases ej : s ||| l.getD j 0 = s ||| l.getD i 0
          · rw [if_pos ej]; omega
          · rw [if_neg ej]
            refine hI j ?_ hb h12
            rcases Nat.lt_or_ge j i with g | g
            · exact g
            · exact absurd (by rw [show j = i by omega]) ej
      refine nx _ ?_
      congr 1
      rw [gm1, show nI (gN f s) + 1 = nI (gN f s + 1) from nI_1 _]
      by_cases hle : gN f (s ||| l.getD i 0) ≤ gN f s + 1
      · rw [Nat.min_eq_left hle, if_neg (nI_nlt hle (by omega))]
      · rw [Nat.min_eq_right (by omega), if_pos (nI_lt (by omega) (by omega))]
end
