/-! the reference's signs -/
def nearM (F : Fx) (C : Ct) (c x : Nat) : Prop := c = x ∨ ∃ w b, w < 4 ∧ nbC C c w = some b ∧ (b = x ∨ ∃ v, v < 4 ∧ bsN F (cm F b) v = some (cm F x))
section
variable {F : Fx} {C D D0 : Ct} {J : Nat → Int64} {G : Ex} {Q : mE → mH → Prop} {t k e c x b : Nat} {T : List Nat}
theorem bs_nb (hF : okF F) (hg : okG F C) (hr : rS F C) {w : Nat} (hb : b < F.1 * F.2.1) (hx : x < F.1 * F.2.1) (hw : w < 4) (ho : opC C x) : bsN F (cm F b) w = some (cm F x) ↔ nbC C b w = some x := by
  have hiso := nb_iso hF hg hr hb hw
  rw [nbM_bs] at hiso
  have hwall := (hr.1 x hx).1
  rw [if_neg ho] at hwall
  constructor
  · intro h
    rw [h] at hiso
    dsimp only at hiso
    rw [hwall, if_pos rfl] at hiso
    rw [hiso]
    show some (mc F (cm F x)) = some x
    rw [mc_cm hF hx]
  · intro h
    rw [h] at hiso
    cases hbs : bsN F (cm F b) w with
    | none => rw [hbs] at hiso; cases hiso
    | some m =>
      rw [hbs] at hiso
      dsimp only at hiso
      split at hiso
      · have : x = mc F m := by simpa using hiso
        rw [this, cm_mc hF (bsN_in hF hbs).1]
      · cases hiso
theorem near_iff (hF : okF F) (hS : okS F C) (hg : okG F C) (hr : rS F C) (hc : c < F.1 * F.2.1) (hx : x < F.1 * F.2.1) (hco : opC C c) (hxo : opC C x) : nearM F C c x ↔ near C c x := by
  constructor
  · rintro (e | ⟨w, b, hw, h, h2⟩)
    · exact Or.inl e
    · obtain ⟨hb, hbo⟩ := nbC_in hF hS hc hw h
      obtain ⟨w1, hw1, h1⟩ := hS.sym hF c w b hco hc hw h
      rcases h2 with e | ⟨v, hv, h2⟩
      · subst e; exact Or.inr (Or.inl ⟨w1, hw1, h1⟩)
      · have h2 := (bs_nb hF hg hr hb hx hv hxo).mp h2
        obtain ⟨w2, hw2, h3⟩ := hS.sym hF b v x hbo hb hv h2
        exact Or.inr (Or.inr ⟨w2, b, hw2, h3, w1, hw1, h1⟩)
  · rintro (e | ⟨w, hw, h⟩ | ⟨w, b, hw, h, w', hw', h'⟩)
    · exact Or.inl e
    · obtain ⟨w1, hw1, h1⟩ := hS.sym hF x w c hxo hx hw h
      exact Or.inr ⟨w1, x, hw1, h1, Or.inl rfl⟩
    · obtain ⟨hb, hbo⟩ := nbC_in hF hS hx hw h
      obtain ⟨w1, hw1, h1⟩ := hS.sym hF x w b hxo hx hw h
      obtain ⟨w2, hw2, h2⟩ := hS.sym hF b w' c hbo hb hw' h'
      exact Or.inr ⟨w2, b, hw2, h2, Or.inr ⟨w1, hw1, (bs_nb hF hg hr hb hx hw1 hxo).mpr h1⟩⟩
/-- the inner loop of isNear -/
theorem Y_isNear_in (hF : okF F) (hb : b < F.1 * F.2.1) (hx : x < F.1 * F.2.1) {L3 : Nat}
    (kt : (b = x ∨ ∃ v, v < 4 ∧ bsN F (cm F b) v = some (cm F x)) → Q (.inl (some (.int 1))) (hp F C J G))
    (kf : ¬ (b = x ∨ ∃ v, v < 4 ∧ bsN F (cm F b) v = some (cm F x)) → ∀ x5 x6, X y_Model_isNear 99 [some (.ref 169), some (.int (nI (cm F c))), some (.int (nI (cm F x))), some (.int (nI L3)), some (.int (nI (cm F b))), x5, x6] [] (hp F C J G) Q) :
    ∀ d i v5, i + d = 4 → (v5 = 0 ∨ v5 = 1) → (v5 = 1 ↔ (b = x ∨ ∃ v, v < i ∧ bsN F (cm F b) v = some (cm F x))) → X y_Model_isNear 56 [some (.ref 169), some (.int (nI (cm F c))), some (.int (nI (cm F x))), some (.int (nI L3)), some (.int (nI (cm F b))), some (.int v5), some (.int (nI i))] [] (hp F C J G) Q := by
  have hb5 := (cm_in hF hb).2.2.2
  have hx5 := (cm_in hF hx).2.2.2
  intro d
  induction d with
  | zero =>
    intro i v5 hd hv h
    have : i = 4 := by omega
    subst this
    repeat (refine X_n rfl rfl rfl ?_)
    refine X_bt rfl rfl rfl (Int32.le_refl _) ?_
    repeat (refine X_n rfl rfl rfl ?_)
    rcases hv with ev | ev
    · subst ev
      refine X_bt rfl rfl rfl rfl ?_
      exact kf (fun g => absurd (h.mpr g) (by decide)) _ _
    · subst ev
      refine X_bf rfl rfl rfl (show ¬ (1 : Int32) = 0 by decide) ?_
      repeat (refine X_n rfl rfl rfl ?_)
      exact X_r rfl rfl rfl rfl (kt (h.mp rfl))
  | succ d ih =>
    intro i v5 hd hv h
    repeat (refine X_n rfl rfl rfl ?_)
    refine X_bf rfl rfl rfl (show ¬ nI 4 ≤ nI i from nI_ge (by omega) (by omega)) ?_
    repeat (refine X_n rfl rfl rfl ?_)
    rcases hv with ev | ev
    · subst ev
      refine X_bf rfl rfl rfl (fun h => h rfl) ?_
      repeat (refine X_n rfl rfl rfl ?_)
      refine X_cd rfl rfl rfl rfl (Y_beside (c := cm F b) (w := i) (by omega) (by omega)) ?_
      rw [bsI_eq hF hb5 (show i < 4 by omega)]
      repeat (refine X_n rfl rfl rfl ?_)
      by_cases q : bsN F (cm F b) i = some (cm F x)
      · rw [q]
        dsimp only
        refine X_bf rfl rfl rfl (fun h => h rfl) ?_
        iterate 5 (refine X_n rfl rfl rfl ?_)
        rw [nI_1']
        exact ih (i + 1) 1 (by omega) (Or.inr rfl) ⟨fun _ => Or.inr ⟨i, by omega, q⟩, fun _ => rfl⟩
      · refine X_bt rfl rfl rfl ?_ ?_
        · show ¬ (match bsN F (cm F b) i with | some d => nI d | none => -1) = nI (cm F x)
          cases hbs : bsN F (cm F b) i with
          | none => exact fun g => absurd g.symm (nI_nm1 (by omega))
          | some m =>
            have := (bsN_in hF hbs).2
            exact fun g => q (by rw [hbs, (nI_eq (by omega) (by omega)).mp g])
        · iterate 4 (refine X_n rfl rfl rfl ?_)
          rw [nI_1']
          refine ih (i + 1) 0 (by omega) (Or.inl rfl) ⟨fun g => absurd g (by decide), fun g => ?_⟩
          rcases g with g | ⟨v, g1, g2⟩
          · exact h.mpr (Or.inl g)
          · by_cases ev : v = i
            · subst ev; exact absurd g2 q
            · exact h.mpr (Or.inr ⟨v, by omega, g2⟩)
    · subst ev
      refine X_bt rfl rfl rfl (show ¬ (1 : Int32) = 0 by decide) ?_
      iterate 5 (refine X_n rfl rfl rfl ?_)
      rw [nI_1']
      refine ih (i + 1) 1 (by omega) (Or.inr rfl) ⟨fun _ => ?_, fun _ => rfl⟩
      rcases h.mp rfl with g | ⟨v, g1, g2⟩
      · exact Or.inl g
      · exact Or.inr ⟨v, by omega, g2⟩
theorem Y_isNear_loop (hF : okF F) (hS : okS F C) (hg : okG F C) (hr : rS F C) (hc : c < F.1 * F.2.1) (hx : x < F.1 * F.2.1) (hne : ¬ c = x)
    (kt : nearM F C c x → Q (.inl (some (.int 1))) (hp F C J G)) (kf : ¬ nearM F C c x → Q (.inl (some (.int 0))) (hp F C J G)) :
    ∀ d i x4 x5 x6, i + d = 4 → (∀ w b, w < i → nbC C c w = some b → ¬ (b = x ∨ ∃ v, v < 4 ∧ bsN F (cm F b) v = some (cm F x))) → X y_Model_isNear 9 [some (.ref 169), some (.int (nI (cm F c))), some (.int (nI (cm F x))), some (.int (nI i)), x4, x5, x6] [] (hp F C J G) Q := by
  have hc5 := (cm_in hF hc).2.2.2
  have hx5 := (cm_in hF hx).2.2.2
  intro d
  induction d with
  | zero =>
    intro i x4 x5 x6 hd h
    have : i = 4 := by omega
    subst this
    repeat (refine X_n rfl rfl rfl ?_)
    refine X_bt rfl rfl rfl (Int32.le_refl _) ?_
    repeat (refine X_n rfl rfl rfl ?_)
    refine X_r rfl rfl rfl rfl (kf (fun g => ?_))
    rcases g with g | ⟨w, b, hw, h1, h2⟩
    · exact hne g
    · exact h w b hw h1 h2
  | succ d ih =>
    intro i x4 x5 x6 hd h
    have nx : (∀ b, nbC C c i = some b → ¬ (b = x ∨ ∃ v, v < 4 ∧ bsN F (cm F b) v = some (cm F x))) → ∀ x4 x5 x6, X y_Model_isNear 99 [some (.ref 169), some (.int (nI (cm F c))), some (.int (nI (cm F x))), some (.int (nI i)), x4, x5, x6] [] (hp F C J G) Q := by
      intro hno x4 x5 x6
      iterate 2 (refine X_n rfl rfl rfl ?_)
      rw [nI_1']
      refine ih (i + 1) x4 x5 x6 (by omega) (fun w b hw h1 => ?_)
      by_cases ew : w = i
      · subst ew; exact hno b h1
      · exact h w b (by omega) h1
    have hiso := nb_iso hF hg hr hc (show i < 4 by omega)
    rw [nbM_bs] at hiso
    repeat (refine X_n rfl rfl rfl ?_)
    refine X_bf rfl rfl rfl (show ¬ nI 4 ≤ nI i from nI_ge (by omega) (by omega)) ?_
    repeat (refine X_n rfl rfl rfl ?_)
    refine X_cd rfl rfl rfl rfl (Y_beside (c := cm F c) (w := i) (by omega) (by omega)) ?_
    rw [bsI_eq hF hc5 (show i < 4 by omega)]
    cases hbs : bsN F (cm F c) i with
    | none =>
      rw [hbs] at hiso
      dsimp only
      repeat (refine X_n rfl rfl rfl ?_)
      refine X_bt rfl rfl rfl (show (-1 : Int32) < 0 by decide) ?_
      exact nx (fun b hb => by rw [hiso] at hb; cases hb) _ _ _
    | some m =>
      rw [hbs] at hiso
      dsimp only at hiso ⊢
      obtain ⟨hms, hm5⟩ := bsN_in hF hbs
      have hb := mc_lt hF hms
      have ecm := cm_mc hF hms
      generalize mc F m = b at *
      subst ecm
      have hwall := (hr.1 b hb).1
      rw [hwall] at hiso
      repeat (refine X_n rfl rfl rfl ?_)
      refine X_bf rfl rfl rfl (nI_pos (by omega)) ?_
      repeat (refine X_n rfl rfl rfl ?_)
      refine X_lb rfl rfl rfl hF (show cm F b < 576 from hm5) ?_
      rw [hwall]
      by_cases w1 : C 2 b = 1
      · rw [if_pos w1, if_neg (by decide)] at hiso
        rw [if_pos w1]
        refine X_bf rfl rfl rfl (show ¬ (1 : Int32) = 0 by decide) ?_
        iterate 1 (refine X_n rfl rfl rfl ?_)
        exact nx (fun b hb => by rw [hiso] at hb; cases hb) _ _ _
      · rw [if_neg w1, if_pos rfl] at hiso
        have hnb : nbC C c i = some b := by rw [hiso]; show some (mc F (cm F b)) = some b; rw [mc_cm hF hb]
        rw [if_neg w1]
        refine X_bt rfl rfl rfl rfl ?_
        repeat (refine X_n rfl rfl rfl ?_)
        have go := Y_isNear_in (F := F) (C := C) (c := c) (b := b) (x := x) (J := J) (G := G) (Q := Q) (L3 := i) hF hb hx (fun g => kt (Or.inr ⟨i, b, by omega, hnb, g⟩)) (fun g x5 x6 => nx (fun b' hb' => by rw [hnb] at hb'; cases hb'; exact g) _ _ _) 4 0
        by_cases q : b = x
        · subst q
          refine X_bf rfl rfl rfl (fun h => h rfl) ?_
          iterate 5 (refine X_n rfl rfl rfl ?_)
          exact go 1 (by omega) (Or.inr rfl) ⟨fun _ => Or.inl rfl, fun _ => rfl⟩
        · refine X_bt rfl rfl rfl (show ¬ nI (cm F b) = nI (cm F x) from fun g => q (cm_inj hF hb hx ((nI_eq (by omega) (by omega)).mp g))) ?_
          iterate 4 (refine X_n rfl rfl rfl ?_)
          exact go 0 (by omega) (Or.inl rfl) ⟨fun g => absurd g (by decide), fun g => by
            rcases g with g | ⟨v, g1, -⟩
            · exact absurd g q
            · omega⟩
theorem Y_isNear (hF : okF F) (hS : okS F C) (hg : okG F C) (hr : rS F C) (hc : c < F.1 * F.2.1) (hx : x < F.1 * F.2.1)
    (kt : nearM F C c x → Q (.inl (some (.int 1))) (hp F C J G)) (kf : ¬ nearM F C c x → Q (.inl (some (.int 0))) (hp F C J G)) : Y y_Model_isNear [.ref 169, .int (nI (cm F c)), .int (nI (cm F x))] (hp F C J G) Q := by
  have hc5 := (cm_in hF hc).2.2.2
  have hx5 := (cm_in hF hx).2.2.2
  unfold Y
  repeat (refine X_n rfl rfl rfl ?_)
  by_cases e : c = x
  · subst e
    refine X_bf rfl rfl rfl (fun h => h rfl) ?_
    repeat (refine X_n rfl rfl rfl ?_)
    exact X_r rfl rfl rfl rfl (kt (Or.inl rfl))
  · refine X_bt rfl rfl rfl (show ¬ nI (cm F c) = nI (cm F x) from fun g => e (cm_inj hF hc hx ((nI_eq (by omega) (by omega)).mp g))) ?_
    iterate 2 (refine X_n rfl rfl rfl ?_)
    exact Y_isNear_loop hF hS hg hr hc hx e kt kf 4 0 _ _ _ (by omega) (fun w b hw => by omega)
theorem arrL_map {f : Nat → Int32} {g : Nat → Nat} : ∀ {l : List Nat} {i : Nat}, arrL f 0 (l.map g) → i < l.length → f i = nI (g (l.getD i 0)) := by
  intro l i h hi
  have := arrL_at h (by rw [List.length_map]; exact hi : i < (l.map g).length)
  rw [Nat.zero_add] at this
  rw [this]
  congr 1
  simp [List.getD_eq_getElem?_getD, List.getElem?_map, List.getElem?_eq_getElem hi]
theorem Y_shownBy_loop (hF : okF F) (hS : okS F C) (hg : okG F C) (hr : rS F C) (hc : c < F.1 * F.2.1) (hT : ∀ x, x ∈ T → x < F.1 * F.2.1) (hk : T.length ≤ 12) (h180 : arrL (C 180) 0 (T.map (cm F)))
    (kk : Q (.inl (some (.int (nI (msk (fun t => nearM F C c (T.getD t 0)) T.length))))) (hp F C J G)) :
    ∀ d i, i + d = T.length → X y_Model_shownBy 5 [some (.ref 169), some (.int (nI (cm F c))), some (.int (nI T.length)), some (.int (nI (msk (fun t => nearM F C c (T.getD t 0)) i))), some (.int (nI i))] [] (hp F C J G) Q := by
  intro d
  induction d with
  | zero =>
    intro i hd
    have : i = T.length := by omega
    subst this
    repeat (refine X_n rfl rfl rfl ?_)
    refine X_bt rfl rfl rfl (Int32.le_refl _) ?_
    repeat (refine X_n rfl rfl rfl ?_)
    exact X_r rfl rfl rfl rfl kk
  | succ d ih =>
    intro i hd
    have hi : i < T.length := by omega
    have hx := hT _ (getD_mem hi)
    have ih := ih (i + 1) (by omega)
    rw [msk] at ih
    repeat (refine X_n rfl rfl rfl ?_)
    refine X_bf rfl rfl rfl (show ¬ nI T.length ≤ nI i from nI_ge hi (by omega)) ?_
    repeat (refine X_n rfl rfl rfl ?_)
    refine X_la rfl rfl rfl hF (show i < 576 by omega) ?_
    rw [arrL_map h180 hi]
    refine X_k rfl rfl rfl rfl (Y_isNear hF hS hg hr hc hx (fun q => ?_) (fun q => ?_))
    · rw [m_if_t q] at ih
      dsimp only
      refine X_bf rfl rfl rfl (show ¬ (1 : Int32) = 0 by decide) ?_
      iterate 3 (refine X_n rfl rfl rfl ?_)
      refine X_top (w := nI (2 ^ i)) (shl1 i (by omega)) ?_
      iterate 2 (refine X_n rfl rfl rfl ?_)
      refine X_top (w := nI (2 ^ i ||| msk (fun t => nearM F C c (T.getD t 0)) i)) ?_ ?_
      · rw [nI_or, Nat.or_comm]
      iterate 3 (refine X_n rfl rfl rfl ?_)
      rw [nI_1']
      exact ih
    · rw [m_if_f q] at ih
      dsimp only
      refine X_bt rfl rfl rfl rfl ?_
      iterate 2 (refine X_n rfl rfl rfl ?_)
      refine X_top (w := nI (0 ||| msk (fun t => nearM F C c (T.getD t 0)) i)) ?_ ?_
      · show _ ||| nI 0 = _
        rw [nI_or, Nat.or_comm]
      iterate 3 (refine X_n rfl rfl rfl ?_)
      rw [nI_1']
      exact ih
theorem msk_congr {p q : Nat → Prop} : ∀ {k : Nat}, (∀ t, t < k → (p t ↔ q t)) → msk p k = msk q k := by
  intro k
  induction k with
  | zero => intro _; rfl
  | succ k ih =>
    intro h
    rw [msk, msk, ih (fun t ht => h t (by omega))]
    by_cases w : p k
    · rw [m_if_t w, m_if_t ((h k (by omega)).mp w)]
    · rw [m_if_f w, m_if_f (fun g => w ((h k (by omega)).mpr g))]
theorem Y_shownBy (hF : okF F) (hS : okS F C) (hg : okG F C) (hr : rS F C) (hc : c < F.1 * F.2.1) (hco : opC C c) (hT : ∀ x, x ∈ T → x < F.1 * F.2.1 ∧ opC C x) (hk : T.length ≤ 12) (h180 : arrL (C 180) 0 (T.map (cm F))) :
    Yd y_Model_shownBy [.ref 169, .int (nI (cm F c)), .int (nI T.length)] (hp F C J G) (.inl (some (.int (nI (shw C T c T.length))))) (hp F C J G) := by
  refine Yd_of (fun Q kk => ?_)
  have e : shw C T c T.length = msk (fun t => nearM F C c (T.getD t 0)) T.length := msk_congr (fun t ht => by
    have hx := hT _ (getD_mem ht)
    exact (near_iff hF hS hg hr hc hx.1 hco hx.2).symm)
  rw [e] at kk
  unfold Y
  iterate 4 (refine X_n rfl rfl rfl ?_)
  exact Y_shownBy_loop hF hS hg hr hc (fun x hx => (hT x hx).1) hk h180 kk T.length 0 (by omega)
end
