/-! ways, walk, turns -/
/-- those below i that have p, in their order -/
noncomputable def lst (p : Nat → Prop) : Nat → List Nat
  | 0 => []
  | i + 1 => m_if (p i) (lst p i ++ [i]) (lst p i)
theorem lst_t {p : Nat → Prop} {i : Nat} (h : p i) : lst p (i + 1) = lst p i ++ [i] := m_if_t h
theorem lst_f {p : Nat → Prop} {i : Nat} (h : ¬ p i) : lst p (i + 1) = lst p i := m_if_f h
theorem lst_mem {p : Nat → Prop} : ∀ {i x : Nat}, x ∈ lst p i ↔ x < i ∧ p x := by
  intro i
  induction i with
  | zero => intro x; exact ⟨fun h => (by cases h), fun h => by omega⟩
  | succ i ih =>
    intro x
    by_cases h : p i
    · rw [lst_t h, List.mem_append, ih, List.mem_singleton]
      constructor
      · rintro (h1 | h1)
        · exact ⟨by omega, h1.2⟩
        · subst h1; exact ⟨by omega, h⟩
      · rintro ⟨h1, h2⟩
        by_cases e : x = i
        · exact Or.inr e
        · exact Or.inl ⟨by omega, h2⟩
    · rw [lst_f h, ih]
      constructor
      · exact fun h1 => ⟨by omega, h1.2⟩
      · rintro ⟨h1, h2⟩
        refine ⟨?_, h2⟩
        by_cases e : x = i
        · subst e; exact absurd h2 h
        · omega
theorem lst_pw {p : Nat → Prop} : ∀ {i : Nat}, (lst p i).Pairwise (· < ·) := by
  intro i
  induction i with
  | zero => exact List.Pairwise.nil
  | succ i ih =>
    by_cases h : p i
    · rw [lst_t h, List.pairwise_append]
      refine ⟨ih, List.pairwise_singleton _ _, fun a ha b hb => ?_⟩
      rw [List.mem_singleton] at hb
      subst hb
      exact (lst_mem.mp ha).1
    · rw [lst_f h]; exact ih
theorem lst_len {p : Nat → Prop} : ∀ {i : Nat}, (lst p i).length ≤ i := by
  intro i
  induction i with
  | zero => exact Nat.le_refl 0
  | succ i ih =>
    by_cases h : p i
    · rw [lst_t h, List.length_append, List.length_singleton]; omega
    · rw [lst_f h]; omega
theorem lt_uniq : ∀ (l1 l2 : List Nat), l1.Pairwise (· < ·) → l2.Pairwise (· < ·) → (∀ p, p ∈ l1 ↔ p ∈ l2) → l1 = l2 := by
  intro l1
  induction l1 with
  | nil =>
    intro l2 _ _ h
    cases l2 with
    | nil => rfl
    | cons b t2 => exact absurd ((h b).mpr (List.mem_cons_self ..)) (by simp)
  | cons a t1 ih =>
    intro l2 h1 h2 h
    cases l2 with
    | nil => exact absurd ((h a).mp (List.mem_cons_self ..)) (by simp)
    | cons b t2 =>
      obtain ⟨a1, a2⟩ := List.pairwise_cons.mp h1
      obtain ⟨b1, b2⟩ := List.pairwise_cons.mp h2
      have hab : a = b := by
        rcases List.mem_cons.mp ((h a).mp (List.mem_cons_self ..)) with e | m1
        · exact e
        rcases List.mem_cons.mp ((h b).mpr (List.mem_cons_self ..)) with e | m2
        · exact e.symm
        have := b1 a m1
        have := a1 b m2
        omega
      subst hab
      have n1 : a ∉ t1 := fun m => absurd (a1 a m) (by omega)
      have n2 : a ∉ t2 := fun m => absurd (b1 a m) (by omega)
      rw [ih t2 a2 b2 (fun p => ⟨fun m => by
        rcases List.mem_cons.mp ((h p).mp (List.mem_cons_of_mem _ m)) with e | m'
        · subst e; exact absurd m n1
        · exact m', fun m => by
        rcases List.mem_cons.mp ((h p).mpr (List.mem_cons_of_mem _ m)) with e | m'
        · subst e; exact absurd m n2
        · exact m'⟩)]
section
variable {F : Fx} {C D : Ct} {J : Nat → Int64} {G : Ex} {Q : mE → mH → Prop} {t P e : Nat}
theorem cm_lt (hF : okF F) {a b : Nat} (ha : a < F.1 * F.2.1) (hb : b < F.1 * F.2.1) (h : a < b) : cm F a < cm F b := by
  obtain ⟨⟨f1, f2⟩, -, -⟩ := hF
  unfold cm
  have h1 := Nat.div_add_mod a F.1
  have h2 := Nat.div_add_mod b F.1
  have h3 : a % F.1 < F.1 := Nat.mod_lt _ (by omega)
  have h4 : b % F.1 < F.1 := Nat.mod_lt _ (by omega)
  rcases Nat.lt_trichotomy (a / F.1) (b / F.1) with q | q | q
  · omega
  · rw [q] at h1; omega
  · have := Nat.div_le_div_right (c := F.1) (Nat.le_of_lt h)
    omega
theorem lst_cm (hF : okF F) {p q : Nat → Prop} (h1 : ∀ c, c < F.1 * F.2.1 → (q (cm F c) ↔ p c)) (h2 : ∀ m, m < 576 → q m → inS F m) : lst q 576 = (lst p (F.1 * F.2.1)).map (cm F) := by
  refine lt_uniq _ _ lst_pw ?_ (fun m => ?_)
  · rw [List.pairwise_map]
    exact List.Pairwise.imp_of_mem (fun {a b} ha hb hab => cm_lt hF (lst_mem.mp ha).1 (lst_mem.mp hb).1 hab) lst_pw
  · rw [lst_mem, List.mem_map]
    constructor
    · rintro ⟨hm, hq⟩
      have hs := h2 m hm hq
      refine ⟨mc F m, lst_mem.mpr ⟨mc_lt hF hs, (h1 _ (mc_lt hF hs)).mp (by rw [cm_mc hF hs]; exact hq)⟩, cm_mc hF hs⟩
    · rintro ⟨c, hc, rfl⟩
      have := lst_mem.mp hc
      exact ⟨(cm_in hF this.1).2.2.2, (h1 c this.1).mpr this.2⟩
/-- the row to all exits is found -/
def row0 (F : Fx) (C : Ct) : Prop := ∀ c, c < F.1 * F.2.1 → C 12 c = nuC F C 0 c
def mrow0 (F : Fx) (C : Ct) : Prop := (∀ c, c < F.1 * F.2.1 → C 179 (576 * 8 + cm F c) = nuC F C 0 c) ∧ ∀ m, m < 576 → ¬ inS F m → C 179 (576 * 8 + m) = -1
def hasN (F : Fx) (C : Ct) (c : Nat) : Prop := ¬ nuC F C 0 c = -1
def hasNM (C : Ct) (m : Nat) : Prop := 0 ≤ C 179 (576 * 8 + m)
theorem Y_ways_loop (hF : okF F) (hr : row0 F C) (kk : Q (.inl (some (.int (nI (lst (hasN F C) (F.1 * F.2.1)).length)))) (hp F C J G)) :
    ∀ d i, i + d = F.1 * F.2.1 → X y_Esc_ways 13 [some (.ref 0), some (.ref 12), some (.int (nI (lst (hasN F C) i).length)), some (.int (nI i))] [] (hp F C J G) Q := by
  have hn := hF.n
  intro d
  induction d with
  | zero =>
    intro i hd
    have : i = F.1 * F.2.1 := by omega
    subst this
    repeat (refine X_n rfl rfl rfl ?_)
    refine X_bt rfl rfl rfl (show nI (F.1 * F.2.1) ≤ nI (F.1 * F.2.1) from Int32.le_refl _) ?_
    repeat (refine X_n rfl rfl rfl ?_)
    exact X_r rfl rfl rfl rfl kk
  | succ d ih =>
    intro i hd
    have ih := ih (i + 1) (by omega)
    repeat (refine X_n rfl rfl rfl ?_)
    refine X_bf rfl rfl rfl (show ¬ nI (F.1 * F.2.1) ≤ nI i from nI_ge (by omega) (by omega)) ?_
    repeat (refine X_n rfl rfl rfl ?_)
    refine X_la rfl rfl rfl hF (show i < F.1 * F.2.1 by omega) ?_
    rw [hr i (by omega)]
    repeat (refine X_n rfl rfl rfl ?_)
    refine X_b rfl rfl rfl (fun q => ?_) (fun q => ?_)
    · rw [lst_f (fun h => h q)] at ih
      iterate 2 (refine X_n rfl rfl rfl ?_)
      rw [nI_1']
      exact ih
    · rw [lst_t (show hasN F C i from q), List.length_append, List.length_singleton] at ih
      iterate 3 (refine X_n rfl rfl rfl ?_)
      rw [nI_1', nI_1']
      exact ih
/-- rowTo(-1): the row to all exits -/
theorem Y_row0 {x : Int32} (hF : okF F) (hS : okS F C) (hN : okN F C) (hx : x = -1)
    (kk : ∀ C', sameN C C' → okN F C' → row0 F C' → Q (.inl (some (.ref 12))) (hp F C' J G)) : Y y_Numbers_rowTo [.ref 10, .int x] (hp F C J G) Q := by
  refine Y_rowK (e := 0) hF hS hN (by omega) (by rw [hx]; decide) (fun C' s n h1 _ => kk C' s n (fun c hc => ?_))
  rcases n 0 (by omega) with g | ⟨-, g⟩
  · rw [h1] at g; exact absurd g (by decide)
  · exact nuC_row (r := 0) hF (okS_same s hS) (by omega) g hc
theorem Y_ways (hF : okF F) (hS : okS F C) (hN : okN F C) (kk : ∀ C', sameN C C' → okN F C' → Q (.inl (some (.int (nI (lst (hasN F C) (F.1 * F.2.1)).length)))) (hp F C' J G)) : Y y_Esc_ways [.ref 0] (hp F C J G) Q := by
  unfold Y
  repeat (refine X_n rfl rfl rfl ?_)
  refine X_k rfl rfl rfl rfl (Y_row0 hF hS hN rfl (fun C' s n hr => ?_))
  dsimp only
  iterate 5 (refine X_n rfl rfl rfl ?_)
  have kk := kk C' s n
  have e : hasN F C = hasN F C' := by unfold hasN; rw [nuC_cfg s.cfg]
  rw [e] at kk
  exact Y_ways_loop hF hr kk _ 0 (Nat.zero_add _)
theorem Y_mways_loop (hF : okF F) (kk : Q (.inl (some (.int (nI (lst (hasNM C) 576).length)))) (hp F C J G)) :
    ∀ d i, i + d = 576 → X y_Model_ways 13 [some (.ref 169), some (.int (nI (lst (hasNM C) i).length)), some (.int (nI i))] [] (hp F C J G) Q := by
  intro d
  induction d with
  | zero =>
    intro i hd
    have : i = 576 := by omega
    subst this
    repeat (refine X_n rfl rfl rfl ?_)
    refine X_bt rfl rfl rfl (Int32.le_refl _) ?_
    repeat (refine X_n rfl rfl rfl ?_)
    exact X_r rfl rfl rfl rfl kk
  | succ d ih =>
    intro i hd
    have ih := ih (i + 1) (by omega)
    repeat (refine X_n rfl rfl rfl ?_)
    refine X_bf rfl rfl rfl (show ¬ nI 576 ≤ nI i from nI_ge (by omega) (by omega)) ?_
    repeat (refine X_n rfl rfl rfl ?_)
    refine X_cd rfl rfl rfl rfl (Y_numberOf (w := 8) (c := i) (by omega) (by omega)) ?_
    refine X_b rfl rfl rfl (fun q => ?_) (fun q => ?_)
    · rw [lst_f (fun h => absurd q (Int32.not_lt.mpr h))] at ih
      iterate 1 (refine X_n rfl rfl rfl ?_)
      iterate 1 (refine X_n rfl rfl rfl ?_)
      refine X_top (w := nI (lst (hasNM C) i).length) (nI_add _ 0) ?_
      iterate 3 (refine X_n rfl rfl rfl ?_)
      rw [nI_1']
      exact ih
    · rw [lst_t (show hasNM C i from Int32.not_lt.mp q), List.length_append, List.length_singleton] at ih
      iterate 3 (refine X_n rfl rfl rfl ?_)
      refine X_top (w := nI ((lst (hasNM C) i).length + 1)) (nI_1' _) ?_
      iterate 3 (refine X_n rfl rfl rfl ?_)
      rw [nI_1']
      exact ih
/-- learn, and what follows -/
theorem Y_learnK (hF : okF F) (hS : okS F C) (hg : okG F C) (hrS : rS F C) (hm : okMS F C) (hL : okL F C)
    (kk : ∀ C', sameL C C' → C' 169 14 = 1 → (∀ wh, wh ≤ 8 → rowOkM F C' wh (nuM C' wh)) → mnu F C' → mrow0 F C' → Q (.inl none) (hp F C' J G)) : Y y_Model_learn [.ref 169] (hp F C J G) Q := by
  obtain ⟨n, o, h', q, C', e1, e2, s, e14, hr⟩ := Y_learn (J := J) (G := G) hF hm hL
  subst e1; subst e2
  have c : cfg C C' := fun k hk => s.1 k (by omega) (by omega) (by omega)
  have hr' : rS F C' := by
    unfold rS at *
    rw [s.1 170 (by omega) (by omega) (by omega), s.1 171 (by omega) (by omega) (by omega), s.2 7 (by omega), c 2 (by omega), c 5 (by omega), c 1 (by omega)]
    exact hrS
  have hn := mnu_of hF (okS_cfg c hS) (okG_cfg c hg) hr' hr
  exact ⟨n, _, _, q, kk C' s e14 hr hn ⟨fun c hc => hn 0 (by omega) c hc, fun m hm' ho => num_out (okMS_same s hm) (Nat.le_refl 8) (hr 8 (Nat.le_refl 8)) hm' ho⟩⟩
theorem hasN_eq (hF : okF F) (hS : okS F C) (h : mrow0 F C) : lst (hasNM C) 576 = (lst (hasN F C) (F.1 * F.2.1)).map (cm F) := by
  refine lst_cm hF (fun c hc => ?_) (fun m hm hq => ?_)
  · unfold hasNM hasN
    rw [h.1 c hc]
    exact (nu_sg hF hS (by omega) hc).2
  · refine Classical.byContradiction fun ho => ?_
    unfold hasNM at hq
    rw [h.2 m hm ho] at hq
    exact absurd hq (by decide)
theorem st0_okMS {v : Int32} (h : okMS F C) : okMS F (st C 169 0 v) := by
  unfold okMS opM at *
  rw [st_f (by omega), st_f (by omega)]; exact h
theorem st0_okL {v : Int32} (h : okL F C) : okL F (st C 169 0 v) := by
  unfold okL at *
  rw [st_i (by omega)]
  rcases h with g | ⟨g1, g2⟩
  · exact Or.inl g
  · refine Or.inr ⟨g1, fun wh hw => ?_⟩
    have : nuM (st C 169 0 v) wh = nuM C wh := by unfold nuM; rw [st_f (by omega)]
    rw [this]
    exact rowOkM_eq (st_f (by omega)) (st_f (by omega)) (g2 wh hw)
theorem st0_rS {v : Int32} (h : rS F C) : rS F (st C 169 0 v) := by
  have f : ∀ k, k ≠ 169 → st C 169 0 v k = C k := fun k hk => st_f hk
  unfold rS at *
  rw [f 170 (by omega), f 2 (by omega), f 171 (by omega), f 5 (by omega), f 1 (by omega), st_i (by omega)]; exact h
theorem st0_cfg {v : Int32} : cfg C (st C 169 0 v) := fun k hk => st_f (by omega)
theorem Y_mways (hF : okF F) (hS : okS F C) (hg : okG F C) (hrS : rS F C) (hm : okMS F C) (hL : okL F C)
    (kk : ∀ C', sameL (st C 169 0 0) C' → C' 169 14 = 1 → (∀ wh, wh ≤ 8 → rowOkM F C' wh (nuM C' wh)) → Q (.inl (some (.int (nI (lst (hasN F C) (F.1 * F.2.1)).length)))) (hp F C' J G)) : Y y_Model_ways [.ref 169] (hp F C J G) Q := by
  unfold Y
  repeat (refine X_n rfl rfl rfl ?_)
  refine X_s rfl rfl ?_
  refine X_h (hp_f169_0 rfl) ?_
  repeat (refine X_n rfl rfl rfl ?_)
  refine X_h (H := hp F (st C 169 0 0) J G) rfl ?_
  refine X_k rfl rfl rfl rfl (Y_learnK hF (okS_cfg st0_cfg hS) (okG_cfg st0_cfg hg) (st0_rS hrS) (st0_okMS hm) (st0_okL hL) (fun C' s e14 hr hn h0 => ?_))
  dsimp only
  iterate 4 (refine X_n rfl rfl rfl ?_)
  have c : cfg C C' := fun k hk => by rw [s.1 k (by omega) (by omega) (by omega), st_f (by omega)]
  have kk := kk C' s e14 hr
  have e : hasN F C = hasN F C' := by unfold hasN; rw [nuC_cfg c]
  have e2 := hasN_eq hF (okS_cfg c hS) h0
  have e3 : (lst (hasNM C') 576).length = (lst (hasN F C') (F.1 * F.2.1)).length := by rw [e2, List.length_map]
  rw [e, ← e3] at kk
  exact Y_mways_loop hF kk 576 0 (by omega)
end
