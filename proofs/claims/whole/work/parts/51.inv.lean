/-! what holds all through a run -/
def okP (F : Fx) (C : Ct) (P : Nat) : Prop := P ≤ 60 ∧ C 23 5 = nI P ∧ (∀ p, p < P → (∃ c, c < F.1 * F.2.1 ∧ C 24 p = nI c ∧ C 28 c = nI p ∧ ¬ C 2 c = 1 ∧ ¬ C 2 c = 2) ∧ (∃ a, 1 ≤ a ∧ a ≤ 5 ∧ C 25 p = nI a) ∧ (∃ d, d ≤ 600 ∧ C 26 p = nI d) ∧ (C 27 p = -1 ∨ ∃ x, C 27 p = nI x ∧ x < 8 ∧ nI x < C 1 11)) ∧ (∀ c, c < F.1 * F.2.1 → C 28 c = -1 ∨ ∃ p, p < P ∧ C 28 c = nI p ∧ C 24 p = nI c)
def pinv (F : Fx) (C : Ct) (t : Nat) (A : Ct) (p : Nat) : Prop :=
  (∃ c, c < F.1 * F.2.1 ∧ A 4 p = nI c ∧ opC C c ∧ ∀ r, r < 9 → (nuC F C r c = -1 ↔ nuC F C r (s0 C p) = -1)) ∧
  (∃ k, A 3 p = nI k ∧ k + (nuP F C A p).toNatClampNeg < F.1 * F.2.1 ∧
    (∀ j, j < k → (∃ s, s ≤ t ∧ A 7 (600 * p + j) = nI s) ∧ ∃ c, c < F.1 * F.2.1 ∧ A 8 (600 * p + j) = nI c) ∧
    ∃ f a, 1 ≤ a ∧ a ≤ 5 ∧ C 25 p = nI a ∧ A 9 p = nI (f + a) ∧ ((k = 0 ∧ f ≤ 600 ∧ C 26 p = nI f) ∨ (0 < k ∧ A 7 (600 * p + (k - 1)) = nI f ∧ f ≤ t ∧ ∃ d, C 26 p = nI d ∧ d < f))) ∧
  ((A 0 p = 0 ∧ A 1 p = -1) ∨ ((A 0 p = 1 ∨ A 0 p = 2) ∧ ∃ e, e ≤ t ∧ A 1 p = nI e))
def inv (F : Fx) (C : Ct) (P t : Nat) (A : Ct) : Prop := (∀ p, p < P → pinv F C t A p) ∧ ∀ c, c < F.1 * F.2.1 → A 5 c = -1 ∨ ∃ p, p < 60 ∧ A 5 c = nI p
section
variable {F : Fx} {C A : Ct} {P t p b q : Nat} {N : Nat → Int32}
theorem pA_eq (hF : okF F) {c : Nat} (hc : c < F.1 * F.2.1) (h : A 4 p = nI c) : pA A p = c := by
  have hn := hF.n
  unfold pA
  rw [h, nI_clamp (by omega)]
theorem pinv.mono {t' : Nat} (h : pinv F C t A p) (ht : t ≤ t') : pinv F C t' A p := by
  obtain ⟨h1, ⟨k, h2, h3, h4, f, a, h5, h6, h7, h8, h9⟩, h10⟩ := h
  refine ⟨h1, ⟨k, h2, h3, fun j hj => ?_, f, a, h5, h6, h7, h8, ?_⟩, ?_⟩
  · obtain ⟨⟨s, hs, e⟩, g⟩ := h4 j hj
    exact ⟨⟨s, by omega, e⟩, g⟩
  · rcases h9 with g | ⟨g1, g2, g3, g4⟩
    · exact Or.inl g
    · exact Or.inr ⟨g1, g2, by omega, g4⟩
  · rcases h10 with g | ⟨g1, e, g2, g3⟩
    · exact Or.inl g
    · exact Or.inr ⟨g1, e, by omega, g3⟩
theorem inv.mono {t' : Nat} (h : inv F C P t A) (ht : t ≤ t') : inv F C P t' A := ⟨fun p hp => (h.1 p hp).mono ht, h.2⟩
/-- the same for a person whose places are the same -/
theorem pinv.same {A' : Ct} (h : pinv F C t A p) (hn : F.1 * F.2.1 ≤ 576) (h0 : A' 0 p = A 0 p) (h1 : A' 1 p = A 1 p) (h3 : A' 3 p = A 3 p) (h4 : A' 4 p = A 4 p) (h9 : A' 9 p = A 9 p) (h7 : ∀ j, j < 600 → A' 7 (600 * p + j) = A 7 (600 * p + j)) (h8 : ∀ j, j < 600 → A' 8 (600 * p + j) = A 8 (600 * p + j)) : pinv F C t A' p := by
  obtain ⟨g1, ⟨k, g2, g3, g4, f, a, g5, g6, g7, g8, g9⟩, g10⟩ := h
  have hP : nuP F C A' p = nuP F C A p := by unfold nuP pA; rw [h4]
  refine ⟨by rw [h4]; exact g1, ⟨k, by rw [h3]; exact g2, by rw [hP]; exact g3, fun j hj => ?_, f, a, g5, g6, g7, by rw [h9]; exact g8, ?_⟩, by rw [h0, h1]; exact g10⟩
  · rw [h7 j (by omega), h8 j (by omega)]; exact g4 j hj
  · rcases g9 with g | ⟨g, g'⟩
    · exact Or.inl g
    · exact Or.inr ⟨g, by rw [h7 _ (by omega)]; exact g'⟩
theorem st_q {C : Ct} {k i k' j : Nat} {v : Int32} (h : j ≠ i) : st C k i v k' j = C k' j := by
  rw [st_r]
  by_cases e : k' = k
  · rw [if_pos e, if_neg h, e]
  · rw [if_neg e]
theorem mv_f {f : Nat} (hq : q ≠ p) (hf : f ≤ 4 ∨ f = 9) : mv C t p b A f q = A f q := by
  have : f = 0 ∨ f = 1 ∨ f = 2 ∨ f = 3 ∨ f = 4 ∨ f = 9 := by omega
  rcases this with e | e | e | e | e | e <;> subst e <;> simp [mv, st_r, hq]
theorem stp_f {f : Nat} (hq : q ≠ p) (hf : f ≤ 4 ∨ f = 9) : stp F C t p b A f q = A f q := by
  unfold stp
  by_cases ho : nuC F C (gRow F C p) b = 0
  · rw [m_if_t ho, st_q hq, st_q hq, st_q hq]
    exact mv_f hq hf
  · rw [m_if_f ho, st_k (by omega)]
    exact mv_f hq hf
theorem stp_78 {f j : Nat} (hf : f = 7 ∨ f = 8) : stp F C t p b A f j = if j = 600 * p + (A 3 p).toNatClampNeg then (if f = 7 then nI t else nI b) else A f j := by
  have key : mv C t p b A f j = if j = 600 * p + (A 3 p).toNatClampNeg then (if f = 7 then nI t else nI b) else A f j := by
    rcases hf with e | e <;> subst e <;> simp [mv, st_r]
  unfold stp
  by_cases ho : nuC F C (gRow F C p) b = 0
  · rw [m_if_t ho, st_k (by omega), st_k (by omega), st_k (by omega), key]
  · rw [m_if_f ho, st_k (by omega), key]
theorem stp_349 : stp F C t p b A 3 p = A 3 p + 1 ∧ stp F C t p b A 4 p = nI b ∧ stp F C t p b A 9 p = nI t + C 25 p := by
  unfold stp
  by_cases ho : nuC F C (gRow F C p) b = 0
  · rw [m_if_t ho]; simp [mv, st_r]
  · rw [m_if_f ho]; simp [mv, st_r]
theorem stp_01 : (stp F C t p b A 0 p = 1 ∧ stp F C t p b A 1 p = nI t) ∨ (stp F C t p b A 0 p = A 0 p ∧ stp F C t p b A 1 p = A 1 p) := by
  unfold stp
  by_cases ho : nuC F C (gRow F C p) b = 0
  · left; rw [m_if_t ho]; simp [mv, st_r]
  · right; rw [m_if_f ho]; simp [mv, st_r]
theorem stp_5 {c : Nat} : stp F C t p b A 5 c = -1 ∨ stp F C t p b A 5 c = nI p ∨ stp F C t p b A 5 c = A 5 c := by
  unfold stp
  by_cases ho : nuC F C (gRow F C p) b = 0
  · rw [m_if_t ho]; simp only [mv, st_r]
    by_cases e : c = pA A p
    · left; simp [e]
    · right; right; simp [e]
  · rw [m_if_f ho]; simp only [mv, st_r]
    by_cases e2 : c = b
    · right; left; simp [e2]
    · by_cases e : c = pA A p
      · left; simp [e2, e]; intro h; exact absurd (e.trans h) e2
      · right; right; simp [e2, e]
/-- what the first good cell is -/
theorem tgt_some {r c : Nat} : ∀ d, d ≤ 4 → tgt F C A N t r c d = some b → ∃ w, w < 4 ∧ nbC C c w = some b ∧ good F C A N t r c b := by
  intro d
  induction d with
  | zero => intro _ h; cases h
  | succ d ih =>
    intro hd h
    rw [tgt] at h
    cases hb : nbC C c (3 - d) with
    | none => rw [hb] at h; exact ih (by omega) h
    | some b' =>
      rw [hb] at h
      dsimp only at h
      by_cases g : good F C A N t r c b'
      · rw [m_if_t g] at h
        cases h
        exact ⟨3 - d, by omega, hb, g⟩
      · rw [m_if_f g] at h
        exact ih (by omega) h
theorem hRow_lt (hP : okP F C P) (hp : p < P) : hRow C p < 9 := by
  obtain ⟨-, -, h, -⟩ := hP
  unfold hRow
  rcases (h p hp).2.2.2 with e | ⟨x, e, h8, -⟩
  · rw [e]; decide
  · rw [e, nI_1, nI_clamp (by omega)]; omega
theorem gRow_lt (hP : okP F C P) (hp : p < P) : gRow F C p < 9 := by
  unfold gRow
  by_cases h : nuC F C (hRow C p) (s0 C p) = -1
  · rw [m_if_t h]; omega
  · rw [m_if_f h]; exact hRow_lt hP hp
theorem s0_lt (hF : okF F) (hP : okP F C P) (hp : p < P) : s0 C p < F.1 * F.2.1 ∧ C 24 p = nI (s0 C p) ∧ opC C (s0 C p) := by
  have hn := hF.n
  obtain ⟨-, -, h, -⟩ := hP
  obtain ⟨c, hc, e, -, h1, -⟩ := (h p hp).1
  unfold s0
  rw [e, nI_clamp (by omega)]
  exact ⟨hc, rfl, h1⟩
theorem stp_inv (hF : okF F) (hS : okS F C) (hP : okP F C P) (hi : inv F C P t A) (ht : t ≤ 3600) (hp : p < P) (h0 : A 0 p = 0) (h9 : A 9 p ≤ nI t) {w : Nat} (hw : w < 4) (hb : nbC C (pA A p) w = some b) (hg : good F C A N t (gRow F C p) (pA A p) b) : inv F C P t (stp F C t p b A) := by
  have hn := hF.n
  have hP60 := hP.1
  refine ⟨fun q hq => ?_, fun c hc => ?_⟩
  · by_cases e : q = p
    · subst e
      obtain ⟨⟨c, c1, c2, c3, c4⟩, ⟨k, k1, k2, k3, f, a, a1, a2, a3, a4, a5⟩, hs⟩ := hi.1 q hq
      have ec := pA_eq hF c1 c2
      rw [ec] at hb hg
      have hb2 := nbC_in hF hS c1 hw hb
      obtain ⟨e3, e4, e9⟩ := stp_349 (F := F) (C := C) (t := t) (p := q) (b := b) (A := A)
      have ek : (A 3 q).toNatClampNeg = k := by rw [k1, nI_clamp (by omega)]
      have hgr := gRow_lt hP hq
      have f1 : f ≤ 3600 := by rcases a5 with g | g <;> omega
      have fa : f + a ≤ t := by rw [a4] at h9; exact (nI_leI (by omega) (by omega)).mp h9
      have e78 := fun j f hf => stp_78 (F := F) (C := C) (t := t) (p := q) (b := b) (A := A) (f := f) (j := j) hf
      refine ⟨⟨b, hb2.1, e4, hb2.2, fun r hr => ?_⟩, ⟨k + 1, by rw [e3, k1, nI_1], ?_, fun j hj => ?_, t, a, a1, a2, a3, by rw [e9, a3, nI_add], Or.inr ⟨by omega, ?_, Nat.le_refl t, ?_⟩⟩, ?_⟩
      · rw [nu_nb hF hS hr c1 c3 hw hb]; exact c4 r hr
      · unfold nuP at k2 ⊢
        rw [pA_eq hF hb2.1 e4]
        rw [ec] at k2
        rcases nu_or hF hS hgr hb2.1 with g | ⟨d', hd', g⟩
        · exact absurd g hg.1.1
        · rcases nu_or hF hS hgr c1 with g2 | ⟨d, hd, g2⟩
          · have := hg.1.2
            rw [g, g2] at this
            exact absurd (Int32.lt_of_le_of_lt (nI_pos' (n := d') (by omega)) this) (by decide)
          · have := hg.1.2
            rw [g, g2] at this
            have := (nI_ltI (by omega) (by omega)).mp this
            rw [g, nI_clamp (by omega)]
            rw [g2, nI_clamp (by omega)] at k2
            omega
      · rw [e78 _ 7 (Or.inl rfl), e78 _ 8 (Or.inr rfl), ek]
        by_cases ej : j = k
        · subst ej
          rw [if_pos rfl, if_pos rfl, if_pos rfl, if_neg (by omega)]
          exact ⟨⟨t, Nat.le_refl t, rfl⟩, b, hb2.1, rfl⟩
        · rw [if_neg (by omega), if_neg (by omega)]
          exact k3 j (by omega)
      · rw [e78 _ 7 (Or.inl rfl), ek, if_pos (by omega), if_pos rfl]
      · rcases a5 with ⟨-, -, g⟩ | ⟨-, -, -, d, g, g'⟩
        · exact ⟨f, g, by omega⟩
        · exact ⟨d, g, by omega⟩
      · rcases stp_01 (F := F) (C := C) (t := t) (p := q) (b := b) (A := A) with ⟨g1, g2⟩ | ⟨g1, g2⟩
        · exact Or.inr ⟨Or.inl g1, t, Nat.le_refl t, g2⟩
        · rw [g1, g2]; exact hs
    · have hk := hi.1 p hp
      obtain ⟨-, ⟨k, k1, k2, -⟩, -⟩ := hk
      have ek : (A 3 p).toNatClampNeg = k := by rw [k1, nI_clamp (by omega)]
      refine (hi.1 q hq).same hn (stp_f e (by omega)) (stp_f e (by omega)) (stp_f e (by omega)) (stp_f e (by omega)) (stp_f e (by omega)) (fun j hj => ?_) (fun j hj => ?_)
      · rw [stp_78 (Or.inl rfl), ek, if_neg (by omega)]
      · rw [stp_78 (Or.inr rfl), ek, if_neg (by omega)]
  · rcases stp_5 (F := F) (C := C) (t := t) (p := p) (b := b) (A := A) (c := c) with g | g | g
    · exact Or.inl g
    · exact Or.inr ⟨p, by omega, g⟩
    · rw [g]; exact hi.2 c hc
theorem go1_f {z : Ct × (Nat → Int32)} {f : Nat} (hq : q ≠ p) (hf : f ≤ 4 ∨ f = 9) : (go1 F C t z p).1 f q = z.1 f q := by
  unfold go1
  cases tgt F C z.1 z.2 t (gRow F C p) (pA z.1 p) 4 with
  | none => rfl
  | some b => exact stp_f hq hf
theorem go1_inv {z : Ct × (Nat → Int32)} (hF : okF F) (hS : okS F C) (hP : okP F C P) (hi : inv F C P t z.1) (ht : t ≤ 3600) (hp : p < P) (h0 : z.1 0 p = 0) (h9 : z.1 9 p ≤ nI t) : inv F C P t (go1 F C t z p).1 := by
  unfold go1
  cases hb : tgt F C z.1 z.2 t (gRow F C p) (pA z.1 p) 4 with
  | none => exact hi
  | some b =>
    obtain ⟨w, hw, h1, h2⟩ := tgt_some 4 (Nat.le_refl 4) hb
    exact stp_inv hF hS hP hi ht hp h0 h9 hw h1 h2
theorem cand_f {A' : Ct} (h0 : A' 0 p = A 0 p) (h4 : A' 4 p = A 4 p) (h9 : A' 9 p = A 9 p) : cand F C A' t p ↔ cand F C A t p := by
  unfold cand nuP pA
  rw [h0, h4, h9]
theorem fold_inv (hF : okF F) (hS : okS F C) (hP : okP F C P) (ht : t ≤ 3600) : ∀ (l : List Nat) (z : Ct × (Nat → Int32)), l.Nodup → inv F C P t z.1 → (∀ p, p ∈ l → p < P ∧ cand F C z.1 t p) → inv F C P t (l.foldl (go1 F C t) z).1 := by
  intro l
  induction l with
  | nil => intro z _ hi _; exact hi
  | cons a l ih =>
    intro z hd hi hc
    obtain ⟨hd1, hd2⟩ := List.nodup_cons.mp hd
    obtain ⟨ha, hca⟩ := hc a (List.mem_cons_self ..)
    refine ih (go1 F C t z a) hd2 (go1_inv hF hS hP hi ht ha hca.1 hca.2.1) (fun p hp => ?_)
    have hpa : p ≠ a := fun e => hd1 (e ▸ hp)
    obtain ⟨h1, h2⟩ := hc p (List.mem_cons_of_mem _ hp)
    exact ⟨h1, (cand_f (go1_f hpa (by omega)) (go1_f hpa (by omega)) (go1_f hpa (by omega))).mpr h2⟩
theorem ord_nodup {i : Nat} {l : List Nat} (h : Ord F C A t i l) : l.Nodup :=
  List.Pairwise.imp (fun {a b} (hab : lx F C A a b) (e : a = b) => by subst e; exact lx_asym hab hab) h.1
/-- smoke -/
theorem ct_f {i f : Nat} (hq : i ≤ q) (hf : f ≤ 4 ∨ f = 9) : ctI C t A i f q = A f q := by
  induction i with
  | zero => rfl
  | succ i ih =>
    rw [ctI]
    by_cases h : ctI C t A i 0 i = 0 ∧ brd C (pA (ctI C t A i) i) t
    · rw [m_if_t h, st_q (show q ≠ i by omega), st_q (show q ≠ i by omega), st_k (by omega)]
      exact ih (by omega)
    · rw [m_if_f h]; exact ih (by omega)
theorem ct_inv (hF : okF F) (hi : inv F C P t A) {i : Nat} (hiP : i ≤ P) : inv F C P t (ctI C t A i) := by
  have hn := hF.n
  induction i with
  | zero => exact hi
  | succ i ih =>
    have ih := ih (by omega)
    rw [ctI]
    by_cases h : ctI C t A i 0 i = 0 ∧ brd C (pA (ctI C t A i) i) t
    · rw [m_if_t h]
      refine ⟨fun p hp => ?_, fun c hc => ?_⟩
      · by_cases e : p = i
        · subst e
          obtain ⟨g1, ⟨k, g2, g3, g4, g5⟩, g10⟩ := ih.1 p hp
          refine ⟨by simpa [st_r] using g1, ⟨k, by simpa [st_r] using g2, ?_, by simpa [st_r] using g4, by simpa [st_r] using g5⟩, Or.inr ⟨Or.inr (by simp [st_r]), t, Nat.le_refl t, by simp [st_r]⟩⟩
          unfold nuP pA at g3 ⊢
          simpa [st_r] using g3
        · refine (ih.1 p hp).same hn ?_ ?_ ?_ ?_ ?_ (fun j hj => ?_) (fun j hj => ?_) <;> simp [st_r, e]
      · rw [st_k (by omega), st_k (by omega), st_r, if_pos rfl]
        by_cases e : c = pA (ctI C t A i) i
        · rw [if_pos e]; exact Or.inl rfl
        · rw [if_neg e]; exact ih.2 c hc
    · rw [m_if_f h]; exact ih
theorem sec_inv (hF : okF F) (hS : okS F C) (hP : okP F C P) (hi : inv F C P t A) (ht : t + 1 ≤ 3600) : inv F C P (t + 1) (sec F C P (t + 1) A) := by
  have h1 := ct_inv (C := C) (t := t + 1) hF (hi.mono (Nat.le_succ t)) (Nat.le_refl P)
  have ho := ordL_ok (F := F) (C := C) (A := ctI C (t + 1) A P) (t := t + 1) P
  exact fold_inv hF hS hP ht _ _ (ord_nodup ho) h1 (fun p hp => (ho.2 p).mp hp)
theorem bgn_inv (hF : okF F) (hS : okS F C) (hP : okP F C P) : inv F C P 0 (bgn C) := by
  have hn := hF.n
  have hP60 := hP.1
  refine ⟨fun p hp => ?_, fun c hc => ?_⟩
  · obtain ⟨⟨c, c1, c2, c3, c4, c5⟩, ⟨a, a1, a2, a3⟩, ⟨d, d1, d2⟩, hh⟩ := hP.2.2.1 p hp
    have hs := s0_lt hF hP hp
    have e4 : bgn C 4 p = nI (s0 C p) := by rw [← hs.2.1]; simp [bgn]
    refine ⟨⟨s0 C p, hs.1, e4, hs.2.2, fun r _ => Iff.rfl⟩, ⟨0, by simp [bgn, nI_0], ?_, fun j hj => by omega, d, a, a1, a2, a3, ?_, Or.inl ⟨rfl, d1, d2⟩⟩, Or.inl ⟨by simp [bgn], by simp [bgn]⟩⟩
    · unfold nuP
      rw [pA_eq hF hs.1 e4]
      rcases nu_or hF hS (gRow_lt hP hp) hs.1 with g | ⟨x, hx, g⟩
      · rw [g, show (-1 : Int32).toNatClampNeg = 0 from rfl]; omega
      · rw [g, nI_clamp (by omega)]; omega
    · rw [← nI_add, ← d2, ← a3]; simp [bgn]
  · have e5 : bgn C 5 c = C 28 c := by simp [bgn]
    rw [e5]
    rcases hP.2.2.2 c hc with g | ⟨p, g1, g2, -⟩
    · exact Or.inl g
    · exact Or.inr ⟨p, by omega, g2⟩
end
