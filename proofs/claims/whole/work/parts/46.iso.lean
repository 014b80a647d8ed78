/-! THE TWO STOREYS ARE ONE: the class numbers its cells by width * y + x, the reference by 24 * y + x -/
def cm (F : Fx) (c : Nat) : Nat := 24 * (c / F.1) + c % F.1
def mc (F : Fx) (m : Nat) : Nat := (m / 24) * F.1 + m % 24
section
variable {F : Fx} {C : Ct}
theorem cm_div (hF : okF F) {c : Nat} (hc : c < F.1 * F.2.1) : c % F.1 < F.1 ∧ c / F.1 < F.2.1 := by
  obtain ⟨⟨f1, f2⟩, ⟨f3, f4⟩, -⟩ := hF
  exact ⟨Nat.mod_lt _ (by omega), Nat.div_lt_of_lt_mul hc⟩
theorem cm_in (hF : okF F) {c : Nat} (hc : c < F.1 * F.2.1) : cm F c % 24 = c % F.1 ∧ cm F c / 24 = c / F.1 ∧ inS F (cm F c) ∧ cm F c < 576 := by
  obtain ⟨h1, h2⟩ := cm_div hF hc
  obtain ⟨⟨f1, f2⟩, ⟨f3, f4⟩, -⟩ := hF
  unfold inS cm
  generalize c % F.1 = a at *
  generalize c / F.1 = b at *
  refine ⟨by omega, by omega, ⟨by omega, by omega⟩, by omega⟩
theorem mc_cm (hF : okF F) {c : Nat} (hc : c < F.1 * F.2.1) : mc F (cm F c) = c := by
  obtain ⟨h1, h2, -, -⟩ := cm_in hF hc
  unfold mc
  rw [h1, h2, Nat.mul_comm]
  exact Nat.div_add_mod c F.1
theorem mc_lt (hF : okF F) {m : Nat} (hm : inS F m) : mc F m < F.1 * F.2.1 := by
  obtain ⟨h1, h2⟩ := hm
  unfold mc
  calc m / 24 * F.1 + m % 24 < m / 24 * F.1 + F.1 := by omega
    _ = (m / 24 + 1) * F.1 := by rw [Nat.succ_mul]
    _ ≤ F.2.1 * F.1 := Nat.mul_le_mul_right _ h2
    _ = F.1 * F.2.1 := Nat.mul_comm _ _
theorem cm_mc (hF : okF F) {m : Nat} (hm : inS F m) : cm F (mc F m) = m := by
  obtain ⟨⟨f1, f2⟩, ⟨f3, f4⟩, -⟩ := hF
  obtain ⟨h1, h2⟩ := hm
  unfold cm mc
  have e1 : (m / 24 * F.1 + m % 24) / F.1 = m / 24 := by
    rw [Nat.mul_comm, Nat.mul_add_div (by omega), Nat.div_eq_of_lt h1, Nat.add_zero]
  have e2 : (m / 24 * F.1 + m % 24) % F.1 = m % 24 := by
    rw [Nat.mul_comm, Nat.mul_add_mod, Nat.mod_eq_of_lt h1]
  rw [e1, e2]
  omega
theorem cm_inj (hF : okF F) {c d : Nat} (hc : c < F.1 * F.2.1) (hd : d < F.1 * F.2.1) (h : cm F c = cm F d) : c = d := by
  rw [← mc_cm hF hc, ← mc_cm hF hd, h]
/-- 'besides' is laid by the cells' places -/
def okG (F : Fx) (C : Ct) : Prop := ∀ c, c < F.1 * F.2.1 → ∀ w, w < 4 → C 9 (c * 4 + w) = (match bsN F (cm F c) w with | some m => nI (mc F m) | none => -1)
theorem okG.B (hF : okF F) (h : okG F C) : okB F C := by
  intro c hc w hw
  rw [h c hc w hw]
  cases hb : bsN F (cm F c) w with
  | none => exact Or.inl rfl
  | some m => exact Or.inr ⟨mc F m, mc_lt hF (bsN_in hF hb).1, rfl⟩
theorem okG.sym (hF : okF F) (h : okG F C) : ∀ c, c < F.1 * F.2.1 → ∀ w, w < 4 → ∀ d, d < F.1 * F.2.1 → C 9 (c * 4 + w) = nI d → ∃ w', w' < 4 ∧ C 9 (d * 4 + w') = nI c := by
  intro c hc w hw d hd e
  have hn := hF.n
  rw [h c hc w hw] at e
  cases hb : bsN F (cm F c) w with
  | none => rw [hb] at e; exact absurd e.symm (nI_nm1 (by omega))
  | some m =>
    rw [hb] at e
    dsimp only at e
    have hm := bsN_in hF hb
    have hmd : mc F m = d := (nI_eq (by have := mc_lt hF hm.1; omega) (by omega)).mp e
    obtain ⟨w', hw', e2⟩ := bsN_sym hF (cm_in hF hc).2.2.1 hw hb
    refine ⟨w', hw', ?_⟩
    rw [h d hd w' hw', ← hmd, cm_mc hF hm.1, e2]
    dsimp only
    rw [mc_cm hF hc]
/-- the two storeys hold the same -/
def rS (F : Fx) (C : Ct) : Prop := (∀ c, c < F.1 * F.2.1 → C 170 (cm F c) = (if C 2 c = 1 then 1 else 0) ∧ C 171 (cm F c) = C 5 c) ∧ (∀ m, m < 576 → ¬ inS F m → C 170 m = 0 ∧ C 171 m = -1) ∧ C 169 7 = C 1 11
theorem nb_iso (hF : okF F) (hg : okG F C) (hr : rS F C) {c w : Nat} (hc : c < F.1 * F.2.1) (hw : w < 4) : nbC C c w = (nbM F C (cm F c) w).map (mc F) := by
  have hn := hF.n
  unfold nbC opB nbM
  rw [hg c hc w hw]
  cases hb : bsN F (cm F c) w with
  | none => simp
  | some m =>
    dsimp only
    have hm := bsN_in hF hb
    have hlt := mc_lt hF hm.1
    have h170 := (hr.1 (mc F m) hlt).1
    rw [cm_mc hF hm.1] at h170
    rw [nI_clamp (by omega), h170]
    by_cases hx : C 2 (mc F m) = 1
    · rw [if_pos (Or.inr hx), if_pos hx, if_pos rfl, if_neg (by decide)]
      rfl
    · have e : (if nI (mc F m) = -1 ∨ C 2 (mc F m) = 1 then (-1 : Int32) else nI (mc F m)) = nI (mc F m) := if_neg (fun h => h.elim (nI_nm1 (a := mc F m) (by omega)) hx)
      rw [e, if_neg (nI_nm1 (a := mc F m) (by omega)), if_neg hx, if_pos rfl, nI_clamp (by omega)]
      rfl
theorem op_iso (hF : okF F) (hr : rS F C) {c : Nat} (hc : c < F.1 * F.2.1) : opC C c ↔ opM F C (cm F c) := by
  unfold opC opM
  rw [(hr.1 c hc).1]
  by_cases hx : C 2 c = 1
  · rw [if_pos hx]
    exact ⟨fun h => absurd hx h, fun h => absurd h.2 (by decide)⟩
  · rw [if_neg hx]
    exact ⟨fun _ => ⟨(cm_in hF hc).2.2.1, rfl⟩, fun _ => hx⟩
/-- a goal of the class, a goal of the reference -/
def gw (g : Int32) (wh : Nat) : Prop := (g = -1 ∧ wh = 8) ∨ (g = nI wh ∧ wh < 8)
theorem gl_iso (hF : okF F) (hS : okS F C) (hr : rS F C) {g : Int32} {wh : Nat} (hgw : gw g wh) {c : Nat} (hc : c < F.1 * F.2.1) : glC C g c ↔ glM C wh (cm F c) := by
  have hn := hF.n
  obtain ⟨n8, hX8, hX, hE, hI⟩ := hS.2.2
  unfold glC glM
  rw [(hr.1 c hc).2, hX]
  have fwd : ∀ x, nI x < nI n8 → x < 8 → C 6 x = nI c → C 5 c = nI x := by
    intro x hx hx8 e
    have hxX : x < n8 := (nI_ltI (by omega) (by omega)).mp hx
    rcases hE x hxX with q | ⟨c', hc', q6, q5, -⟩
    · rw [q] at e; exact absurd e.symm (nI_nm1 (by omega))
    · rw [q6] at e
      have : c' = c := (nI_eq (by omega) (by omega)).mp e
      subst this
      exact q5
  rcases hgw with ⟨rfl, rfl⟩ | ⟨rfl, h8⟩
  · rw [if_pos rfl]
    constructor
    · rintro ⟨x, hx, hx8, e, -⟩
      rw [fwd x hx hx8 e]; exact nI_pos' (by omega)
    · intro h
      rcases hI c hc with ⟨q, -⟩ | ⟨x, hx, q5, q6, -⟩
      · rw [q] at h; exact absurd h (by decide)
      · exact ⟨x, nI_lt hx (by omega), by omega, q6, Or.inl rfl⟩
  · rw [if_neg (by omega)]
    constructor
    · rintro ⟨x, hx, hx8, e, hs⟩
      rcases hs with hs | hs
      · exact absurd hs (nI_nm1 (by omega))
      · have : wh = x := (nI_eq (by omega) (by omega)).mp hs
        subst this
        exact fwd _ hx hx8 e
    · intro h
      rcases hI c hc with ⟨q, -⟩ | ⟨x, hx, q5, q6, -⟩
      · rw [q] at h; exact absurd h.symm (nI_nm1 (by omega))
      · rw [q5] at h
        have : x = wh := (nI_eq (by omega) (by omega)).mp h
        subst this
        exact ⟨x, nI_lt hx (by omega), by omega, q6, Or.inr rfl⟩
theorem rch_iso (hF : okF F) (hS : okS F C) (hg : okG F C) (hr : rS F C) {g : Int32} {wh : Nat} (hgw : gw g wh) : ∀ k c, c < F.1 * F.2.1 → (Rch (F.1 * F.2.1) (nbC C) (glC C g) (opC C) k c ↔ Rch 576 (nbM F C) (glM C wh) (opM F C) k (cm F c)) := by
  intro k
  induction k with
  | zero =>
    intro c hc
    show c < F.1 * F.2.1 ∧ glC C g c ↔ cm F c < 576 ∧ glM C wh (cm F c)
    rw [gl_iso hF hS hr hgw hc]
    exact ⟨fun h => ⟨(cm_in hF hc).2.2.2, h.2⟩, fun h => ⟨hc, h.2⟩⟩
  | succ k ih =>
    intro c hc
    show (_ ∨ _) ↔ (_ ∨ _)
    rw [ih c hc, op_iso hF hr hc]
    constructor
    · rintro (h | ⟨ho, w, d, hw, hd, h⟩)
      · exact Or.inl h
      · right
        rw [nb_iso hF hg hr hc hw] at hd
        cases hb : nbM F C (cm F c) w with
        | none => rw [hb] at hd; cases hd
        | some m =>
          rw [hb] at hd
          cases hd
          have hm := (nbM_in hF hb).2.1
          refine ⟨ho, w, m, hw, hb, ?_⟩
          rw [ih _ (mc_lt hF hm), cm_mc hF hm] at h
          exact h
    · rintro (h | ⟨ho, w, m, hw, hb, h⟩)
      · exact Or.inl h
      · right
        have hm := (nbM_in hF hb).2.1
        refine ⟨ho, w, mc F m, hw, by rw [nb_iso hF hg hr hc hw, hb]; rfl, ?_⟩
        rw [ih _ (mc_lt hF hm), cm_mc hF hm]
        exact h
/-- the numbers are the same -/
theorem num_eq (hF : okF F) (hS : okS F C) (hg : okG F C) (hr : rS F C) {g : Int32} {wh : Nat} (hgw : gw g wh) {row rowM : Nat → Int32} (h1 : rowOk F C g row) (h2 : rowOkM F C wh rowM) {c : Nat} (hc : c < F.1 * F.2.1) : row c = rowM (cm F c) := by
  have iso := fun k => rch_iso hF hS hg hr hgw k c hc
  rcases h1 c hc with ⟨e1, n1⟩ | ⟨d, hd, e1, n1, n2⟩ <;> rcases h2 (cm F c) (cm_in hF hc).2.2.2 with ⟨e2, m1⟩ | ⟨d', hd', e2, m1, m2⟩
  · rw [e1, e2]
  · exact absurd ((iso d').mpr m1) (n1 d')
  · exact absurd ((iso d).mp n1) (m1 d)
  · rw [e1, e2]
    congr 1
    rcases Nat.lt_trichotomy d d' with q | q | q
    · exact absurd ((iso d).mp n1) (m2 d q)
    · exact q
    · exact absurd ((iso d').mpr m1) (n2 d' q)
/-- beyond the storey there are no numbers -/
theorem num_out (hm : okMS F C) {wh : Nat} (hw : wh ≤ 8) {rowM : Nat → Int32} (h2 : rowOkM F C wh rowM) {m : Nat} (h5 : m < 576) (ho : ¬ inS F m) : rowM m = -1 := by
  rcases h2 m h5 with ⟨e, -⟩ | ⟨d, hd, e, n1, -⟩
  · exact e
  · exfalso
    cases d with
    | zero => exact ho (hm.goal hw m h5 n1.2).1
    | succ d => exact ho (rch_op (hm.goal hw) d m n1).1
end
