/-! the reference's run: its contents and the run's state -/
def whN (r : Nat) : Nat := if r = 0 then 8 else r - 1
/-- what the reference has of the storey and its people -/
def mcf (F : Fx) (C : Ct) (P : Nat) : Prop := rS F C ∧ C 169 9 = nI P ∧
  (∀ p, p < P → C 175 p = nI (cm F (s0 C p)) ∧ C 176 p = C 25 p ∧ C 177 p = C 26 p ∧ C 178 p = C 27 p) ∧
  ∀ c, c < F.1 * F.2.1 → C 173 (cm F c) = C 4 c ∧ (C 4 c = -1 ∨ 0 ≤ C 4 c) ∧ ((hasR C c ∧ C 172 (cm F c) = C 3 c ∧ ¬ C 3 c = 0) ∨ (¬ hasR C c ∧ C 172 (cm F c) = 0))
/-- its numbers are found -/
def mnu (F : Fx) (C : Ct) : Prop := ∀ r, r < 9 → ∀ c, c < F.1 * F.2.1 → C 179 (576 * whN r + cm F c) = nuC F C r c
def repQ (F : Fx) (A C : Ct) (p : Nat) : Prop := C 181 p = A 0 p ∧ C 182 p = A 1 p ∧ C 183 p = A 2 p ∧ C 184 p = A 3 p ∧ (A 0 p = 0 → C 187 p = nI (cm F (pA A p))) ∧ ∀ k, k < (A 3 p).toNatClampNeg → C 185 (600 * p + k) = A 7 (600 * p + k) ∧ C 186 (600 * p + k) = nI (cm F (A 8 (600 * p + k)).toNatClampNeg)
def repM (F : Fx) (C0 : Ct) (P : Nat) (u18 : Int32) (N : Nat → Int32) (A C : Ct) : Prop :=
  ((∀ k, k < 181 ∨ 191 < k → k ≠ 169 → C k = C0 k) ∧ ∀ j, C 169 j = if j = 18 then u18 else C0 169 j) ∧ (∀ p, p < P → repQ F A C p) ∧
  ∀ c, c < F.1 * F.2.1 → C 188 (cm F c) = A 5 c ∧ C 189 (cm F c) = A 6 c ∧ C 190 (cm F c) = N c
def stpM (F : Fx) (C : Ct) (p b k c t : Nat) : Ct := st (st (st (st (st (st C 188 (cm F c) (-1)) 190 (cm F b) (C 190 (cm F b) + 1)) 189 (cm F b) (C 189 (cm F b) + 1)) 185 (600 * p + k) (nI t)) 186 (600 * p + k) (nI (cm F b))) 184 p (nI k + 1)
section
variable {F : Fx} {C0 A C : Ct} {P t p b k c : Nat} {N : Nat → Int32} {u18 : Int32} {J : Nat → Int64} {G : Ex} {Q : mE → mH → Prop}
theorem whN_le {r : Nat} (h : r < 9) : whN r ≤ 8 := by unfold whN; split <;> omega
theorem whN_gw {r : Nat} (h : r < 9) : gw (nI r - 1) (whN r) := by
  unfold whN gw
  by_cases e : r = 0
  · subst e; rw [if_pos rfl]; exact Or.inl ⟨by decide, rfl⟩
  · rw [if_neg e]
    right
    refine ⟨?_, by omega⟩
    obtain ⟨r', rfl⟩ : ∃ r', r = r' + 1 := ⟨r - 1, by omega⟩
    rw [nI_pred]; rfl
theorem cm_eqP (hF : okF F) (hc : c < F.1 * F.2.1) (hb : b < F.1 * F.2.1) : (cm F c = cm F b) = (c = b) := by
  rw [eq_iff_iff]; exact ⟨cm_inj hF hc hb, fun e => by rw [e]⟩
theorem repM.in (h : repM F C0 P u18 N A C) (hc : mcf F C0 P) : C 169 9 = nI P := ((h.1.2 9).trans (if_neg (by omega))).trans hc.2.1
/-- a step: what it is in the reference's contents -/
theorem repM_stp (h : repM F C0 P u18 N A C) (hi : inv F C0 P t A) (hF : okF F) (hP : P ≤ 60) (hp : p < P) (hc : A 4 p = nI c) (hcn : c < F.1 * F.2.1) (hb : b < F.1 * F.2.1) (hk : A 3 p = nI k) (hkn : k < F.1 * F.2.1) (x : Int32) :
    (nuC F C0 (gRow F C0 p) b = 0 → repM F C0 P u18 (upd N b (N b + 1)) (stp F C0 t p b A) (st (st (st (st (stpM F C p b k c t) 181 p 1) 182 p (nI t)) 183 p (C0 5 b)) 187 p x)) ∧
    (¬ nuC F C0 (gRow F C0 p) b = 0 → A 0 p = 0 → repM F C0 P u18 (upd N b (N b + 1)) (stp F C0 t p b A) (st (st (stpM F C p b k c t) 187 p (nI (cm F b))) 188 (cm F b) (nI p))) := by
  have hn := hF.n
  obtain ⟨⟨h1, h1'⟩, h2, h3⟩ := h
  have ek : (A 3 p).toNatClampNeg = k := by rw [hk, nI_clamp (by omega)]
  have ec : pA A p = c := pA_eq hF hcn hc
  have eb : (nI b).toNatClampNeg = b := nI_clamp (by omega)
  have ek1 : (nI (k + 1)).toNatClampNeg = k + 1 := nI_clamp (by omega)
  refine ⟨fun ho => ?_, fun ho h0 => ?_⟩
  · unfold stp
    rw [m_if_t ho]
    refine ⟨⟨fun k hk h169 => ?_, fun j => ?_⟩, fun q hq => ?_, fun d hd => ?_⟩
    · rw [← h1 k hk h169]
      unfold stpM
      rw [st_f (by omega), st_f (by omega), st_f (by omega), st_f (by omega), st_f (by omega), st_f (by omega), st_f (by omega), st_f (by omega), st_f (by omega), st_f (by omega)]
    · rw [← h1' j]
      unfold stpM
      rw [st_f (by omega), st_f (by omega), st_f (by omega), st_f (by omega), st_f (by omega), st_f (by omega), st_f (by omega), st_f (by omega), st_f (by omega), st_f (by omega)]
    · obtain ⟨g0, g1, g2, g3, g4, g5⟩ := h2 q hq
      unfold stpM mv repQ pA
      rw [ek]
      by_cases e : q = p
      · subst e
        refine ⟨by simp [st_r], by simp [st_r], by simp [st_r], by simp [st_r, hk], fun h => ?_, fun j hj => ?_⟩
        · exact absurd h (by simp [st_r])
        · have hj : j < k + 1 := by simpa [st_r, hk, nI_1, ek1] using hj
          by_cases ej : j = k
          · subst ej; simp [st_r, eb]
          · simpa [st_r, ej] using g5 j (by rw [ek]; omega)
      · refine ⟨by simpa [st_r, e] using g0, by simpa [st_r, e] using g1, by simpa [st_r, e] using g2, by simpa [st_r, e] using g3, fun h => ?_, fun j hj => ?_⟩
        · have h : A 0 q = 0 := by simpa [st_r, e] using h
          simpa [st_r, e, pA] using g4 h
        · obtain ⟨-, ⟨kq, kq1, kq2, -⟩, -⟩ := hi.1 q hq
          have hj : j < (A 3 q).toNatClampNeg := by simpa [st_r, e] using hj
          have hjn : j < 576 := by rw [kq1, nI_clamp (by omega)] at hj; omega
          have z1 : (600 * q + j = 600 * p + k) = False := by rw [eq_iff_iff]; exact ⟨fun e => by omega, fun e => e.elim⟩
          simpa [st_r, z1] using g5 j hj
    · obtain ⟨g1, g2, g3⟩ := h3 d hd
      have e1 := cm_eqP hF hd hcn
      have e2 := cm_eqP hF hd hb
      unfold stpM mv upd
      rw [ec]
      refine ⟨by simp [st_r, e1, g1], ?_, ?_⟩
      · by_cases q : d = b
        · subst q; simp [st_r, g2]
        · simpa [st_r, e2, q] using g2
      · by_cases q : d = b
        · subst q; simp [st_r, g3]
        · simpa [st_r, e2, q] using g3
  · unfold stp
    rw [m_if_f ho]
    refine ⟨⟨fun k hk h169 => ?_, fun j => ?_⟩, fun q hq => ?_, fun d hd => ?_⟩
    · rw [← h1 k hk h169]
      unfold stpM
      rw [st_f (by omega), st_f (by omega), st_f (by omega), st_f (by omega), st_f (by omega), st_f (by omega), st_f (by omega), st_f (by omega)]
    · rw [← h1' j]
      unfold stpM
      rw [st_f (by omega), st_f (by omega), st_f (by omega), st_f (by omega), st_f (by omega), st_f (by omega), st_f (by omega), st_f (by omega)]
    · obtain ⟨g0, g1, g2, g3, g4, g5⟩ := h2 q hq
      unfold stpM mv repQ pA
      rw [ek]
      by_cases e : q = p
      · subst e
        refine ⟨by simpa [st_r] using g0, by simpa [st_r] using g1, by simpa [st_r] using g2, by simp [st_r, hk], fun h => ?_, fun j hj => ?_⟩
        · simp [st_r, eb]
        · have hj : j < k + 1 := by simpa [st_r, hk, nI_1, ek1] using hj
          by_cases ej : j = k
          · subst ej; simp [st_r, eb]
          · simpa [st_r, ej] using g5 j (by rw [ek]; omega)
      · refine ⟨by simpa [st_r, e] using g0, by simpa [st_r, e] using g1, by simpa [st_r, e] using g2, by simpa [st_r, e] using g3, fun h => ?_, fun j hj => ?_⟩
        · have h : A 0 q = 0 := by simpa [st_r, e] using h
          simpa [st_r, e, pA] using g4 h
        · obtain ⟨-, ⟨kq, kq1, kq2, -⟩, -⟩ := hi.1 q hq
          have hj : j < (A 3 q).toNatClampNeg := by simpa [st_r, e] using hj
          have hjn : j < 576 := by rw [kq1, nI_clamp (by omega)] at hj; omega
          have z1 : (600 * q + j = 600 * p + k) = False := by rw [eq_iff_iff]; exact ⟨fun e => by omega, fun e => e.elim⟩
          simpa [st_r, z1] using g5 j hj
    · obtain ⟨g1, g2, g3⟩ := h3 d hd
      have e1 := cm_eqP hF hd hcn
      have e2 := cm_eqP hF hd hb
      unfold stpM mv upd
      rw [ec]
      refine ⟨by simp [st_r, e1, e2, g1], ?_, ?_⟩
      · by_cases q : d = b
        · subst q; simp [st_r, g2]
        · simpa [st_r, e2, q] using g2
      · by_cases q : d = b
        · subst q; simp [st_r, g3]
        · simpa [st_r, e2, q] using g3
end
