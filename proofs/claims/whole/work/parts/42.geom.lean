/-! the reference's cells, as numbers -/
def inS (F : Fx) (c : Nat) : Prop := c % 24 < F.1 ∧ c / 24 < F.2.1
def bsN (F : Fx) (c w : Nat) : Option Nat :=
  if w = 0 then (if c % 24 + 1 < F.1 ∧ c / 24 < F.2.1 then some (c + 1) else none)
  else if w = 1 then (if 1 ≤ c % 24 ∧ c % 24 - 1 < F.1 ∧ c / 24 < F.2.1 then some (c - 1) else none)
  else if w = 2 then (if c % 24 < F.1 ∧ c / 24 + 1 < F.2.1 then some (c + 24) else none)
  else (if c % 24 < F.1 ∧ 1 ≤ c / 24 ∧ c / 24 - 1 < F.2.1 then some (c - 24) else none)
theorem bsI_eq {F : Fx} (hF : okF F) {c w : Nat} (hc : c < 576) (hw : w < 4) : bsI F c w = (match bsN F c w with | some d => nI d | none => -1) := by
  obtain ⟨⟨f1, f2⟩, ⟨f3, f4⟩, -⟩ := hF
  have hc24 : c = 24 * (c / 24) + c % 24 := by omega
  have em1 : ¬ (0 : Int32) ≤ -1 := by decide
  have e24 : (24 : Int32) = nI 24 := rfl
  have hw4 : w = 0 ∨ w = 1 ∨ w = 2 ∨ w = 3 := by omega
  rcases hw4 with rfl | rfl | rfl | rfl
  · have ex : nI (c % 24) + dxI 0 = nI (c % 24 + 1) := nI_1 _
    have ey : nI (c / 24) + dyI 0 = nI (c / 24) := Int32.add_zero _
    have eb : bsN F c 0 = if c % 24 + 1 < F.1 ∧ c / 24 < F.2.1 then some (c + 1) else none := rfl
    unfold bsI
    rw [ex, ey, eb]
    by_cases h : c % 24 + 1 < F.1 ∧ c / 24 < F.2.1
    · rw [if_pos h, if_pos ⟨⟨nI_pos' (by omega), nI_lt h.1 (by omega)⟩, nI_pos' (by omega), nI_lt h.2 (by omega)⟩, e24, pk_mul, nI_add]
      dsimp only; congr 1; omega
    · rw [if_neg h, if_neg (fun q => h ⟨(nI_ltI (by omega) (by omega)).mp q.1.2, (nI_ltI (by omega) (by omega)).mp q.2.2⟩)]
  · have ey : nI (c / 24) + dyI 1 = nI (c / 24) := Int32.add_zero _
    have eb : bsN F c 1 = if 1 ≤ c % 24 ∧ c % 24 - 1 < F.1 ∧ c / 24 < F.2.1 then some (c - 1) else none := rfl
    unfold bsI
    rw [ey, eb]
    by_cases h0 : c % 24 = 0
    · have ex : nI (c % 24) + dxI 1 = -1 := by rw [h0]; rfl
      rw [ex, if_neg (c := 1 ≤ c % 24 ∧ _) (fun q => by omega), if_neg (fun q => em1 q.1.1)]
    · have ex : nI (c % 24) + dxI 1 = nI (c % 24 - 1) := by
        obtain ⟨k, hk⟩ : ∃ k, c % 24 = k + 1 := ⟨c % 24 - 1, by omega⟩
        rw [hk]; exact pk_m1 k
      rw [ex]
      by_cases h : 1 ≤ c % 24 ∧ c % 24 - 1 < F.1 ∧ c / 24 < F.2.1
      · rw [if_pos h, if_pos ⟨⟨nI_pos' (by omega), nI_lt h.2.1 (by omega)⟩, nI_pos' (by omega), nI_lt h.2.2 (by omega)⟩, e24, pk_mul, nI_add]
        dsimp only; congr 1; omega
      · rw [if_neg h, if_neg (fun q => h ⟨by omega, (nI_ltI (by omega) (by omega)).mp q.1.2, (nI_ltI (by omega) (by omega)).mp q.2.2⟩)]
  · have ex : nI (c % 24) + dxI 2 = nI (c % 24) := Int32.add_zero _
    have ey : nI (c / 24) + dyI 2 = nI (c / 24 + 1) := nI_1 _
    have eb : bsN F c 2 = if c % 24 < F.1 ∧ c / 24 + 1 < F.2.1 then some (c + 24) else none := rfl
    unfold bsI
    rw [ex, ey, eb]
    by_cases h : c % 24 < F.1 ∧ c / 24 + 1 < F.2.1
    · rw [if_pos h, if_pos ⟨⟨nI_pos' (by omega), nI_lt h.1 (by omega)⟩, nI_pos' (by omega), nI_lt h.2 (by omega)⟩, e24, pk_mul, nI_add]
      dsimp only; congr 1; omega
    · rw [if_neg h, if_neg (fun q => h ⟨(nI_ltI (by omega) (by omega)).mp q.1.2, (nI_ltI (by omega) (by omega)).mp q.2.2⟩)]
  · have ex : nI (c % 24) + dxI 3 = nI (c % 24) := Int32.add_zero _
    have eb : bsN F c 3 = if c % 24 < F.1 ∧ 1 ≤ c / 24 ∧ c / 24 - 1 < F.2.1 then some (c - 24) else none := rfl
    unfold bsI
    rw [ex, eb]
    by_cases h0 : c / 24 = 0
    · have ey : nI (c / 24) + dyI 3 = -1 := by rw [h0]; rfl
      rw [ey, if_neg (c := c % 24 < F.1 ∧ 1 ≤ c / 24 ∧ _) (fun q => by omega), if_neg (fun q => em1 q.2.1)]
    · have ey : nI (c / 24) + dyI 3 = nI (c / 24 - 1) := by
        obtain ⟨k, hk⟩ : ∃ k, c / 24 = k + 1 := ⟨c / 24 - 1, by omega⟩
        rw [hk]; exact pk_m1 k
      rw [ey]
      by_cases h : c % 24 < F.1 ∧ 1 ≤ c / 24 ∧ c / 24 - 1 < F.2.1
      · rw [if_pos h, if_pos ⟨⟨nI_pos' (by omega), nI_lt h.1 (by omega)⟩, nI_pos' (by omega), nI_lt h.2.2 (by omega)⟩, e24, pk_mul, nI_add]
        dsimp only; congr 1; omega
      · rw [if_neg h, if_neg (fun q => h ⟨(nI_ltI (by omega) (by omega)).mp q.1.2, by omega, (nI_ltI (by omega) (by omega)).mp q.2.2⟩)]
theorem bsN_in {F : Fx} (hF : okF F) {c w d : Nat} (h : bsN F c w = some d) : inS F d ∧ d < 576 := by
  obtain ⟨⟨f1, f2⟩, ⟨f3, f4⟩, -⟩ := hF
  have key : inS F d → inS F d ∧ d < 576 := fun h => ⟨h, by have := h.1; have := h.2; omega⟩
  apply key
  unfold bsN at h
  unfold inS
  split at h
  · split at h
    · cases h; omega
    · cases h
  · split at h
    · split at h
      · cases h; omega
      · cases h
    · split at h
      · split at h
        · cases h; omega
        · cases h
      · split at h
        · cases h; omega
        · cases h
theorem bsN_sym {F : Fx} (hF : okF F) {c w d : Nat} (hc : inS F c) (hw : w < 4) (h : bsN F c w = some d) : ∃ w', w' < 4 ∧ bsN F d w' = some c := by
  obtain ⟨⟨f1, f2⟩, ⟨f3, f4⟩, -⟩ := hF
  obtain ⟨c1, c2⟩ := hc
  have hw4 : w = 0 ∨ w = 1 ∨ w = 2 ∨ w = 3 := by omega
  rcases hw4 with rfl | rfl | rfl | rfl
  · unfold bsN at h
    rw [if_pos rfl] at h
    split at h
    · cases h
      refine ⟨1, by omega, ?_⟩
      unfold bsN
      rw [if_neg (by omega), if_pos rfl, if_pos (by omega)]
      congr 1
    · cases h
  · unfold bsN at h
    rw [if_neg (by omega), if_pos rfl] at h
    split at h
    · cases h
      refine ⟨0, by omega, ?_⟩
      unfold bsN
      rw [if_pos rfl, if_pos (by omega)]
      congr 1; omega
    · cases h
  · unfold bsN at h
    rw [if_neg (by omega), if_neg (by omega), if_pos rfl] at h
    split at h
    · cases h
      refine ⟨3, by omega, ?_⟩
      unfold bsN
      rw [if_neg (by omega), if_neg (by omega), if_neg (by omega), if_pos (by omega)]
      congr 1
    · cases h
  · unfold bsN at h
    rw [if_neg (by omega), if_neg (by omega), if_neg (by omega)] at h
    split at h
    · cases h
      refine ⟨2, by omega, ?_⟩
      unfold bsN
      rw [if_neg (by omega), if_neg (by omega), if_pos rfl, if_pos (by omega)]
      congr 1; omega
    · cases h
/-- the open cell beside, in the reference -/
def nbM (F : Fx) (C : Ct) (c w : Nat) : Option Nat := match bsN F c w with
  | some d => if C 170 d = 0 then some d else none
  | none => none
def opM (F : Fx) (C : Ct) (c : Nat) : Prop := inS F c ∧ C 170 c = 0
theorem nbM_in {F : Fx} {C : Ct} (hF : okF F) {c w d : Nat} (h : nbM F C c w = some d) : d < 576 ∧ opM F C d := by
  unfold nbM at h
  split at h
  · rename_i d' hd
    split at h
    · rename_i h0
      cases h
      obtain ⟨h1, h2⟩ := bsN_in hF hd
      exact ⟨h2, h1, h0⟩
    · cases h
  · cases h
theorem nbM_sym {F : Fx} {C : Ct} (hF : okF F) {c w d : Nat} (ho : opM F C c) (hw : w < 4) (h : nbM F C c w = some d) : ∃ w', w' < 4 ∧ nbM F C d w' = some c := by
  unfold nbM at h
  split at h
  · rename_i d' hd
    split at h
    · cases h
      obtain ⟨w', hw', e⟩ := bsN_sym hF ho.1 hw hd
      refine ⟨w', hw', ?_⟩
      unfold nbM
      rw [e]
      exact if_pos ho.2
    · cases h
  · cases h
