/-! Storey: its small methods -/
theorem Y_isWithin {a b c : Int32} {h : mH} {Q : mE → mH → Prop} (k : Q (.inl (some (.int (if b ≤ a ∧ a ≤ c then 1 else 0)))) h) : Y y_Esc_isWithin [.int a, .int b, .int c] h Q := by
  unfold Y
  refine X_s rfl rfl ?_
  refine X_s rfl rfl ?_
  refine X_b rfl rfl rfl (fun q => ?_) (fun q => ?_)
  · refine X_s rfl rfl ?_
    refine X_r rfl rfl rfl rfl ?_
    have : ¬ (b ≤ a ∧ a ≤ c) := fun h => Int32.not_lt.mpr h.1 q
    rw [if_neg this] at k; exact k
  · refine X_s rfl rfl ?_
    refine X_s rfl rfl ?_
    refine X_b rfl rfl rfl (fun q2 => ?_) (fun q2 => ?_)
    · refine X_s rfl rfl ?_
      refine X_r rfl rfl rfl rfl ?_
      have : ¬ (b ≤ a ∧ a ≤ c) := fun h => Int32.not_lt.mpr h.2 q2
      rw [if_neg this] at k; exact k
    · refine X_s rfl rfl ?_
      refine X_s rfl rfl ?_
      refine X_r rfl rfl rfl rfl ?_
      have : b ≤ a ∧ a ≤ c := ⟨Int32.not_lt.mp q, Int32.not_lt.mp q2⟩
      rw [if_pos this] at k; exact k
section
variable {F : Fx} {C : Ct} {J : Int64} {G : Ex} {Q : mE → mH → Prop}
/-- isWall -/
theorem Y_isWall {c : Nat} (hc : c < F.1 * F.2.1) (hn : F.1 * F.2.1 ≤ 576) (k : Q (.inl (some (.int (if C 2 c = 1 then 1 else 0)))) (hp F C J G)) : Y y_Storey_isWall [.ref 1, .int (nI c)] (hp F C J G) Q := by
  unfold Y
  refine X_s rfl rfl ?_
  refine X_s rfl rfl ?_
  refine X_s rfl rfl ?_
  refine X_l rfl rfl rfl rfl (show m_in (nI c) (F.1 * F.2.1) from nI_in hc (by omega)) ?_
  trace_state
  sorry
end
