/-! THE LAW ON THE MACHINE -/
theorem m_law (L : Nat) (xs : Nat → Int32) (hL : L ≤ 2562) : ∃ (n : Nat) (o : mE) (h' : mH), m_exec n 117 0 (m_entry 117 [.ref (m_sB + 2)]) [] ((fun k => if k < m_sB then mNo else m_romC L xs (k - m_sB), 0, 0) : mH) = some (o, h') ∧ o = .inl (some (.int 1)) ∧ h'.2.1 ≤ 601024 ∧ h'.2.2 ≤ 7293000 := by
  rw [bh_0]
  exact law_all hL
