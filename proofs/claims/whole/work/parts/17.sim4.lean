theorem m_updI (f : Nat → Int32) (k : Nat) (x : Int32) : updV (fun j => Value.int (f j)) k (.int x) = fun j => .int (upd f k x j) := by
  funext j
  by_cases q : j = k
  · subst q; simp [updV, upd]
  · simp [updV, upd, q]
theorem m_updJ (f : Nat → Int64) (k : Nat) (x : Int64) : updV (fun j => Value.long (f j)) k (.long x) = fun j => .long (vp_updL f k x j) := by
  funext j
  by_cases q : j = k
  · subst q; simp [updV, vp_updL]
  · simp [updV, vp_updL, q]
section SIM
variable {p : Program} {l : Launch} {e : Env} {R : Room} {s0 s : State} {m : MethodId} {args : Array Value} {below : List Frame} {meth : Method} {c : Code} {H : Heap} {locs : List Loc} {cells slots : Nat} {Q : State → Prop} {ls : Array Slot}
variable {rom : Nat → Nat} {romC : Nat → mC} {D : va_G} {cA eC : Nat → ClassId} {y pc len tgt pc' : Nat} {i : Instr} {L L' : mL} {S S' : List Value} {h h' : mH}
set_option maxHeartbeats 4000000 in
/-- a branch -/
theorem m_simB {cc : ClassFile.Cond} {x z : Int32} (C : m_Fr p s0 s m args meth c y) (h1 : m_at y pc = some (i, len, tgt)) (h2 : m_br i S = some (cc, x, z, S'))
    (kt : m_cnd cc x z → W p l e R s m args below meth c H locs cells slots Q (F0 m tgt ls (S'.map (m_cv (m_ad s0.heap.size rom)))))
    (kf : ¬ m_cnd cc x z → W p l e R s m args below meth c H locs cells slots Q (F0 m (pc + len) ls (S'.map (m_cv (m_ad s0.heap.size rom))))) :
    W p l e R s m args below meth c H locs cells slots Q (F0 m pc ls (S.map (m_cv (m_ad s0.heap.size rom)))) := by
  obtain ⟨hx, hb, hml, hown, hW, hts, hnm, hrt, hlk, hex, hy⟩ := C
  obtain ⟨hdg, hck⟩ := m_at_ok hy h1
  simp only [m_ck2, Bool.and_eq_true, Bool.or_eq_true, decide_eq_true_eq] at hck
  obtain ⟨hlen, htg, -⟩ := hck
  unfold m_br at h2
  split at h2
  · split at h2
    · simp only [Option.some.injEq, Prod.mk.injEq] at h2
      obtain ⟨rfl, rfl, rfl, rfl⟩ := h2
      have e1 : len = 3 := by simp [m_len] at hlen; exact hlen.symm
      subst e1
      simp only [m_tg, decide_eq_true_eq] at htg
      rename_i cc off _ _ _
      cases cc
      · exact lv_if_eq hx hb hdg htg kt kf
      · exact lv_if_ne hx hb hdg htg kt (fun q => kf (fun hn => hn q))
      · exact lv_if_lt hx hb hdg htg kt kf
      · exact lv_if_ge hx hb hdg htg kt kf
      · exact lv_if_gt hx hb hdg htg kt kf
      · exact lv_if_le hx hb hdg htg kt kf
    · cases h2
  · split at h2
    · simp only [Option.some.injEq, Prod.mk.injEq] at h2
      obtain ⟨rfl, rfl, rfl, rfl⟩ := h2
      have e1 : len = 3 := by simp [m_len] at hlen; exact hlen.symm
      subst e1
      simp only [m_tg, decide_eq_true_eq] at htg
      rename_i cc off _ _ _ _
      cases cc
      · exact lv_icmp_eq hx hb hdg htg kt kf
      · exact lv_icmp_ne hx hb hdg htg kt (fun q => kf (fun hn => hn q))
      · exact lv_icmp_lt hx hb hdg htg kt kf
      · exact lv_icmp_ge hx hb hdg htg kt kf
      · exact lv_icmp_gt hx hb hdg htg kt kf
      · exact lv_icmp_le hx hb hdg htg kt kf
    · cases h2
  · cases h2
set_option maxHeartbeats 4000000 in
/-- a load from an array -/
theorem m_simL {j : Int32} {n : Nat} {f : Nat → Value} (C : m_Fr p s0 s m args meth c y) (hK : va_K D m_cls (m_at0 cA) s) (hr : m_romOk s0 rom romC) (hR : m_Rel s0 rom romC D cA eC h H) (h1 : m_at y pc = some (i, len, tgt)) (h2 : m_al i S h = some (j, n, f, S')) (hin : m_in j n)
    (k : W p l e R s m args below meth c H locs cells slots Q (F0 m (pc + len) ls ((f j.toNatClampNeg :: S').map (m_cv (m_ad s0.heap.size rom))))) :
    W p l e R s m args below meth c H locs cells slots Q (F0 m pc ls (S.map (m_cv (m_ad s0.heap.size rom)))) := by
  obtain ⟨hx, hb, hml, hown, hW, hts, hnm, hrt, hlk, hex, hy⟩ := C
  obtain ⟨hdg, hck⟩ := m_at_ok hy h1
  simp only [m_ck2, Bool.and_eq_true, Bool.or_eq_true, decide_eq_true_eq] at hck
  obtain ⟨hlen, -, -⟩ := hck
  have hlt : j.toNatClampNeg < n := Nat.not_le.mp fun q => hin (Or.inr q)
  unfold m_al at h2
  split at h2
  · rename_i j' a S1
    split at h2
    · rename_i n' f' e1
      simp only [Option.some.injEq, Prod.mk.injEq] at h2
      obtain ⟨rfl, rfl, rfl, rfl⟩ := h2
      have e0 : len = 1 := by simp [m_len] at hlen; exact hlen.symm
      subst e0
      obtain ⟨cell, x1, x2, x3, x4, x5, x6⟩ := m_isInts hR hr hW.alike hK e1
      exact W.iald hx hb x1 x2 x3 (fun q => q.elim (fun q => hin (Or.inl q)) (fun q => by have := x4.1; omega)) (x6 _ hlt) rfl rfl hdg k
    · rename_i n' f' e1
      simp only [Option.some.injEq, Prod.mk.injEq] at h2
      obtain ⟨rfl, rfl, rfl, rfl⟩ := h2
      have e0 : len = 1 := by simp [m_len] at hlen; exact hlen.symm
      subst e0
      obtain ⟨ha, hb2, hrel⟩ := m_own hR hr (a := a) (by rw [e1]; intro q; cases q) (fun n f => Or.inl (by rw [e1]; intro q; simp at q))
      rw [e1, ← m_ad_lt (rom := rom) hb2] at hrel
      exact W.zald hx hb hrel.2 ((hK.2 1 _ rfl).1 n' _) (fun q => by cases q) (by rw [arrV_size]; exact hin) (arrV_read _ _ hlt) rfl rfl hdg k
    · rename_i n' f' e1
      simp only [Option.some.injEq, Prod.mk.injEq] at h2
      obtain ⟨rfl, rfl, rfl, rfl⟩ := h2
      have e0 : len = 1 := by simp [m_len] at hlen; exact hlen.symm
      subst e0
      obtain ⟨ha, hb2, hrel⟩ := m_own hR hr (a := a) (by rw [e1]; intro q; cases q) (fun n f => Or.inl (by rw [e1]; intro q; cases q))
      rw [e1, ← m_ad_lt (rom := rom) hb2] at hrel
      exact W.lald hx hb hrel.2 ((hK.2 2 _ rfl).1 n' _) (fun q => by cases q) (by rw [arrV_size]; exact hin) (arrV_read _ _ hlt) rfl rfl hdg k
    · rename_i n' f' e1
      simp only [Option.some.injEq, Prod.mk.injEq] at h2
      obtain ⟨rfl, rfl, rfl, rfl⟩ := h2
      have e0 : len = 1 := by simp [m_len] at hlen; exact hlen.symm
      subst e0
      obtain ⟨ha, hb2, hrel⟩ := m_own hR hr (a := a) (by rw [e1]; intro q; cases q) (fun n f => Or.inl (by rw [e1]; intro q; cases q))
      rw [e1, ← m_ad_lt (rom := rom) hb2] at hrel
      exact W.aald hx hb hrel.2 ((hK.2 3 _ rfl).1 n' _) rfl (fun q => by cases q) (by rw [arrV_size]; exact hin) (arrV_read _ _ hlt) rfl rfl hdg k
    · cases h2
  · cases h2
set_option maxHeartbeats 4000000 in
/-- a store into an array -/
theorem m_simT {j : Int32} {n a : Nat} {cf : Nat → mC} (C : m_Fr p s0 s m args meth c y) (hK : va_K D m_cls (m_at0 cA) s) (hr : m_romOk s0 rom romC) (hR : m_Rel s0 rom romC D cA eC h H) (h1 : m_at y pc = some (i, len, tgt)) (h2 : m_as i S h = some (j, n, true, a, cf, S')) (hin : m_in j n) (hlo : ∀ q ∈ locs, s0.heap.size ≤ q.base)
    (k : ∀ (H' : Heap) (locs' : List Loc), m_Rel s0 rom romC D cA eC (m_set h a (cf j.toNatClampNeg)) H' → (∀ q ∈ locs', s0.heap.size ≤ q.base) → W p l e R s m args below meth c H' locs' cells slots Q (F0 m (pc + len) ls (S'.map (m_cv (m_ad s0.heap.size rom))))) :
    W p l e R s m args below meth c H locs cells slots Q (F0 m pc ls (S.map (m_cv (m_ad s0.heap.size rom)))) := by
  obtain ⟨hx, hb, hml, hown, hW, hts, hnm, hrt, hlk, hex, hy⟩ := C
  obtain ⟨hdg, hck⟩ := m_at_ok hy h1
  simp only [m_ck2, Bool.and_eq_true, Bool.or_eq_true, decide_eq_true_eq] at hck
  obtain ⟨hlen, -, -⟩ := hck
  have hlocs : ∀ jj : Nat, a < m_sB → ∀ q ∈ locs ++ [⟨m_ad s0.heap.size rom a, jj⟩], s0.heap.size ≤ q.base := by
    intro jj ha q hq
    rcases List.mem_append.mp hq with hq | hq
    · exact hlo q hq
    · simp only [List.mem_singleton] at hq
      rw [hq]
      show s0.heap.size ≤ m_ad _ _ a
      rw [m_ad_lt ha]; omega
  unfold m_as at h2
  split at h2
  · split at h2
    · rename_i x j' a' S1
      split at h2
      · rename_i n' f' e1
        simp only [Option.some.injEq, Prod.mk.injEq, decide_eq_true_eq] at h2
        obtain ⟨rfl, rfl, hlt, rfl, rfl, rfl⟩ := h2
        have e0 : len = 1 := by simp [m_len] at hlen; exact hlen.symm
        subst e0
        obtain ⟨ha, hb2, hrel⟩ := m_own hR hr (a := a') (by rw [e1]; intro q; cases q) (fun n f => Or.inr hlt)
        rw [e1] at hrel
        obtain ⟨hr1, hr2⟩ := hrel
        rw [← m_ad_lt (rom := rom) hb2] at hr2
        refine W.iast hx hb hr2 ((hK.2 0 _ rfl).1 n' _) (fun q => by cases q) (by rw [arrV_size]; exact hin) rfl rfl hdg (fun H' t1 t2 t3 => ?_)
        refine k H' _ (m_rel_set hR ha ⟨hr1, ?_⟩ t2 (by rw [m_ad_lt hb2] at t3; exact t3)) (hlocs _ hlt)
        rw [m_ad_lt hb2] at t1
        rw [t1, arrV_store, m_updI]
      · cases h2
    · cases h2
  · split at h2
    · rename_i x j' a' S1
      split at h2
      · rename_i n' f' e1
        simp only [Option.some.injEq, Prod.mk.injEq, decide_eq_true_eq, Bool.and_eq_true, Bool.or_eq_true] at h2
        obtain ⟨rfl, rfl, ⟨hz, hlt⟩, rfl, rfl, rfl⟩ := h2
        have e0 : len = 1 := by simp [m_len] at hlen; exact hlen.symm
        subst e0
        obtain ⟨ha, hb2, hrel⟩ := m_own hR hr (a := a') (by rw [e1]; intro q; cases q) (fun n f => Or.inr hlt)
        rw [e1] at hrel
        obtain ⟨hr1, hr2⟩ := hrel
        rw [← m_ad_lt (rom := rom) hb2] at hr2
        have hnz : narrow .boolean (.int x) = .int x := by rcases hz with rfl | rfl <;> decide
        refine W.zast hx hb hr2 ((hK.2 1 _ rfl).1 n' _) (fun q => by cases q) (by rw [arrV_size]; exact hin) rfl rfl hdg (fun H' t1 t2 t3 => ?_)
        rw [hnz] at t1
        refine k H' _ (m_rel_set hR ha ⟨hr1, ?_⟩ t2 (by rw [m_ad_lt hb2] at t3; exact t3)) (hlocs _ hlt)
        rw [m_ad_lt hb2] at t1
        rw [t1, arrV_store, m_updI]
      · cases h2
    · cases h2
  · split at h2
    · rename_i x j' a' S1
      split at h2
      · rename_i n' f' e1
        simp only [Option.some.injEq, Prod.mk.injEq, decide_eq_true_eq] at h2
        obtain ⟨rfl, rfl, hlt, rfl, rfl, rfl⟩ := h2
        have e0 : len = 1 := by simp [m_len] at hlen; exact hlen.symm
        subst e0
        obtain ⟨ha, hb2, hrel⟩ := m_own hR hr (a := a') (by rw [e1]; intro q; cases q) (fun n f => Or.inr hlt)
        rw [e1] at hrel
        obtain ⟨hr1, hr2⟩ := hrel
        rw [← m_ad_lt (rom := rom) hb2] at hr2
        refine W.last hx hb hr2 ((hK.2 2 _ rfl).1 n' _) (fun q => by cases q) (by rw [arrV_size]; exact hin) rfl rfl hdg (fun H' t1 t2 t3 => ?_)
        refine k H' _ (m_rel_set hR ha ⟨hr1, ?_⟩ t2 (by rw [m_ad_lt hb2] at t3; exact t3)) (hlocs _ hlt)
        rw [m_ad_lt hb2] at t1
        rw [t1, arrV_store, m_updJ]
      · cases h2
    · cases h2
  · cases h2
end SIM
