section SIM
variable {p : Program} {l : Launch} {e : Env} {R : Room} {s0 s : State} {m : MethodId} {args : Array Value} {below : List Frame} {meth : Method} {c : Code} {H : Heap} {locs : List Loc} {cells slots : Nat} {Q : State → Prop} {ls : Array Slot}
variable {rom : Nat → Nat} {romC : Nat → mC} {D : va_G} {cA eC : Nat → ClassId} {y pc len tgt pc' : Nat} {i : Instr} {L L' : mL} {S S' : List Value} {h h' : mH}
/-- a field is read -/
theorem m_W_get {ci k a index : Nat} {C : String} {T : u_T} {N : Nat} {fs : List Value} {v : Value} {rest : List Value} (hx : p.tables.exec = Jvm.exec) (hb : c.code = m_by y) (hown : s.vm.findClass (m_R (m_o y)) = some m.cls) (hts : ∀ w ∈ m_tb, w.before args s = true) (hin : ∀ w ∈ u_ws C T N, w ∈ m_tb)
    (hK : va_K D m_cls (m_at0 cA) s) (hc : m_cls[ci]? = some (C, T, N)) (hO : t_OB a (D.1 ci) N (D.2 ci) H (vp_V fs)) (hk : k < N) (hTC : (T k).1 = C) (hlink : Cond.fieldLink (m_R (m_o y)) index C (T k).2.1 (T k).2.2.1 ∈ m_tb) (hv : fs[k]? = some v) (hdg : decode (m_by y) pc = .ok (.getfield index, 3))
    (kk : W p l e R s m args below meth c H locs cells slots Q (F0 m (pc + 3) ls (v :: rest))) : W p l e R s m args below meth c H locs cells slots Q (F0 m pc ls (.ref a :: rest)) := by
  have hP : va_P D m_cls [(a, .inr (ci, fs))] H := fun k q hq => by
    match k, hq with
    | 0, hq => cases hq; exact ⟨_, hc, hO⟩
    | k + 1, hq => simp at hq
  exact va_get (D := D) (cl := m_cls) (ws := [(a, .inr (ci, fs))]) hx hb hts hin hown hK hP 0 rfl hc k hk (hts _ hlink) (fun _ h9 => by rw [← hTC]; exact h9) hv hdg kk
theorem m_fit_ok {ty : FieldType} {v : Value} (h : m_fit ty v = true) : narrow ty v = v ∧ fits ty v = true := by
  unfold m_fit at h
  split at h
  · exact ⟨rfl, rfl⟩
  · rename_i x
    rcases (by simpa using h : x = 0 ∨ x = 1) with rfl | rfl
    · exact ⟨by decide, by decide⟩
    · exact ⟨by decide, by decide⟩
  · exact ⟨rfl, rfl⟩
  · exact ⟨rfl, rfl⟩
  · cases h
theorem m_fit_cv {ty : FieldType} {v : Value} (ad : Nat → Nat) (h : m_fit ty v = true) : m_fit ty (m_cv ad v) = true := by
  unfold m_fit at h
  split at h
  · rfl
  · exact h
  · rfl
  · rfl
  · cases h
/-- a field is written -/
theorem m_W_put {ci k a index : Nat} {C : String} {T : u_T} {N : Nat} {fs : List Value} {v : Value} {rest : List Value} (hx : p.tables.exec = Jvm.exec) (hb : c.code = m_by y) (hown : s.vm.findClass (m_R (m_o y)) = some m.cls) (hts : ∀ w ∈ m_tb, w.before args s = true) (hin : ∀ w ∈ u_ws C T N, w ∈ m_tb)
    (hty : ∀ k, k < N → parseFieldDescriptor (T k).2.2.1 = some (m_ty ci k)) (hnm : ∀ a, a < N → ∀ b, b < N → a ≠ b → (T a).2.1 ≠ (T b).2.1) (hK : va_K D m_cls (m_at0 cA) s) (hc : m_cls[ci]? = some (C, T, N)) (hO : t_OB a (D.1 ci) N (D.2 ci) H (vp_V fs)) (hk : k < N) (hTC : (T k).1 = C)
    (hlink : Cond.fieldLink (m_R (m_o y)) index C (T k).2.1 (T k).2.2.1 ∈ m_tb) (hl : k < fs.length) (hfit : m_fit (m_ty ci k) v = true) (hfin : (T k).2.2.2 = false ∨ (meth.name = "<init>" ∧ C = m_R (m_o y))) (hdg : decode (m_by y) pc = .ok (.putfield index, 3))
    (kk : ∀ (H1 : Heap) (j : Nat), t_OB a (D.1 ci) N (D.2 ci) H1 (vp_V (fs.set k v)) → H1.size = H.size → (∀ q, q ≠ a → H1[q]? = H[q]?) → W p l e R s m args below meth c H1 (locs ++ [⟨a, j⟩]) cells slots Q (F0 m (pc + 3) ls rest)) : W p l e R s m args below meth c H locs cells slots Q (F0 m pc ls (v :: .ref a :: rest)) := by
  have hap := va_apart (own := C) hts hin (m_ty ci) hty hnm hK hc
  obtain ⟨cell, q1, q2, q3, q4⟩ := hO
  obtain ⟨hS, hfc, kC, hkC, hkind⟩ := hK.1 ci _ hc
  obtain ⟨cf, kf, fi, f, hi, hsl⟩ := hS k hk
  obtain ⟨hn, hf⟩ := m_fit_ok hfit
  have hst := (u_facts hfc hkC (u_lays hts hin hk) hi).1
  have hlay := hts _ (hin _ (u_in_lay hk))
  unfold u_lay at hlay
  have hlt : f.slot < cell.slots.size := by rw [hsl]; exact k2_hasslot (q4 k hk)
  have hi' : s.fieldFound? C (T k).2.1 (T k).2.2.1 = some (cf, kf, fi, f) := by rw [← hTC]; exact hi
  cases hfn : (T k).2.2.2 with
  | false =>
    rw [if_neg (by rw [hfn]; decide)] at hlay
    have h6 := u_store hfc hkC hkind hlay hi (hty k hk) hn hf
    refine W.putK hx hb (f := f) ⟨hown, hts _ hlink, ⟨_, _, _, hi'⟩, hst⟩ (by rw [q2]; exact h6) q1 q3 hlt rfl rfl hdg fun H' e1 e2 e3 => ?_
    rw [hsl] at e1
    exact kk H' _ (t_OB.to (V := updV (vp_V fs) k v) ⟨_, e1, q2, q3, t_set q4 hap hk v⟩ (fun j _ => vp_updV_set hl v j)) e2 e3
  | true =>
    rw [if_pos hfn] at hlay
    rcases hfin with hfin | ⟨hin2, hC⟩
    · rw [hfn] at hfin; cases hfin
    have hcf : m.cls = cf := by
      obtain ⟨_, _, c', _, _, _, -, -, hf', -, -, -, hown2, -⟩ := Cond.laysFinal_spec hlay
      have e1 : c' = cf := by have := hi.symm.trans hf'; simp at this; exact this.1.symm
      rw [hTC, hC] at hown2
      rw [← e1]; exact Option.some.inj (hown.symm.trans hown2)
    have h6 := u_fits hfc hkC hkind (Or.inr hlay) hi (hty k hk) hn hf
    refine W.putFinK hx hb hown (hts _ hlink) hi' hst hcf hin2 (by rw [q2]; exact h6) q1 q3 hlt rfl rfl hdg fun H' e1 e2 e3 => ?_
    rw [hsl] at e1
    exact kk H' _ (t_OB.to (V := updV (vp_V fs) k v) ⟨_, e1, q2, q3, t_set q4 hap hk v⟩ (fun j _ => vp_updV_set hl v j)) e2 e3
/-- an object is made -/
theorem m_W_new {ci index : Nat} {C : String} {T : u_T} {N : Nat} {rest : List Value} (hx : p.tables.exec = Jvm.exec) (hb : c.code = m_by y) (hown : s.vm.findClass (m_R (m_o y)) = some m.cls) (hts : ∀ w ∈ m_tb, w.before args s = true) (hin : ∀ w ∈ u_ws C T N, w ∈ m_tb)
    (hty : ∀ k, k < N → parseFieldDescriptor (T k).2.2.1 = some (m_ty ci k)) (hK : va_K D m_cls (m_at0 cA) s) (hc : m_cls[ci]? = some (C, T, N)) (hcl : Cond.classLink (m_R (m_o y)) index C ∈ m_tb) (hinst : Cond.instantiable C N ∈ m_tb) (hini : Cond.initialized C ∈ m_tb)
    (hcells : cells + 1 ≤ R.cells) (hslots : slots + N ≤ R.slots) (hdg : decode (m_by y) pc = .ok (.new index, 3))
    (kk : ∀ (H1 : Heap), t_OB H.size (D.1 ci) N (D.2 ci) H1 (fun k => defaultValue (m_ty ci k)) → H1.size = H.size + 1 → (∀ q, q < H.size → H1[q]? = H[q]?) → W p l e R s m args below meth c H1 locs (cells + 1) (slots + N) Q (F0 m (pc + 3) ls (.ref H.size :: rest))) : W p l e R s m args below meth c H locs cells slots Q (F0 m pc ls rest) := by
  have hK1 := hK.1 ci _ hc
  obtain ⟨hS, hfc, kC, hkC, hkind⟩ := id hK1
  refine W.newcK hx hb hown (hts _ hcl) (hts _ hinst) (hts _ hini) rfl hdg hcells hslots hfc rfl fun H' kC' h2 e1 e2 e3 => ?_
  exact kk H' (u_born (m_ty ci) hts hin hK1 h2 e1 hty) e2 e3
end SIM
