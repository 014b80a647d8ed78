/-- which kind of call calls which kind of method -/
def m_ck3 (y : Nat) (i : Instr) : Bool := match i with
  | .invokevirtual ix => (match m_cl (m_o y) ix with
    | some y' => !m_st y' && !m_ini y'
    | none => true)
  | .invokespecial ix => (match m_cl (m_o y) ix with
    | some y' => !m_st y' && (m_ini y' && ((m_rt y').isNone && (m_hw y').isEmpty))
    | none => true)
  | .invokestatic ix => (match m_cl (m_o y) ix with
    | some y' => m_st y'
    | none => true)
  | _ => true
theorem m_k0 : (mc0).all (fun c => c.2.all (fun q => m_ck3 0 q.2.1)) = true := by decide +kernel
theorem m_k1 : (mc1).all (fun c => c.2.all (fun q => m_ck3 1 q.2.1)) = true := by decide +kernel
theorem m_k2 : (mc2).all (fun c => c.2.all (fun q => m_ck3 2 q.2.1)) = true := by decide +kernel
theorem m_k3 : (mc3).all (fun c => c.2.all (fun q => m_ck3 3 q.2.1)) = true := by decide +kernel
theorem m_k4 : (mc4).all (fun c => c.2.all (fun q => m_ck3 4 q.2.1)) = true := by decide +kernel
theorem m_k5 : (mc5).all (fun c => c.2.all (fun q => m_ck3 5 q.2.1)) = true := by decide +kernel
theorem m_k6 : (mc6).all (fun c => c.2.all (fun q => m_ck3 6 q.2.1)) = true := by decide +kernel
theorem m_k7 : (mc7).all (fun c => c.2.all (fun q => m_ck3 7 q.2.1)) = true := by decide +kernel
theorem m_k8 : (mc8).all (fun c => c.2.all (fun q => m_ck3 8 q.2.1)) = true := by decide +kernel
theorem m_k9 : (mc9).all (fun c => c.2.all (fun q => m_ck3 9 q.2.1)) = true := by decide +kernel
theorem m_k10 : (mc10).all (fun c => c.2.all (fun q => m_ck3 10 q.2.1)) = true := by decide +kernel
theorem m_k11 : (mc11).all (fun c => c.2.all (fun q => m_ck3 11 q.2.1)) = true := by decide +kernel
theorem m_k12 : (mc12).all (fun c => c.2.all (fun q => m_ck3 12 q.2.1)) = true := by decide +kernel
theorem m_k13 : (mc13).all (fun c => c.2.all (fun q => m_ck3 13 q.2.1)) = true := by decide +kernel
theorem m_k14 : (mc14).all (fun c => c.2.all (fun q => m_ck3 14 q.2.1)) = true := by decide +kernel
theorem m_k15 : (mc15).all (fun c => c.2.all (fun q => m_ck3 15 q.2.1)) = true := by decide +kernel
theorem m_k16 : (mc16).all (fun c => c.2.all (fun q => m_ck3 16 q.2.1)) = true := by decide +kernel
theorem m_k17 : (mc17).all (fun c => c.2.all (fun q => m_ck3 17 q.2.1)) = true := by decide +kernel
theorem m_k18 : (mc18).all (fun c => c.2.all (fun q => m_ck3 18 q.2.1)) = true := by decide +kernel
theorem m_k19 : (mc19).all (fun c => c.2.all (fun q => m_ck3 19 q.2.1)) = true := by decide +kernel
theorem m_k20 : (mc20).all (fun c => c.2.all (fun q => m_ck3 20 q.2.1)) = true := by decide +kernel
theorem m_k21 : (mc21).all (fun c => c.2.all (fun q => m_ck3 21 q.2.1)) = true := by decide +kernel
theorem m_k22 : (mc22).all (fun c => c.2.all (fun q => m_ck3 22 q.2.1)) = true := by decide +kernel
theorem m_k23 : (mc23).all (fun c => c.2.all (fun q => m_ck3 23 q.2.1)) = true := by decide +kernel
theorem m_k24 : (mc24).all (fun c => c.2.all (fun q => m_ck3 24 q.2.1)) = true := by decide +kernel
theorem m_k25 : (mc25).all (fun c => c.2.all (fun q => m_ck3 25 q.2.1)) = true := by decide +kernel
theorem m_k26 : (mc26).all (fun c => c.2.all (fun q => m_ck3 26 q.2.1)) = true := by decide +kernel
theorem m_k27 : (mc27).all (fun c => c.2.all (fun q => m_ck3 27 q.2.1)) = true := by decide +kernel
theorem m_k28 : (mc28).all (fun c => c.2.all (fun q => m_ck3 28 q.2.1)) = true := by decide +kernel
theorem m_k29 : (mc29).all (fun c => c.2.all (fun q => m_ck3 29 q.2.1)) = true := by decide +kernel
theorem m_k30 : (mc30).all (fun c => c.2.all (fun q => m_ck3 30 q.2.1)) = true := by decide +kernel
theorem m_k31 : (mc31).all (fun c => c.2.all (fun q => m_ck3 31 q.2.1)) = true := by decide +kernel
theorem m_k32 : (mc32).all (fun c => c.2.all (fun q => m_ck3 32 q.2.1)) = true := by decide +kernel
theorem m_k33 : (mc33).all (fun c => c.2.all (fun q => m_ck3 33 q.2.1)) = true := by decide +kernel
theorem m_k34 : (mc34).all (fun c => c.2.all (fun q => m_ck3 34 q.2.1)) = true := by decide +kernel
theorem m_k35 : (mc35).all (fun c => c.2.all (fun q => m_ck3 35 q.2.1)) = true := by decide +kernel
theorem m_k36 : (mc36).all (fun c => c.2.all (fun q => m_ck3 36 q.2.1)) = true := by decide +kernel
theorem m_k37 : (mc37).all (fun c => c.2.all (fun q => m_ck3 37 q.2.1)) = true := by decide +kernel
theorem m_k38 : (mc38).all (fun c => c.2.all (fun q => m_ck3 38 q.2.1)) = true := by decide +kernel
theorem m_k39 : (mc39).all (fun c => c.2.all (fun q => m_ck3 39 q.2.1)) = true := by decide +kernel
theorem m_k40 : (mc40).all (fun c => c.2.all (fun q => m_ck3 40 q.2.1)) = true := by decide +kernel
theorem m_k41 : (mc41).all (fun c => c.2.all (fun q => m_ck3 41 q.2.1)) = true := by decide +kernel
theorem m_k42 : (mc42).all (fun c => c.2.all (fun q => m_ck3 42 q.2.1)) = true := by decide +kernel
theorem m_k43 : (mc43).all (fun c => c.2.all (fun q => m_ck3 43 q.2.1)) = true := by decide +kernel
theorem m_k44 : (mc44).all (fun c => c.2.all (fun q => m_ck3 44 q.2.1)) = true := by decide +kernel
theorem m_k45 : (mc45).all (fun c => c.2.all (fun q => m_ck3 45 q.2.1)) = true := by decide +kernel
theorem m_k46 : (mc46).all (fun c => c.2.all (fun q => m_ck3 46 q.2.1)) = true := by decide +kernel
theorem m_k47 : (mc47).all (fun c => c.2.all (fun q => m_ck3 47 q.2.1)) = true := by decide +kernel
theorem m_k48 : (mc48).all (fun c => c.2.all (fun q => m_ck3 48 q.2.1)) = true := by decide +kernel
theorem m_k49 : (mc49).all (fun c => c.2.all (fun q => m_ck3 49 q.2.1)) = true := by decide +kernel
theorem m_k50 : (mc50).all (fun c => c.2.all (fun q => m_ck3 50 q.2.1)) = true := by decide +kernel
theorem m_k51 : (mc51).all (fun c => c.2.all (fun q => m_ck3 51 q.2.1)) = true := by decide +kernel
theorem m_k52 : (mc52).all (fun c => c.2.all (fun q => m_ck3 52 q.2.1)) = true := by decide +kernel
theorem m_k53 : (mc53).all (fun c => c.2.all (fun q => m_ck3 53 q.2.1)) = true := by decide +kernel
theorem m_k54 : (mc54).all (fun c => c.2.all (fun q => m_ck3 54 q.2.1)) = true := by decide +kernel
theorem m_k55 : (mc55).all (fun c => c.2.all (fun q => m_ck3 55 q.2.1)) = true := by decide +kernel
theorem m_k56 : (mc56).all (fun c => c.2.all (fun q => m_ck3 56 q.2.1)) = true := by decide +kernel
theorem m_k57 : (mc57).all (fun c => c.2.all (fun q => m_ck3 57 q.2.1)) = true := by decide +kernel
theorem m_k58 : (mc58).all (fun c => c.2.all (fun q => m_ck3 58 q.2.1)) = true := by decide +kernel
theorem m_k59 : (mc59).all (fun c => c.2.all (fun q => m_ck3 59 q.2.1)) = true := by decide +kernel
theorem m_k60 : (mc60).all (fun c => c.2.all (fun q => m_ck3 60 q.2.1)) = true := by decide +kernel
theorem m_k61 : (mc61).all (fun c => c.2.all (fun q => m_ck3 61 q.2.1)) = true := by decide +kernel
theorem m_k62 : (mc62).all (fun c => c.2.all (fun q => m_ck3 62 q.2.1)) = true := by decide +kernel
theorem m_k63 : (mc63).all (fun c => c.2.all (fun q => m_ck3 63 q.2.1)) = true := by decide +kernel
theorem m_k64 : (mc64).all (fun c => c.2.all (fun q => m_ck3 64 q.2.1)) = true := by decide +kernel
theorem m_k65 : (mc65).all (fun c => c.2.all (fun q => m_ck3 65 q.2.1)) = true := by decide +kernel
theorem m_k66 : (mc66).all (fun c => c.2.all (fun q => m_ck3 66 q.2.1)) = true := by decide +kernel
theorem m_k67 : (mc67).all (fun c => c.2.all (fun q => m_ck3 67 q.2.1)) = true := by decide +kernel
theorem m_k68 : (mc68).all (fun c => c.2.all (fun q => m_ck3 68 q.2.1)) = true := by decide +kernel
theorem m_k69 : (mc69).all (fun c => c.2.all (fun q => m_ck3 69 q.2.1)) = true := by decide +kernel
theorem m_k70 : (mc70).all (fun c => c.2.all (fun q => m_ck3 70 q.2.1)) = true := by decide +kernel
theorem m_k71 : (mc71).all (fun c => c.2.all (fun q => m_ck3 71 q.2.1)) = true := by decide +kernel
theorem m_k72 : (mc72).all (fun c => c.2.all (fun q => m_ck3 72 q.2.1)) = true := by decide +kernel
theorem m_k73 : (mc73).all (fun c => c.2.all (fun q => m_ck3 73 q.2.1)) = true := by decide +kernel
theorem m_k74 : (mc74).all (fun c => c.2.all (fun q => m_ck3 74 q.2.1)) = true := by decide +kernel
theorem m_k75 : (mc75).all (fun c => c.2.all (fun q => m_ck3 75 q.2.1)) = true := by decide +kernel
theorem m_k76 : (mc76).all (fun c => c.2.all (fun q => m_ck3 76 q.2.1)) = true := by decide +kernel
theorem m_k77 : (mc77).all (fun c => c.2.all (fun q => m_ck3 77 q.2.1)) = true := by decide +kernel
theorem m_k78 : (mc78).all (fun c => c.2.all (fun q => m_ck3 78 q.2.1)) = true := by decide +kernel
theorem m_k79 : (mc79).all (fun c => c.2.all (fun q => m_ck3 79 q.2.1)) = true := by decide +kernel
theorem m_k80 : (mc80).all (fun c => c.2.all (fun q => m_ck3 80 q.2.1)) = true := by decide +kernel
theorem m_k81 : (mc81).all (fun c => c.2.all (fun q => m_ck3 81 q.2.1)) = true := by decide +kernel
theorem m_k82 : (mc82).all (fun c => c.2.all (fun q => m_ck3 82 q.2.1)) = true := by decide +kernel
theorem m_k83 : (mc83).all (fun c => c.2.all (fun q => m_ck3 83 q.2.1)) = true := by decide +kernel
theorem m_k84 : (mc84).all (fun c => c.2.all (fun q => m_ck3 84 q.2.1)) = true := by decide +kernel
theorem m_k85 : (mc85).all (fun c => c.2.all (fun q => m_ck3 85 q.2.1)) = true := by decide +kernel
theorem m_k86 : (mc86).all (fun c => c.2.all (fun q => m_ck3 86 q.2.1)) = true := by decide +kernel
theorem m_k87 : (mc87).all (fun c => c.2.all (fun q => m_ck3 87 q.2.1)) = true := by decide +kernel
theorem m_k88 : (mc88).all (fun c => c.2.all (fun q => m_ck3 88 q.2.1)) = true := by decide +kernel
theorem m_k89 : (mc89).all (fun c => c.2.all (fun q => m_ck3 89 q.2.1)) = true := by decide +kernel
theorem m_k90 : (mc90).all (fun c => c.2.all (fun q => m_ck3 90 q.2.1)) = true := by decide +kernel
theorem m_k91 : (mc91).all (fun c => c.2.all (fun q => m_ck3 91 q.2.1)) = true := by decide +kernel
theorem m_k92 : (mc92).all (fun c => c.2.all (fun q => m_ck3 92 q.2.1)) = true := by decide +kernel
theorem m_k93 : (mc93).all (fun c => c.2.all (fun q => m_ck3 93 q.2.1)) = true := by decide +kernel
theorem m_k94 : (mc94).all (fun c => c.2.all (fun q => m_ck3 94 q.2.1)) = true := by decide +kernel
theorem m_k95 : (mc95).all (fun c => c.2.all (fun q => m_ck3 95 q.2.1)) = true := by decide +kernel
theorem m_k96 : (mc96).all (fun c => c.2.all (fun q => m_ck3 96 q.2.1)) = true := by decide +kernel
theorem m_k97 : (mc97).all (fun c => c.2.all (fun q => m_ck3 97 q.2.1)) = true := by decide +kernel
theorem m_k98 : (mc98).all (fun c => c.2.all (fun q => m_ck3 98 q.2.1)) = true := by decide +kernel
theorem m_k99 : (mc99).all (fun c => c.2.all (fun q => m_ck3 99 q.2.1)) = true := by decide +kernel
theorem m_k100 : (mc100).all (fun c => c.2.all (fun q => m_ck3 100 q.2.1)) = true := by decide +kernel
theorem m_k101 : (mc101).all (fun c => c.2.all (fun q => m_ck3 101 q.2.1)) = true := by decide +kernel
theorem m_k102 : (mc102).all (fun c => c.2.all (fun q => m_ck3 102 q.2.1)) = true := by decide +kernel
theorem m_k103 : (mc103).all (fun c => c.2.all (fun q => m_ck3 103 q.2.1)) = true := by decide +kernel
theorem m_k104 : (mc104).all (fun c => c.2.all (fun q => m_ck3 104 q.2.1)) = true := by decide +kernel
theorem m_k105 : (mc105).all (fun c => c.2.all (fun q => m_ck3 105 q.2.1)) = true := by decide +kernel
theorem m_k106 : (mc106).all (fun c => c.2.all (fun q => m_ck3 106 q.2.1)) = true := by decide +kernel
theorem m_k107 : (mc107).all (fun c => c.2.all (fun q => m_ck3 107 q.2.1)) = true := by decide +kernel
theorem m_k108 : (mc108).all (fun c => c.2.all (fun q => m_ck3 108 q.2.1)) = true := by decide +kernel
theorem m_k109 : (mc109).all (fun c => c.2.all (fun q => m_ck3 109 q.2.1)) = true := by decide +kernel
theorem m_k110 : (mc110).all (fun c => c.2.all (fun q => m_ck3 110 q.2.1)) = true := by decide +kernel
theorem m_k111 : (mc111).all (fun c => c.2.all (fun q => m_ck3 111 q.2.1)) = true := by decide +kernel
theorem m_k112 : (mc112).all (fun c => c.2.all (fun q => m_ck3 112 q.2.1)) = true := by decide +kernel
theorem m_k113 : (mc113).all (fun c => c.2.all (fun q => m_ck3 113 q.2.1)) = true := by decide +kernel
theorem m_k114 : (mc114).all (fun c => c.2.all (fun q => m_ck3 114 q.2.1)) = true := by decide +kernel
theorem m_k115 : (mc115).all (fun c => c.2.all (fun q => m_ck3 115 q.2.1)) = true := by decide +kernel
theorem m_k116 : (mc116).all (fun c => c.2.all (fun q => m_ck3 116 q.2.1)) = true := by decide +kernel
theorem m_k117 : (mc117).all (fun c => c.2.all (fun q => m_ck3 117 q.2.1)) = true := by decide +kernel
theorem m_k118 : (mc118).all (fun c => c.2.all (fun q => m_ck3 118 q.2.1)) = true := by decide +kernel
theorem m_k : ∀ y, y < 119 → (m_code y).all (fun c => c.2.all (fun q => m_ck3 y q.2.1)) = true
  | 0, _ => m_k0
  | 1, _ => m_k1
  | 2, _ => m_k2
  | 3, _ => m_k3
  | 4, _ => m_k4
  | 5, _ => m_k5
  | 6, _ => m_k6
  | 7, _ => m_k7
  | 8, _ => m_k8
  | 9, _ => m_k9
  | 10, _ => m_k10
  | 11, _ => m_k11
  | 12, _ => m_k12
  | 13, _ => m_k13
  | 14, _ => m_k14
  | 15, _ => m_k15
  | 16, _ => m_k16
  | 17, _ => m_k17
  | 18, _ => m_k18
  | 19, _ => m_k19
  | 20, _ => m_k20
  | 21, _ => m_k21
  | 22, _ => m_k22
  | 23, _ => m_k23
  | 24, _ => m_k24
  | 25, _ => m_k25
  | 26, _ => m_k26
  | 27, _ => m_k27
  | 28, _ => m_k28
  | 29, _ => m_k29
  | 30, _ => m_k30
  | 31, _ => m_k31
  | 32, _ => m_k32
  | 33, _ => m_k33
  | 34, _ => m_k34
  | 35, _ => m_k35
  | 36, _ => m_k36
  | 37, _ => m_k37
  | 38, _ => m_k38
  | 39, _ => m_k39
  | 40, _ => m_k40
  | 41, _ => m_k41
  | 42, _ => m_k42
  | 43, _ => m_k43
  | 44, _ => m_k44
  | 45, _ => m_k45
  | 46, _ => m_k46
  | 47, _ => m_k47
  | 48, _ => m_k48
  | 49, _ => m_k49
  | 50, _ => m_k50
  | 51, _ => m_k51
  | 52, _ => m_k52
  | 53, _ => m_k53
  | 54, _ => m_k54
  | 55, _ => m_k55
  | 56, _ => m_k56
  | 57, _ => m_k57
  | 58, _ => m_k58
  | 59, _ => m_k59
  | 60, _ => m_k60
  | 61, _ => m_k61
  | 62, _ => m_k62
  | 63, _ => m_k63
  | 64, _ => m_k64
  | 65, _ => m_k65
  | 66, _ => m_k66
  | 67, _ => m_k67
  | 68, _ => m_k68
  | 69, _ => m_k69
  | 70, _ => m_k70
  | 71, _ => m_k71
  | 72, _ => m_k72
  | 73, _ => m_k73
  | 74, _ => m_k74
  | 75, _ => m_k75
  | 76, _ => m_k76
  | 77, _ => m_k77
  | 78, _ => m_k78
  | 79, _ => m_k79
  | 80, _ => m_k80
  | 81, _ => m_k81
  | 82, _ => m_k82
  | 83, _ => m_k83
  | 84, _ => m_k84
  | 85, _ => m_k85
  | 86, _ => m_k86
  | 87, _ => m_k87
  | 88, _ => m_k88
  | 89, _ => m_k89
  | 90, _ => m_k90
  | 91, _ => m_k91
  | 92, _ => m_k92
  | 93, _ => m_k93
  | 94, _ => m_k94
  | 95, _ => m_k95
  | 96, _ => m_k96
  | 97, _ => m_k97
  | 98, _ => m_k98
  | 99, _ => m_k99
  | 100, _ => m_k100
  | 101, _ => m_k101
  | 102, _ => m_k102
  | 103, _ => m_k103
  | 104, _ => m_k104
  | 105, _ => m_k105
  | 106, _ => m_k106
  | 107, _ => m_k107
  | 108, _ => m_k108
  | 109, _ => m_k109
  | 110, _ => m_k110
  | 111, _ => m_k111
  | 112, _ => m_k112
  | 113, _ => m_k113
  | 114, _ => m_k114
  | 115, _ => m_k115
  | 116, _ => m_k116
  | 117, _ => m_k117
  | 118, _ => m_k118
  | n + 119, h => absurd h (by omega)
theorem m_kat {y pc len tgt : Nat} {i : Instr} (hy : y < 119) (h : m_at y pc = some (i, len, tgt)) : m_ck3 y i = true := by
  obtain ⟨c, hc, hm⟩ := m_at_mem h
  exact List.all_eq_true.mp (List.all_eq_true.mp (m_k y hy) c hc) _ hm
theorem m_kinds (y : Nat) (hy : y < 119) (pc : Nat) (i : Instr) (len tgt : Nat) (h1 : m_at y pc = some (i, len, tgt)) (ix y' : Nat) (hc : m_cl (m_o y) ix = some y') (hk : i = .invokevirtual ix ∨ i = .invokespecial ix) : m_st y' = false := by
  have h := m_kat hy h1
  rcases hk with rfl | rfl
  · simp only [m_ck3, hc, Bool.and_eq_true, Bool.not_eq_true'] at h; exact h.1
  · simp only [m_ck3, hc, Bool.and_eq_true, Bool.not_eq_true'] at h; exact h.1
theorem m_kindV (y : Nat) (hy : y < 119) (pc len tgt ix y' : Nat) (h1 : m_at y pc = some (.invokevirtual ix, len, tgt)) (hc : m_cl (m_o y) ix = some y') : m_ini y' = false := by
  have h := m_kat hy h1
  simp only [m_ck3, hc, Bool.and_eq_true, Bool.not_eq_true'] at h; exact h.2
theorem m_kindS (y : Nat) (hy : y < 119) (pc len tgt ix y' : Nat) (h1 : m_at y pc = some (.invokespecial ix, len, tgt)) (hc : m_cl (m_o y) ix = some y') : m_ini y' = true ∧ m_rt y' = none ∧ m_hw y' = [] := by
  have h := m_kat hy h1
  simp only [m_ck3, hc, Bool.and_eq_true, Bool.not_eq_true', Option.isNone_iff_eq_none, List.isEmpty_iff] at h; exact ⟨h.2.1, h.2.2.1, h.2.2.2⟩
theorem m_kindT (y : Nat) (hy : y < 119) (pc len tgt ix y' : Nat) (h1 : m_at y pc = some (.invokestatic ix, len, tgt)) (hc : m_cl (m_o y) ix = some y') : m_st y' = true := by
  have h := m_kat hy h1
  simp only [m_ck3, hc] at h; exact h
theorem m_named {y : Nat} {args : Array Value} {s : State} (h : (m_cw y).before args s = true) : (s.methodNamed? (m_mn y)).isSome = true := by
  unfold m_cw at h
  split at h
  · obtain ⟨mk, hn⟩ := Cond.code_named h
    rw [hn]; rfl
  · obtain ⟨mk', meth, c, hn', -⟩ := Cond.codeWith_spec h
    rw [hn']; rfl
