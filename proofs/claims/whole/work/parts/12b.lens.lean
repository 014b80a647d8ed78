/-- how long an instruction is (0: it is no matter), and the locals that it names lie in the frame -/
def m_len (i : Instr) : Nat := match i with
  | .bipush _ => 2
  | .sipush _ => 3
  | .ldc _ => 2
  | .iload _ => 2
  | .aload _ => 2
  | .istore _ => 2
  | .astore _ => 2
  | .iinc _ _ => 3
  | .getstatic _ => 3
  | .getfield _ => 3
  | .putfield _ => 3
  | .new _ => 3
  | .newarray _ => 2
  | .multianewarray _ _ => 4
  | .invokevirtual _ => 3
  | .invokespecial _ => 3
  | .invokestatic _ => 3
  | .ifCond _ _ => 3
  | .if_icmp _ _ => 3
  | .goto _ => 3
  | .tableswitch _ _ _ _ => 0
  | _ => 1
def m_ck2 (y : Nat) (q : Nat × Instr × Nat × Nat) : Bool := (decide (m_len q.2.1 = 0) || decide (m_len q.2.1 = q.2.2.1)) && (m_tg q.1 q.2.1 q.2.2.2 && (match q.2.1 with
  | .istore k => decide (k < m_ml y)
  | .astore k => decide (k < m_ml y)
  | .istore_n k => decide ((k : Nat) < m_ml y)
  | .astore_n k => decide ((k : Nat) < m_ml y)
  | .athrow => decide (m_hd y = [])
  | _ => true))
theorem m_l0 : (mc0).all (fun c => c.2.all (m_ck2 0)) = true := by decide +kernel
theorem m_l1 : (mc1).all (fun c => c.2.all (m_ck2 1)) = true := by decide +kernel
theorem m_l2 : (mc2).all (fun c => c.2.all (m_ck2 2)) = true := by decide +kernel
theorem m_l3 : (mc3).all (fun c => c.2.all (m_ck2 3)) = true := by decide +kernel
theorem m_l4 : (mc4).all (fun c => c.2.all (m_ck2 4)) = true := by decide +kernel
theorem m_l5 : (mc5).all (fun c => c.2.all (m_ck2 5)) = true := by decide +kernel
theorem m_l6 : (mc6).all (fun c => c.2.all (m_ck2 6)) = true := by decide +kernel
theorem m_l7 : (mc7).all (fun c => c.2.all (m_ck2 7)) = true := by decide +kernel
theorem m_l8 : (mc8).all (fun c => c.2.all (m_ck2 8)) = true := by decide +kernel
theorem m_l9 : (mc9).all (fun c => c.2.all (m_ck2 9)) = true := by decide +kernel
theorem m_l10 : (mc10).all (fun c => c.2.all (m_ck2 10)) = true := by decide +kernel
theorem m_l11 : (mc11).all (fun c => c.2.all (m_ck2 11)) = true := by decide +kernel
theorem m_l12 : (mc12).all (fun c => c.2.all (m_ck2 12)) = true := by decide +kernel
theorem m_l13 : (mc13).all (fun c => c.2.all (m_ck2 13)) = true := by decide +kernel
theorem m_l14 : (mc14).all (fun c => c.2.all (m_ck2 14)) = true := by decide +kernel
theorem m_l15 : (mc15).all (fun c => c.2.all (m_ck2 15)) = true := by decide +kernel
theorem m_l16 : (mc16).all (fun c => c.2.all (m_ck2 16)) = true := by decide +kernel
theorem m_l17 : (mc17).all (fun c => c.2.all (m_ck2 17)) = true := by decide +kernel
theorem m_l18 : (mc18).all (fun c => c.2.all (m_ck2 18)) = true := by decide +kernel
theorem m_l19 : (mc19).all (fun c => c.2.all (m_ck2 19)) = true := by decide +kernel
theorem m_l20 : (mc20).all (fun c => c.2.all (m_ck2 20)) = true := by decide +kernel
theorem m_l21 : (mc21).all (fun c => c.2.all (m_ck2 21)) = true := by decide +kernel
theorem m_l22 : (mc22).all (fun c => c.2.all (m_ck2 22)) = true := by decide +kernel
theorem m_l23 : (mc23).all (fun c => c.2.all (m_ck2 23)) = true := by decide +kernel
theorem m_l24 : (mc24).all (fun c => c.2.all (m_ck2 24)) = true := by decide +kernel
theorem m_l25 : (mc25).all (fun c => c.2.all (m_ck2 25)) = true := by decide +kernel
theorem m_l26 : (mc26).all (fun c => c.2.all (m_ck2 26)) = true := by decide +kernel
theorem m_l27 : (mc27).all (fun c => c.2.all (m_ck2 27)) = true := by decide +kernel
theorem m_l28 : (mc28).all (fun c => c.2.all (m_ck2 28)) = true := by decide +kernel
theorem m_l29 : (mc29).all (fun c => c.2.all (m_ck2 29)) = true := by decide +kernel
theorem m_l30 : (mc30).all (fun c => c.2.all (m_ck2 30)) = true := by decide +kernel
theorem m_l31 : (mc31).all (fun c => c.2.all (m_ck2 31)) = true := by decide +kernel
theorem m_l32 : (mc32).all (fun c => c.2.all (m_ck2 32)) = true := by decide +kernel
theorem m_l33 : (mc33).all (fun c => c.2.all (m_ck2 33)) = true := by decide +kernel
theorem m_l34 : (mc34).all (fun c => c.2.all (m_ck2 34)) = true := by decide +kernel
theorem m_l35 : (mc35).all (fun c => c.2.all (m_ck2 35)) = true := by decide +kernel
theorem m_l36 : (mc36).all (fun c => c.2.all (m_ck2 36)) = true := by decide +kernel
theorem m_l37 : (mc37).all (fun c => c.2.all (m_ck2 37)) = true := by decide +kernel
theorem m_l38 : (mc38).all (fun c => c.2.all (m_ck2 38)) = true := by decide +kernel
theorem m_l39 : (mc39).all (fun c => c.2.all (m_ck2 39)) = true := by decide +kernel
theorem m_l40 : (mc40).all (fun c => c.2.all (m_ck2 40)) = true := by decide +kernel
theorem m_l41 : (mc41).all (fun c => c.2.all (m_ck2 41)) = true := by decide +kernel
theorem m_l42 : (mc42).all (fun c => c.2.all (m_ck2 42)) = true := by decide +kernel
theorem m_l43 : (mc43).all (fun c => c.2.all (m_ck2 43)) = true := by decide +kernel
theorem m_l44 : (mc44).all (fun c => c.2.all (m_ck2 44)) = true := by decide +kernel
theorem m_l45 : (mc45).all (fun c => c.2.all (m_ck2 45)) = true := by decide +kernel
theorem m_l46 : (mc46).all (fun c => c.2.all (m_ck2 46)) = true := by decide +kernel
theorem m_l47 : (mc47).all (fun c => c.2.all (m_ck2 47)) = true := by decide +kernel
theorem m_l48 : (mc48).all (fun c => c.2.all (m_ck2 48)) = true := by decide +kernel
theorem m_l49 : (mc49).all (fun c => c.2.all (m_ck2 49)) = true := by decide +kernel
theorem m_l50 : (mc50).all (fun c => c.2.all (m_ck2 50)) = true := by decide +kernel
theorem m_l51 : (mc51).all (fun c => c.2.all (m_ck2 51)) = true := by decide +kernel
theorem m_l52 : (mc52).all (fun c => c.2.all (m_ck2 52)) = true := by decide +kernel
theorem m_l53 : (mc53).all (fun c => c.2.all (m_ck2 53)) = true := by decide +kernel
theorem m_l54 : (mc54).all (fun c => c.2.all (m_ck2 54)) = true := by decide +kernel
theorem m_l55 : (mc55).all (fun c => c.2.all (m_ck2 55)) = true := by decide +kernel
theorem m_l56 : (mc56).all (fun c => c.2.all (m_ck2 56)) = true := by decide +kernel
theorem m_l57 : (mc57).all (fun c => c.2.all (m_ck2 57)) = true := by decide +kernel
theorem m_l58 : (mc58).all (fun c => c.2.all (m_ck2 58)) = true := by decide +kernel
theorem m_l59 : (mc59).all (fun c => c.2.all (m_ck2 59)) = true := by decide +kernel
theorem m_l60 : (mc60).all (fun c => c.2.all (m_ck2 60)) = true := by decide +kernel
theorem m_l61 : (mc61).all (fun c => c.2.all (m_ck2 61)) = true := by decide +kernel
theorem m_l62 : (mc62).all (fun c => c.2.all (m_ck2 62)) = true := by decide +kernel
theorem m_l63 : (mc63).all (fun c => c.2.all (m_ck2 63)) = true := by decide +kernel
theorem m_l64 : (mc64).all (fun c => c.2.all (m_ck2 64)) = true := by decide +kernel
theorem m_l65 : (mc65).all (fun c => c.2.all (m_ck2 65)) = true := by decide +kernel
theorem m_l66 : (mc66).all (fun c => c.2.all (m_ck2 66)) = true := by decide +kernel
theorem m_l67 : (mc67).all (fun c => c.2.all (m_ck2 67)) = true := by decide +kernel
theorem m_l68 : (mc68).all (fun c => c.2.all (m_ck2 68)) = true := by decide +kernel
theorem m_l69 : (mc69).all (fun c => c.2.all (m_ck2 69)) = true := by decide +kernel
theorem m_l70 : (mc70).all (fun c => c.2.all (m_ck2 70)) = true := by decide +kernel
theorem m_l71 : (mc71).all (fun c => c.2.all (m_ck2 71)) = true := by decide +kernel
theorem m_l72 : (mc72).all (fun c => c.2.all (m_ck2 72)) = true := by decide +kernel
theorem m_l73 : (mc73).all (fun c => c.2.all (m_ck2 73)) = true := by decide +kernel
theorem m_l74 : (mc74).all (fun c => c.2.all (m_ck2 74)) = true := by decide +kernel
theorem m_l75 : (mc75).all (fun c => c.2.all (m_ck2 75)) = true := by decide +kernel
theorem m_l76 : (mc76).all (fun c => c.2.all (m_ck2 76)) = true := by decide +kernel
theorem m_l77 : (mc77).all (fun c => c.2.all (m_ck2 77)) = true := by decide +kernel
theorem m_l78 : (mc78).all (fun c => c.2.all (m_ck2 78)) = true := by decide +kernel
theorem m_l79 : (mc79).all (fun c => c.2.all (m_ck2 79)) = true := by decide +kernel
theorem m_l80 : (mc80).all (fun c => c.2.all (m_ck2 80)) = true := by decide +kernel
theorem m_l81 : (mc81).all (fun c => c.2.all (m_ck2 81)) = true := by decide +kernel
theorem m_l82 : (mc82).all (fun c => c.2.all (m_ck2 82)) = true := by decide +kernel
theorem m_l83 : (mc83).all (fun c => c.2.all (m_ck2 83)) = true := by decide +kernel
theorem m_l84 : (mc84).all (fun c => c.2.all (m_ck2 84)) = true := by decide +kernel
theorem m_l85 : (mc85).all (fun c => c.2.all (m_ck2 85)) = true := by decide +kernel
theorem m_l86 : (mc86).all (fun c => c.2.all (m_ck2 86)) = true := by decide +kernel
theorem m_l87 : (mc87).all (fun c => c.2.all (m_ck2 87)) = true := by decide +kernel
theorem m_l88 : (mc88).all (fun c => c.2.all (m_ck2 88)) = true := by decide +kernel
theorem m_l89 : (mc89).all (fun c => c.2.all (m_ck2 89)) = true := by decide +kernel
theorem m_l90 : (mc90).all (fun c => c.2.all (m_ck2 90)) = true := by decide +kernel
theorem m_l91 : (mc91).all (fun c => c.2.all (m_ck2 91)) = true := by decide +kernel
theorem m_l92 : (mc92).all (fun c => c.2.all (m_ck2 92)) = true := by decide +kernel
theorem m_l93 : (mc93).all (fun c => c.2.all (m_ck2 93)) = true := by decide +kernel
theorem m_l94 : (mc94).all (fun c => c.2.all (m_ck2 94)) = true := by decide +kernel
theorem m_l95 : (mc95).all (fun c => c.2.all (m_ck2 95)) = true := by decide +kernel
theorem m_l96 : (mc96).all (fun c => c.2.all (m_ck2 96)) = true := by decide +kernel
theorem m_l97 : (mc97).all (fun c => c.2.all (m_ck2 97)) = true := by decide +kernel
theorem m_l98 : (mc98).all (fun c => c.2.all (m_ck2 98)) = true := by decide +kernel
theorem m_l99 : (mc99).all (fun c => c.2.all (m_ck2 99)) = true := by decide +kernel
theorem m_l100 : (mc100).all (fun c => c.2.all (m_ck2 100)) = true := by decide +kernel
theorem m_l101 : (mc101).all (fun c => c.2.all (m_ck2 101)) = true := by decide +kernel
theorem m_l102 : (mc102).all (fun c => c.2.all (m_ck2 102)) = true := by decide +kernel
theorem m_l103 : (mc103).all (fun c => c.2.all (m_ck2 103)) = true := by decide +kernel
theorem m_l104 : (mc104).all (fun c => c.2.all (m_ck2 104)) = true := by decide +kernel
theorem m_l105 : (mc105).all (fun c => c.2.all (m_ck2 105)) = true := by decide +kernel
theorem m_l106 : (mc106).all (fun c => c.2.all (m_ck2 106)) = true := by decide +kernel
theorem m_l107 : (mc107).all (fun c => c.2.all (m_ck2 107)) = true := by decide +kernel
theorem m_l108 : (mc108).all (fun c => c.2.all (m_ck2 108)) = true := by decide +kernel
theorem m_l109 : (mc109).all (fun c => c.2.all (m_ck2 109)) = true := by decide +kernel
theorem m_l110 : (mc110).all (fun c => c.2.all (m_ck2 110)) = true := by decide +kernel
theorem m_l111 : (mc111).all (fun c => c.2.all (m_ck2 111)) = true := by decide +kernel
theorem m_l112 : (mc112).all (fun c => c.2.all (m_ck2 112)) = true := by decide +kernel
theorem m_l113 : (mc113).all (fun c => c.2.all (m_ck2 113)) = true := by decide +kernel
theorem m_l114 : (mc114).all (fun c => c.2.all (m_ck2 114)) = true := by decide +kernel
theorem m_l115 : (mc115).all (fun c => c.2.all (m_ck2 115)) = true := by decide +kernel
theorem m_l116 : (mc116).all (fun c => c.2.all (m_ck2 116)) = true := by decide +kernel
theorem m_l117 : (mc117).all (fun c => c.2.all (m_ck2 117)) = true := by decide +kernel
theorem m_l118 : (mc118).all (fun c => c.2.all (m_ck2 118)) = true := by decide +kernel
theorem m_lens : ∀ y, y < 119 → (m_code y).all (fun c => c.2.all (m_ck2 y)) = true
  | 0, _ => m_l0
  | 1, _ => m_l1
  | 2, _ => m_l2
  | 3, _ => m_l3
  | 4, _ => m_l4
  | 5, _ => m_l5
  | 6, _ => m_l6
  | 7, _ => m_l7
  | 8, _ => m_l8
  | 9, _ => m_l9
  | 10, _ => m_l10
  | 11, _ => m_l11
  | 12, _ => m_l12
  | 13, _ => m_l13
  | 14, _ => m_l14
  | 15, _ => m_l15
  | 16, _ => m_l16
  | 17, _ => m_l17
  | 18, _ => m_l18
  | 19, _ => m_l19
  | 20, _ => m_l20
  | 21, _ => m_l21
  | 22, _ => m_l22
  | 23, _ => m_l23
  | 24, _ => m_l24
  | 25, _ => m_l25
  | 26, _ => m_l26
  | 27, _ => m_l27
  | 28, _ => m_l28
  | 29, _ => m_l29
  | 30, _ => m_l30
  | 31, _ => m_l31
  | 32, _ => m_l32
  | 33, _ => m_l33
  | 34, _ => m_l34
  | 35, _ => m_l35
  | 36, _ => m_l36
  | 37, _ => m_l37
  | 38, _ => m_l38
  | 39, _ => m_l39
  | 40, _ => m_l40
  | 41, _ => m_l41
  | 42, _ => m_l42
  | 43, _ => m_l43
  | 44, _ => m_l44
  | 45, _ => m_l45
  | 46, _ => m_l46
  | 47, _ => m_l47
  | 48, _ => m_l48
  | 49, _ => m_l49
  | 50, _ => m_l50
  | 51, _ => m_l51
  | 52, _ => m_l52
  | 53, _ => m_l53
  | 54, _ => m_l54
  | 55, _ => m_l55
  | 56, _ => m_l56
  | 57, _ => m_l57
  | 58, _ => m_l58
  | 59, _ => m_l59
  | 60, _ => m_l60
  | 61, _ => m_l61
  | 62, _ => m_l62
  | 63, _ => m_l63
  | 64, _ => m_l64
  | 65, _ => m_l65
  | 66, _ => m_l66
  | 67, _ => m_l67
  | 68, _ => m_l68
  | 69, _ => m_l69
  | 70, _ => m_l70
  | 71, _ => m_l71
  | 72, _ => m_l72
  | 73, _ => m_l73
  | 74, _ => m_l74
  | 75, _ => m_l75
  | 76, _ => m_l76
  | 77, _ => m_l77
  | 78, _ => m_l78
  | 79, _ => m_l79
  | 80, _ => m_l80
  | 81, _ => m_l81
  | 82, _ => m_l82
  | 83, _ => m_l83
  | 84, _ => m_l84
  | 85, _ => m_l85
  | 86, _ => m_l86
  | 87, _ => m_l87
  | 88, _ => m_l88
  | 89, _ => m_l89
  | 90, _ => m_l90
  | 91, _ => m_l91
  | 92, _ => m_l92
  | 93, _ => m_l93
  | 94, _ => m_l94
  | 95, _ => m_l95
  | 96, _ => m_l96
  | 97, _ => m_l97
  | 98, _ => m_l98
  | 99, _ => m_l99
  | 100, _ => m_l100
  | 101, _ => m_l101
  | 102, _ => m_l102
  | 103, _ => m_l103
  | 104, _ => m_l104
  | 105, _ => m_l105
  | 106, _ => m_l106
  | 107, _ => m_l107
  | 108, _ => m_l108
  | 109, _ => m_l109
  | 110, _ => m_l110
  | 111, _ => m_l111
  | 112, _ => m_l112
  | 113, _ => m_l113
  | 114, _ => m_l114
  | 115, _ => m_l115
  | 116, _ => m_l116
  | 117, _ => m_l117
  | 118, _ => m_l118
  | n + 119, h => absurd h (by omega)
theorem m_at_mem {y pc : Nat} {r : Instr × Nat × Nat} (h : m_at y pc = some r) : ∃ c ∈ m_code y, (pc, r) ∈ c.2 := by
  unfold m_at at h
  split at h
  · rename_i c hc
    refine ⟨c, List.mem_of_find?_eq_some hc, ?_⟩
    generalize c.2 = ls at h
    induction ls with
    | nil => simp at h
    | cons a t ih =>
      obtain ⟨k, v⟩ := a
      rw [List.lookup_cons] at h
      split at h
      · rename_i hk
        have := (beq_iff_eq.mp hk)
        cases h
        rw [this]
        exact List.mem_cons_self
      · exact List.mem_cons_of_mem _ (ih h)
  · cases h
/-- what the tables say of an instruction that the machine finds -/
theorem m_at_ok {y pc len tgt : Nat} {i : Instr} (hy : y < 119) (h : m_at y pc = some (i, len, tgt)) : decode (m_by y) pc = .ok (i, len) ∧ m_ck2 y (pc, i, len, tgt) = true := by
  obtain ⟨c, hc, hm⟩ := m_at_mem h
  have h1 := List.all_eq_true.mp (m_code_ok y hy c hc) _ hm
  have h2 := List.all_eq_true.mp (List.all_eq_true.mp (m_lens y hy) c hc) _ hm
  simp only [m_okI, Bool.and_eq_true, decide_eq_true_eq] at h1
  exact ⟨h1.1, h2⟩
