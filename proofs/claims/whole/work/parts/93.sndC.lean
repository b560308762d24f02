/-! THE PURE MACHINE IS SOUND, 4: calls, new cells, ends; then the whole. -/
def okM (y : Nat) (k : Nat) : Bool :=
  let q := minfo.getD y (0, 0, 0, 0)
  let nm := ynm y
  let np := (parseMethodDescriptor nm.desc).map (fun d => d.parameters.length)
  decide (y < 239) && decide (lw_tbl[q.2.1]? = some (.initialized nm.cls)) && plainName nm.cls && decide (nm.cls ≠ "java/lang/invoke/MethodHandle") && decide (nm.cls ≠ "java/lang/invoke/VarHandle") && decide ((pmth y).2.1 ≤ 10) && decide (nm.cls = cn (pmth y).2.2.2.1) &&
  (if k = 1 ∨ k = 4 then decide (lw_tbl[q.2.2.1]? = some (.static nm)) && decide (np = some (pmth y).2.2.2.2.1)
   else decide (lw_tbl[q.2.2.1]? = some (.instanceMethod nm)) && decide (np.map (fun n => n + 1) = some (pmth y).2.2.2.2.1) && (if k = 0 then decide (lw_tbl[q.2.2.2]? = some (.selects nm.cls nm nm)) else decide (nm.name = "<init>") && decide ((pmth y).2.2.1 = none)))
def mnm (k : Nat) : MethodName := if k = 7 then Lib.Math.abs.name else if k = 8 then Lib.Math.min.name else Lib.Math.max.name
def ckK (own : Nat) (e : Nat × Nat × Nat × Nat) : Bool :=
  if e.2.1 = 5 then decide (lw_tbl[e.2.2.2]? = some (.methodLink (cn own) e.1 arraycopyName))
  else if e.2.1 = 6 then decide (lw_tbl[e.2.2.2]? = some (.methodLink (cn own) e.1 objectInit))
  else if 7 ≤ e.2.1 then decide (e.2.1 ≤ 9) && decide (lw_tbl[e.2.2.2]? = some (.methodLink (cn own) e.1 (mnm e.2.1)))
  else okM e.2.2.1 e.2.1 && (if e.2.1 = 3 ∨ e.2.1 = 4 then decide ((own, e.1, e.2.2.1) ∈ nestL) else decide (lw_tbl[e.2.2.2]? = some (.methodLink (cn own) e.1 (ynm e.2.2.1))))
theorem ckK_0 : (List.range 6).all (fun own => (ctabs.getD own []).all (ckK own)) = true := by decide +kernel
theorem ckK_6 : (ctabs.getD 6 []).all (ckK 6) = true := by decide +kernel
theorem ckK_7 : (ctabs.getD 7 []).all (ckK 7) = true := by decide +kernel
theorem ckK_8 : (ctabs.getD 8 []).all (ckK 8) = true := by decide +kernel
theorem ckK_9 : (List.range 6).all (fun j => (ctabs.getD (9 + j) []).all (ckK (9 + j))) = true := by decide +kernel
theorem ckK_all {own : Nat} {e : Nat × Nat × Nat × Nat} (he : e ∈ ctabs.getD own []) : ckK own e = true := by
  have hlt : own < 15 := getD_lt he
  by_cases h6 : own < 6
  · exact List.all_eq_true.mp (List.all_eq_true.mp ckK_0 own (List.mem_range.mpr h6)) e he
  · by_cases h9 : 9 ≤ own
    · obtain ⟨j, rfl⟩ : ∃ j, own = 9 + j := ⟨own - 9, by omega⟩
      exact List.all_eq_true.mp (List.all_eq_true.mp ckK_9 j (List.mem_range.mpr (by omega))) e he
    · rcases (by omega : own = 6 ∨ own = 7 ∨ own = 8) with rfl | rfl | rfl
      · exact List.all_eq_true.mp ckK_6 e he
      · exact List.all_eq_true.mp ckK_7 e he
      · exact List.all_eq_true.mp ckK_8 e he
theorem ctab_ok {own idx k y : Nat} (h : ctab own idx = some (k, y)) : ∃ wi, ckK own (idx, k, y, wi) = true := by
  unfold ctab at h
  cases hf : (ctabs.getD own []).find? (fun e => e.1 == idx) with
  | none => rw [hf] at h; cases h
  | some e =>
    rw [hf] at h
    cases h
    have h1 := ckK_all (List.mem_of_find?_eq_some hf)
    have h2 : e.1 = idx := by simpa using List.find?_some hf
    exact ⟨e.2.2.2, by rw [← h2]; exact h1⟩
abbrev mcP (z : Nat) : Prop := lw_tbl[(minfo.getD z (0, 0, 0, 0)).1]? = some (.code (ynm z) (pmth z).1 (pmth z).2.1 (pmth z).2.2.1)
theorem mcu_0 : ∀ a, a < 0 → mcP a := lt_0
set_option maxRecDepth 100000 in
theorem mc_0 : mcP 0 := rfl
theorem mcu_1 : ∀ a, a < 1 → mcP a := lt_s mcu_0 mc_0
set_option maxRecDepth 100000 in
theorem mc_1 : mcP 1 := rfl
theorem mcu_2 : ∀ a, a < 2 → mcP a := lt_s mcu_1 mc_1
set_option maxRecDepth 100000 in
theorem mc_2 : mcP 2 := rfl
theorem mcu_3 : ∀ a, a < 3 → mcP a := lt_s mcu_2 mc_2
set_option maxRecDepth 100000 in
theorem mc_3 : mcP 3 := rfl
theorem mcu_4 : ∀ a, a < 4 → mcP a := lt_s mcu_3 mc_3
set_option maxRecDepth 100000 in
theorem mc_4 : mcP 4 := rfl
theorem mcu_5 : ∀ a, a < 5 → mcP a := lt_s mcu_4 mc_4
set_option maxRecDepth 100000 in
theorem mc_5 : mcP 5 := rfl
theorem mcu_6 : ∀ a, a < 6 → mcP a := lt_s mcu_5 mc_5
set_option maxRecDepth 100000 in
theorem mc_6 : mcP 6 := rfl
theorem mcu_7 : ∀ a, a < 7 → mcP a := lt_s mcu_6 mc_6
set_option maxRecDepth 100000 in
theorem mc_7 : mcP 7 := rfl
theorem mcu_8 : ∀ a, a < 8 → mcP a := lt_s mcu_7 mc_7
set_option maxRecDepth 100000 in
theorem mc_8 : mcP 8 := rfl
theorem mcu_9 : ∀ a, a < 9 → mcP a := lt_s mcu_8 mc_8
set_option maxRecDepth 100000 in
theorem mc_9 : mcP 9 := rfl
theorem mcu_10 : ∀ a, a < 10 → mcP a := lt_s mcu_9 mc_9
set_option maxRecDepth 100000 in
theorem mc_10 : mcP 10 := rfl
theorem mcu_11 : ∀ a, a < 11 → mcP a := lt_s mcu_10 mc_10
set_option maxRecDepth 100000 in
theorem mc_11 : mcP 11 := rfl
theorem mcu_12 : ∀ a, a < 12 → mcP a := lt_s mcu_11 mc_11
set_option maxRecDepth 100000 in
theorem mc_12 : mcP 12 := rfl
theorem mcu_13 : ∀ a, a < 13 → mcP a := lt_s mcu_12 mc_12
set_option maxRecDepth 100000 in
theorem mc_13 : mcP 13 := rfl
theorem mcu_14 : ∀ a, a < 14 → mcP a := lt_s mcu_13 mc_13
set_option maxRecDepth 100000 in
theorem mc_14 : mcP 14 := rfl
theorem mcu_15 : ∀ a, a < 15 → mcP a := lt_s mcu_14 mc_14
set_option maxRecDepth 100000 in
theorem mc_15 : mcP 15 := rfl
theorem mcu_16 : ∀ a, a < 16 → mcP a := lt_s mcu_15 mc_15
set_option maxRecDepth 100000 in
theorem mc_16 : mcP 16 := rfl
theorem mcu_17 : ∀ a, a < 17 → mcP a := lt_s mcu_16 mc_16
set_option maxRecDepth 100000 in
theorem mc_17 : mcP 17 := rfl
theorem mcu_18 : ∀ a, a < 18 → mcP a := lt_s mcu_17 mc_17
set_option maxRecDepth 100000 in
theorem mc_18 : mcP 18 := rfl
theorem mcu_19 : ∀ a, a < 19 → mcP a := lt_s mcu_18 mc_18
set_option maxRecDepth 100000 in
theorem mc_19 : mcP 19 := rfl
theorem mcu_20 : ∀ a, a < 20 → mcP a := lt_s mcu_19 mc_19
set_option maxRecDepth 100000 in
theorem mc_20 : mcP 20 := rfl
theorem mcu_21 : ∀ a, a < 21 → mcP a := lt_s mcu_20 mc_20
set_option maxRecDepth 100000 in
theorem mc_21 : mcP 21 := rfl
theorem mcu_22 : ∀ a, a < 22 → mcP a := lt_s mcu_21 mc_21
set_option maxRecDepth 100000 in
theorem mc_22 : mcP 22 := rfl
theorem mcu_23 : ∀ a, a < 23 → mcP a := lt_s mcu_22 mc_22
set_option maxRecDepth 100000 in
theorem mc_23 : mcP 23 := rfl
theorem mcu_24 : ∀ a, a < 24 → mcP a := lt_s mcu_23 mc_23
set_option maxRecDepth 100000 in
theorem mc_24 : mcP 24 := rfl
theorem mcu_25 : ∀ a, a < 25 → mcP a := lt_s mcu_24 mc_24
set_option maxRecDepth 100000 in
theorem mc_25 : mcP 25 := rfl
theorem mcu_26 : ∀ a, a < 26 → mcP a := lt_s mcu_25 mc_25
set_option maxRecDepth 100000 in
theorem mc_26 : mcP 26 := rfl
theorem mcu_27 : ∀ a, a < 27 → mcP a := lt_s mcu_26 mc_26
set_option maxRecDepth 100000 in
theorem mc_27 : mcP 27 := rfl
theorem mcu_28 : ∀ a, a < 28 → mcP a := lt_s mcu_27 mc_27
set_option maxRecDepth 100000 in
theorem mc_28 : mcP 28 := rfl
theorem mcu_29 : ∀ a, a < 29 → mcP a := lt_s mcu_28 mc_28
set_option maxRecDepth 100000 in
theorem mc_29 : mcP 29 := rfl
theorem mcu_30 : ∀ a, a < 30 → mcP a := lt_s mcu_29 mc_29
set_option maxRecDepth 100000 in
theorem mc_30 : mcP 30 := rfl
theorem mcu_31 : ∀ a, a < 31 → mcP a := lt_s mcu_30 mc_30
set_option maxRecDepth 100000 in
theorem mc_31 : mcP 31 := rfl
theorem mcu_32 : ∀ a, a < 32 → mcP a := lt_s mcu_31 mc_31
set_option maxRecDepth 100000 in
theorem mc_32 : mcP 32 := rfl
theorem mcu_33 : ∀ a, a < 33 → mcP a := lt_s mcu_32 mc_32
set_option maxRecDepth 100000 in
theorem mc_33 : mcP 33 := rfl
theorem mcu_34 : ∀ a, a < 34 → mcP a := lt_s mcu_33 mc_33
set_option maxRecDepth 100000 in
theorem mc_34 : mcP 34 := rfl
theorem mcu_35 : ∀ a, a < 35 → mcP a := lt_s mcu_34 mc_34
set_option maxRecDepth 100000 in
theorem mc_35 : mcP 35 := rfl
theorem mcu_36 : ∀ a, a < 36 → mcP a := lt_s mcu_35 mc_35
set_option maxRecDepth 100000 in
theorem mc_36 : mcP 36 := rfl
theorem mcu_37 : ∀ a, a < 37 → mcP a := lt_s mcu_36 mc_36
set_option maxRecDepth 100000 in
theorem mc_37 : mcP 37 := rfl
theorem mcu_38 : ∀ a, a < 38 → mcP a := lt_s mcu_37 mc_37
set_option maxRecDepth 100000 in
theorem mc_38 : mcP 38 := rfl
theorem mcu_39 : ∀ a, a < 39 → mcP a := lt_s mcu_38 mc_38
set_option maxRecDepth 100000 in
theorem mc_39 : mcP 39 := rfl
theorem mcu_40 : ∀ a, a < 40 → mcP a := lt_s mcu_39 mc_39
set_option maxRecDepth 100000 in
theorem mc_40 : mcP 40 := rfl
theorem mcu_41 : ∀ a, a < 41 → mcP a := lt_s mcu_40 mc_40
set_option maxRecDepth 100000 in
theorem mc_41 : mcP 41 := rfl
theorem mcu_42 : ∀ a, a < 42 → mcP a := lt_s mcu_41 mc_41
set_option maxRecDepth 100000 in
theorem mc_42 : mcP 42 := rfl
theorem mcu_43 : ∀ a, a < 43 → mcP a := lt_s mcu_42 mc_42
set_option maxRecDepth 100000 in
theorem mc_43 : mcP 43 := rfl
theorem mcu_44 : ∀ a, a < 44 → mcP a := lt_s mcu_43 mc_43
set_option maxRecDepth 100000 in
theorem mc_44 : mcP 44 := rfl
theorem mcu_45 : ∀ a, a < 45 → mcP a := lt_s mcu_44 mc_44
set_option maxRecDepth 100000 in
theorem mc_45 : mcP 45 := rfl
theorem mcu_46 : ∀ a, a < 46 → mcP a := lt_s mcu_45 mc_45
set_option maxRecDepth 100000 in
theorem mc_46 : mcP 46 := rfl
theorem mcu_47 : ∀ a, a < 47 → mcP a := lt_s mcu_46 mc_46
set_option maxRecDepth 100000 in
theorem mc_47 : mcP 47 := rfl
theorem mcu_48 : ∀ a, a < 48 → mcP a := lt_s mcu_47 mc_47
set_option maxRecDepth 100000 in
theorem mc_48 : mcP 48 := rfl
theorem mcu_49 : ∀ a, a < 49 → mcP a := lt_s mcu_48 mc_48
set_option maxRecDepth 100000 in
theorem mc_49 : mcP 49 := rfl
theorem mcu_50 : ∀ a, a < 50 → mcP a := lt_s mcu_49 mc_49
set_option maxRecDepth 100000 in
theorem mc_50 : mcP 50 := rfl
theorem mcu_51 : ∀ a, a < 51 → mcP a := lt_s mcu_50 mc_50
set_option maxRecDepth 100000 in
theorem mc_51 : mcP 51 := rfl
theorem mcu_52 : ∀ a, a < 52 → mcP a := lt_s mcu_51 mc_51
set_option maxRecDepth 100000 in
theorem mc_52 : mcP 52 := rfl
theorem mcu_53 : ∀ a, a < 53 → mcP a := lt_s mcu_52 mc_52
set_option maxRecDepth 100000 in
theorem mc_53 : mcP 53 := rfl
theorem mcu_54 : ∀ a, a < 54 → mcP a := lt_s mcu_53 mc_53
set_option maxRecDepth 100000 in
theorem mc_54 : mcP 54 := rfl
theorem mcu_55 : ∀ a, a < 55 → mcP a := lt_s mcu_54 mc_54
set_option maxRecDepth 100000 in
theorem mc_55 : mcP 55 := rfl
theorem mcu_56 : ∀ a, a < 56 → mcP a := lt_s mcu_55 mc_55
set_option maxRecDepth 100000 in
theorem mc_56 : mcP 56 := rfl
theorem mcu_57 : ∀ a, a < 57 → mcP a := lt_s mcu_56 mc_56
set_option maxRecDepth 100000 in
theorem mc_57 : mcP 57 := rfl
theorem mcu_58 : ∀ a, a < 58 → mcP a := lt_s mcu_57 mc_57
set_option maxRecDepth 100000 in
theorem mc_58 : mcP 58 := rfl
theorem mcu_59 : ∀ a, a < 59 → mcP a := lt_s mcu_58 mc_58
set_option maxRecDepth 100000 in
theorem mc_59 : mcP 59 := rfl
theorem mcu_60 : ∀ a, a < 60 → mcP a := lt_s mcu_59 mc_59
set_option maxRecDepth 100000 in
theorem mc_60 : mcP 60 := rfl
theorem mcu_61 : ∀ a, a < 61 → mcP a := lt_s mcu_60 mc_60
set_option maxRecDepth 100000 in
theorem mc_61 : mcP 61 := rfl
theorem mcu_62 : ∀ a, a < 62 → mcP a := lt_s mcu_61 mc_61
set_option maxRecDepth 100000 in
theorem mc_62 : mcP 62 := rfl
theorem mcu_63 : ∀ a, a < 63 → mcP a := lt_s mcu_62 mc_62
set_option maxRecDepth 100000 in
theorem mc_63 : mcP 63 := rfl
theorem mcu_64 : ∀ a, a < 64 → mcP a := lt_s mcu_63 mc_63
set_option maxRecDepth 100000 in
theorem mc_64 : mcP 64 := rfl
theorem mcu_65 : ∀ a, a < 65 → mcP a := lt_s mcu_64 mc_64
set_option maxRecDepth 100000 in
theorem mc_65 : mcP 65 := rfl
theorem mcu_66 : ∀ a, a < 66 → mcP a := lt_s mcu_65 mc_65
set_option maxRecDepth 100000 in
theorem mc_66 : mcP 66 := rfl
theorem mcu_67 : ∀ a, a < 67 → mcP a := lt_s mcu_66 mc_66
set_option maxRecDepth 100000 in
theorem mc_67 : mcP 67 := rfl
theorem mcu_68 : ∀ a, a < 68 → mcP a := lt_s mcu_67 mc_67
set_option maxRecDepth 100000 in
theorem mc_68 : mcP 68 := rfl
theorem mcu_69 : ∀ a, a < 69 → mcP a := lt_s mcu_68 mc_68
set_option maxRecDepth 100000 in
theorem mc_69 : mcP 69 := rfl
theorem mcu_70 : ∀ a, a < 70 → mcP a := lt_s mcu_69 mc_69
set_option maxRecDepth 100000 in
theorem mc_70 : mcP 70 := rfl
theorem mcu_71 : ∀ a, a < 71 → mcP a := lt_s mcu_70 mc_70
set_option maxRecDepth 100000 in
theorem mc_71 : mcP 71 := rfl
theorem mcu_72 : ∀ a, a < 72 → mcP a := lt_s mcu_71 mc_71
set_option maxRecDepth 100000 in
theorem mc_72 : mcP 72 := rfl
theorem mcu_73 : ∀ a, a < 73 → mcP a := lt_s mcu_72 mc_72
set_option maxRecDepth 100000 in
theorem mc_73 : mcP 73 := rfl
theorem mcu_74 : ∀ a, a < 74 → mcP a := lt_s mcu_73 mc_73
set_option maxRecDepth 100000 in
theorem mc_74 : mcP 74 := rfl
theorem mcu_75 : ∀ a, a < 75 → mcP a := lt_s mcu_74 mc_74
set_option maxRecDepth 100000 in
theorem mc_75 : mcP 75 := rfl
theorem mcu_76 : ∀ a, a < 76 → mcP a := lt_s mcu_75 mc_75
set_option maxRecDepth 100000 in
theorem mc_76 : mcP 76 := rfl
theorem mcu_77 : ∀ a, a < 77 → mcP a := lt_s mcu_76 mc_76
set_option maxRecDepth 100000 in
theorem mc_77 : mcP 77 := rfl
theorem mcu_78 : ∀ a, a < 78 → mcP a := lt_s mcu_77 mc_77
set_option maxRecDepth 100000 in
theorem mc_78 : mcP 78 := rfl
theorem mcu_79 : ∀ a, a < 79 → mcP a := lt_s mcu_78 mc_78
set_option maxRecDepth 100000 in
theorem mc_79 : mcP 79 := rfl
theorem mcu_80 : ∀ a, a < 80 → mcP a := lt_s mcu_79 mc_79
set_option maxRecDepth 100000 in
theorem mc_80 : mcP 80 := rfl
theorem mcu_81 : ∀ a, a < 81 → mcP a := lt_s mcu_80 mc_80
set_option maxRecDepth 100000 in
theorem mc_81 : mcP 81 := rfl
theorem mcu_82 : ∀ a, a < 82 → mcP a := lt_s mcu_81 mc_81
set_option maxRecDepth 100000 in
theorem mc_82 : mcP 82 := rfl
theorem mcu_83 : ∀ a, a < 83 → mcP a := lt_s mcu_82 mc_82
set_option maxRecDepth 100000 in
theorem mc_83 : mcP 83 := rfl
theorem mcu_84 : ∀ a, a < 84 → mcP a := lt_s mcu_83 mc_83
set_option maxRecDepth 100000 in
theorem mc_84 : mcP 84 := rfl
theorem mcu_85 : ∀ a, a < 85 → mcP a := lt_s mcu_84 mc_84
set_option maxRecDepth 100000 in
theorem mc_85 : mcP 85 := rfl
theorem mcu_86 : ∀ a, a < 86 → mcP a := lt_s mcu_85 mc_85
set_option maxRecDepth 100000 in
theorem mc_86 : mcP 86 := rfl
theorem mcu_87 : ∀ a, a < 87 → mcP a := lt_s mcu_86 mc_86
set_option maxRecDepth 100000 in
theorem mc_87 : mcP 87 := rfl
theorem mcu_88 : ∀ a, a < 88 → mcP a := lt_s mcu_87 mc_87
set_option maxRecDepth 100000 in
theorem mc_88 : mcP 88 := rfl
theorem mcu_89 : ∀ a, a < 89 → mcP a := lt_s mcu_88 mc_88
set_option maxRecDepth 100000 in
theorem mc_89 : mcP 89 := rfl
theorem mcu_90 : ∀ a, a < 90 → mcP a := lt_s mcu_89 mc_89
set_option maxRecDepth 100000 in
theorem mc_90 : mcP 90 := rfl
theorem mcu_91 : ∀ a, a < 91 → mcP a := lt_s mcu_90 mc_90
set_option maxRecDepth 100000 in
theorem mc_91 : mcP 91 := rfl
theorem mcu_92 : ∀ a, a < 92 → mcP a := lt_s mcu_91 mc_91
set_option maxRecDepth 100000 in
theorem mc_92 : mcP 92 := rfl
theorem mcu_93 : ∀ a, a < 93 → mcP a := lt_s mcu_92 mc_92
set_option maxRecDepth 100000 in
theorem mc_93 : mcP 93 := rfl
theorem mcu_94 : ∀ a, a < 94 → mcP a := lt_s mcu_93 mc_93
set_option maxRecDepth 100000 in
theorem mc_94 : mcP 94 := rfl
theorem mcu_95 : ∀ a, a < 95 → mcP a := lt_s mcu_94 mc_94
set_option maxRecDepth 100000 in
theorem mc_95 : mcP 95 := rfl
theorem mcu_96 : ∀ a, a < 96 → mcP a := lt_s mcu_95 mc_95
set_option maxRecDepth 100000 in
theorem mc_96 : mcP 96 := rfl
theorem mcu_97 : ∀ a, a < 97 → mcP a := lt_s mcu_96 mc_96
set_option maxRecDepth 100000 in
theorem mc_97 : mcP 97 := rfl
theorem mcu_98 : ∀ a, a < 98 → mcP a := lt_s mcu_97 mc_97
set_option maxRecDepth 100000 in
theorem mc_98 : mcP 98 := rfl
theorem mcu_99 : ∀ a, a < 99 → mcP a := lt_s mcu_98 mc_98
set_option maxRecDepth 100000 in
theorem mc_99 : mcP 99 := rfl
theorem mcu_100 : ∀ a, a < 100 → mcP a := lt_s mcu_99 mc_99
set_option maxRecDepth 100000 in
theorem mc_100 : mcP 100 := rfl
theorem mcu_101 : ∀ a, a < 101 → mcP a := lt_s mcu_100 mc_100
set_option maxRecDepth 100000 in
theorem mc_101 : mcP 101 := rfl
theorem mcu_102 : ∀ a, a < 102 → mcP a := lt_s mcu_101 mc_101
set_option maxRecDepth 100000 in
theorem mc_102 : mcP 102 := rfl
theorem mcu_103 : ∀ a, a < 103 → mcP a := lt_s mcu_102 mc_102
set_option maxRecDepth 100000 in
theorem mc_103 : mcP 103 := rfl
theorem mcu_104 : ∀ a, a < 104 → mcP a := lt_s mcu_103 mc_103
set_option maxRecDepth 100000 in
theorem mc_104 : mcP 104 := rfl
theorem mcu_105 : ∀ a, a < 105 → mcP a := lt_s mcu_104 mc_104
set_option maxRecDepth 100000 in
theorem mc_105 : mcP 105 := rfl
theorem mcu_106 : ∀ a, a < 106 → mcP a := lt_s mcu_105 mc_105
set_option maxRecDepth 100000 in
theorem mc_106 : mcP 106 := rfl
theorem mcu_107 : ∀ a, a < 107 → mcP a := lt_s mcu_106 mc_106
set_option maxRecDepth 100000 in
theorem mc_107 : mcP 107 := rfl
theorem mcu_108 : ∀ a, a < 108 → mcP a := lt_s mcu_107 mc_107
set_option maxRecDepth 100000 in
theorem mc_108 : mcP 108 := rfl
theorem mcu_109 : ∀ a, a < 109 → mcP a := lt_s mcu_108 mc_108
set_option maxRecDepth 100000 in
theorem mc_109 : mcP 109 := rfl
theorem mcu_110 : ∀ a, a < 110 → mcP a := lt_s mcu_109 mc_109
set_option maxRecDepth 100000 in
theorem mc_110 : mcP 110 := rfl
theorem mcu_111 : ∀ a, a < 111 → mcP a := lt_s mcu_110 mc_110
set_option maxRecDepth 100000 in
theorem mc_111 : mcP 111 := rfl
theorem mcu_112 : ∀ a, a < 112 → mcP a := lt_s mcu_111 mc_111
set_option maxRecDepth 100000 in
theorem mc_112 : mcP 112 := rfl
theorem mcu_113 : ∀ a, a < 113 → mcP a := lt_s mcu_112 mc_112
set_option maxRecDepth 100000 in
theorem mc_113 : mcP 113 := rfl
theorem mcu_114 : ∀ a, a < 114 → mcP a := lt_s mcu_113 mc_113
set_option maxRecDepth 100000 in
theorem mc_114 : mcP 114 := rfl
theorem mcu_115 : ∀ a, a < 115 → mcP a := lt_s mcu_114 mc_114
set_option maxRecDepth 100000 in
theorem mc_115 : mcP 115 := rfl
theorem mcu_116 : ∀ a, a < 116 → mcP a := lt_s mcu_115 mc_115
set_option maxRecDepth 100000 in
theorem mc_116 : mcP 116 := rfl
theorem mcu_117 : ∀ a, a < 117 → mcP a := lt_s mcu_116 mc_116
set_option maxRecDepth 100000 in
theorem mc_117 : mcP 117 := rfl
theorem mcu_118 : ∀ a, a < 118 → mcP a := lt_s mcu_117 mc_117
set_option maxRecDepth 100000 in
theorem mc_118 : mcP 118 := rfl
theorem mcu_119 : ∀ a, a < 119 → mcP a := lt_s mcu_118 mc_118
set_option maxRecDepth 100000 in
theorem mc_119 : mcP 119 := rfl
theorem mcu_120 : ∀ a, a < 120 → mcP a := lt_s mcu_119 mc_119
set_option maxRecDepth 100000 in
theorem mc_120 : mcP 120 := rfl
theorem mcu_121 : ∀ a, a < 121 → mcP a := lt_s mcu_120 mc_120
set_option maxRecDepth 100000 in
theorem mc_121 : mcP 121 := rfl
theorem mcu_122 : ∀ a, a < 122 → mcP a := lt_s mcu_121 mc_121
set_option maxRecDepth 100000 in
theorem mc_122 : mcP 122 := rfl
theorem mcu_123 : ∀ a, a < 123 → mcP a := lt_s mcu_122 mc_122
set_option maxRecDepth 100000 in
theorem mc_123 : mcP 123 := rfl
theorem mcu_124 : ∀ a, a < 124 → mcP a := lt_s mcu_123 mc_123
set_option maxRecDepth 100000 in
theorem mc_124 : mcP 124 := rfl
theorem mcu_125 : ∀ a, a < 125 → mcP a := lt_s mcu_124 mc_124
set_option maxRecDepth 100000 in
theorem mc_125 : mcP 125 := rfl
theorem mcu_126 : ∀ a, a < 126 → mcP a := lt_s mcu_125 mc_125
set_option maxRecDepth 100000 in
theorem mc_126 : mcP 126 := rfl
theorem mcu_127 : ∀ a, a < 127 → mcP a := lt_s mcu_126 mc_126
set_option maxRecDepth 100000 in
theorem mc_127 : mcP 127 := rfl
theorem mcu_128 : ∀ a, a < 128 → mcP a := lt_s mcu_127 mc_127
set_option maxRecDepth 100000 in
theorem mc_128 : mcP 128 := rfl
theorem mcu_129 : ∀ a, a < 129 → mcP a := lt_s mcu_128 mc_128
set_option maxRecDepth 100000 in
theorem mc_129 : mcP 129 := rfl
theorem mcu_130 : ∀ a, a < 130 → mcP a := lt_s mcu_129 mc_129
set_option maxRecDepth 100000 in
theorem mc_130 : mcP 130 := rfl
theorem mcu_131 : ∀ a, a < 131 → mcP a := lt_s mcu_130 mc_130
set_option maxRecDepth 100000 in
theorem mc_131 : mcP 131 := rfl
theorem mcu_132 : ∀ a, a < 132 → mcP a := lt_s mcu_131 mc_131
set_option maxRecDepth 100000 in
theorem mc_132 : mcP 132 := rfl
theorem mcu_133 : ∀ a, a < 133 → mcP a := lt_s mcu_132 mc_132
set_option maxRecDepth 100000 in
theorem mc_133 : mcP 133 := rfl
theorem mcu_134 : ∀ a, a < 134 → mcP a := lt_s mcu_133 mc_133
set_option maxRecDepth 100000 in
theorem mc_134 : mcP 134 := rfl
theorem mcu_135 : ∀ a, a < 135 → mcP a := lt_s mcu_134 mc_134
set_option maxRecDepth 100000 in
theorem mc_135 : mcP 135 := rfl
theorem mcu_136 : ∀ a, a < 136 → mcP a := lt_s mcu_135 mc_135
set_option maxRecDepth 100000 in
theorem mc_136 : mcP 136 := rfl
theorem mcu_137 : ∀ a, a < 137 → mcP a := lt_s mcu_136 mc_136
set_option maxRecDepth 100000 in
theorem mc_137 : mcP 137 := rfl
theorem mcu_138 : ∀ a, a < 138 → mcP a := lt_s mcu_137 mc_137
set_option maxRecDepth 100000 in
theorem mc_138 : mcP 138 := rfl
theorem mcu_139 : ∀ a, a < 139 → mcP a := lt_s mcu_138 mc_138
set_option maxRecDepth 100000 in
theorem mc_139 : mcP 139 := rfl
theorem mcu_140 : ∀ a, a < 140 → mcP a := lt_s mcu_139 mc_139
set_option maxRecDepth 100000 in
theorem mc_140 : mcP 140 := rfl
theorem mcu_141 : ∀ a, a < 141 → mcP a := lt_s mcu_140 mc_140
set_option maxRecDepth 100000 in
theorem mc_141 : mcP 141 := rfl
theorem mcu_142 : ∀ a, a < 142 → mcP a := lt_s mcu_141 mc_141
set_option maxRecDepth 100000 in
theorem mc_142 : mcP 142 := rfl
theorem mcu_143 : ∀ a, a < 143 → mcP a := lt_s mcu_142 mc_142
set_option maxRecDepth 100000 in
theorem mc_143 : mcP 143 := rfl
theorem mcu_144 : ∀ a, a < 144 → mcP a := lt_s mcu_143 mc_143
set_option maxRecDepth 100000 in
theorem mc_144 : mcP 144 := rfl
theorem mcu_145 : ∀ a, a < 145 → mcP a := lt_s mcu_144 mc_144
set_option maxRecDepth 100000 in
theorem mc_145 : mcP 145 := rfl
theorem mcu_146 : ∀ a, a < 146 → mcP a := lt_s mcu_145 mc_145
set_option maxRecDepth 100000 in
theorem mc_146 : mcP 146 := rfl
theorem mcu_147 : ∀ a, a < 147 → mcP a := lt_s mcu_146 mc_146
set_option maxRecDepth 100000 in
theorem mc_147 : mcP 147 := rfl
theorem mcu_148 : ∀ a, a < 148 → mcP a := lt_s mcu_147 mc_147
set_option maxRecDepth 100000 in
theorem mc_148 : mcP 148 := rfl
theorem mcu_149 : ∀ a, a < 149 → mcP a := lt_s mcu_148 mc_148
set_option maxRecDepth 100000 in
theorem mc_149 : mcP 149 := rfl
theorem mcu_150 : ∀ a, a < 150 → mcP a := lt_s mcu_149 mc_149
set_option maxRecDepth 100000 in
theorem mc_150 : mcP 150 := rfl
theorem mcu_151 : ∀ a, a < 151 → mcP a := lt_s mcu_150 mc_150
set_option maxRecDepth 100000 in
theorem mc_151 : mcP 151 := rfl
theorem mcu_152 : ∀ a, a < 152 → mcP a := lt_s mcu_151 mc_151
set_option maxRecDepth 100000 in
theorem mc_152 : mcP 152 := rfl
theorem mcu_153 : ∀ a, a < 153 → mcP a := lt_s mcu_152 mc_152
set_option maxRecDepth 100000 in
theorem mc_153 : mcP 153 := rfl
theorem mcu_154 : ∀ a, a < 154 → mcP a := lt_s mcu_153 mc_153
set_option maxRecDepth 100000 in
theorem mc_154 : mcP 154 := rfl
theorem mcu_155 : ∀ a, a < 155 → mcP a := lt_s mcu_154 mc_154
set_option maxRecDepth 100000 in
theorem mc_155 : mcP 155 := rfl
theorem mcu_156 : ∀ a, a < 156 → mcP a := lt_s mcu_155 mc_155
set_option maxRecDepth 100000 in
theorem mc_156 : mcP 156 := rfl
theorem mcu_157 : ∀ a, a < 157 → mcP a := lt_s mcu_156 mc_156
set_option maxRecDepth 100000 in
theorem mc_157 : mcP 157 := rfl
theorem mcu_158 : ∀ a, a < 158 → mcP a := lt_s mcu_157 mc_157
set_option maxRecDepth 100000 in
theorem mc_158 : mcP 158 := rfl
theorem mcu_159 : ∀ a, a < 159 → mcP a := lt_s mcu_158 mc_158
set_option maxRecDepth 100000 in
theorem mc_159 : mcP 159 := rfl
theorem mcu_160 : ∀ a, a < 160 → mcP a := lt_s mcu_159 mc_159
set_option maxRecDepth 100000 in
theorem mc_160 : mcP 160 := rfl
theorem mcu_161 : ∀ a, a < 161 → mcP a := lt_s mcu_160 mc_160
set_option maxRecDepth 100000 in
theorem mc_161 : mcP 161 := rfl
theorem mcu_162 : ∀ a, a < 162 → mcP a := lt_s mcu_161 mc_161
set_option maxRecDepth 100000 in
theorem mc_162 : mcP 162 := rfl
theorem mcu_163 : ∀ a, a < 163 → mcP a := lt_s mcu_162 mc_162
set_option maxRecDepth 100000 in
theorem mc_163 : mcP 163 := rfl
theorem mcu_164 : ∀ a, a < 164 → mcP a := lt_s mcu_163 mc_163
set_option maxRecDepth 100000 in
theorem mc_164 : mcP 164 := rfl
theorem mcu_165 : ∀ a, a < 165 → mcP a := lt_s mcu_164 mc_164
set_option maxRecDepth 100000 in
theorem mc_165 : mcP 165 := rfl
theorem mcu_166 : ∀ a, a < 166 → mcP a := lt_s mcu_165 mc_165
set_option maxRecDepth 100000 in
theorem mc_166 : mcP 166 := rfl
theorem mcu_167 : ∀ a, a < 167 → mcP a := lt_s mcu_166 mc_166
set_option maxRecDepth 100000 in
theorem mc_167 : mcP 167 := rfl
theorem mcu_168 : ∀ a, a < 168 → mcP a := lt_s mcu_167 mc_167
set_option maxRecDepth 100000 in
theorem mc_168 : mcP 168 := rfl
theorem mcu_169 : ∀ a, a < 169 → mcP a := lt_s mcu_168 mc_168
set_option maxRecDepth 100000 in
theorem mc_169 : mcP 169 := rfl
theorem mcu_170 : ∀ a, a < 170 → mcP a := lt_s mcu_169 mc_169
set_option maxRecDepth 100000 in
theorem mc_170 : mcP 170 := rfl
theorem mcu_171 : ∀ a, a < 171 → mcP a := lt_s mcu_170 mc_170
set_option maxRecDepth 100000 in
theorem mc_171 : mcP 171 := rfl
theorem mcu_172 : ∀ a, a < 172 → mcP a := lt_s mcu_171 mc_171
set_option maxRecDepth 100000 in
theorem mc_172 : mcP 172 := rfl
theorem mcu_173 : ∀ a, a < 173 → mcP a := lt_s mcu_172 mc_172
set_option maxRecDepth 100000 in
theorem mc_173 : mcP 173 := rfl
theorem mcu_174 : ∀ a, a < 174 → mcP a := lt_s mcu_173 mc_173
set_option maxRecDepth 100000 in
theorem mc_174 : mcP 174 := rfl
theorem mcu_175 : ∀ a, a < 175 → mcP a := lt_s mcu_174 mc_174
set_option maxRecDepth 100000 in
theorem mc_175 : mcP 175 := rfl
theorem mcu_176 : ∀ a, a < 176 → mcP a := lt_s mcu_175 mc_175
set_option maxRecDepth 100000 in
theorem mc_176 : mcP 176 := rfl
theorem mcu_177 : ∀ a, a < 177 → mcP a := lt_s mcu_176 mc_176
set_option maxRecDepth 100000 in
theorem mc_177 : mcP 177 := rfl
theorem mcu_178 : ∀ a, a < 178 → mcP a := lt_s mcu_177 mc_177
set_option maxRecDepth 100000 in
theorem mc_178 : mcP 178 := rfl
theorem mcu_179 : ∀ a, a < 179 → mcP a := lt_s mcu_178 mc_178
set_option maxRecDepth 100000 in
theorem mc_179 : mcP 179 := rfl
theorem mcu_180 : ∀ a, a < 180 → mcP a := lt_s mcu_179 mc_179
set_option maxRecDepth 100000 in
theorem mc_180 : mcP 180 := rfl
theorem mcu_181 : ∀ a, a < 181 → mcP a := lt_s mcu_180 mc_180
set_option maxRecDepth 100000 in
theorem mc_181 : mcP 181 := rfl
theorem mcu_182 : ∀ a, a < 182 → mcP a := lt_s mcu_181 mc_181
set_option maxRecDepth 100000 in
theorem mc_182 : mcP 182 := rfl
theorem mcu_183 : ∀ a, a < 183 → mcP a := lt_s mcu_182 mc_182
set_option maxRecDepth 100000 in
theorem mc_183 : mcP 183 := rfl
theorem mcu_184 : ∀ a, a < 184 → mcP a := lt_s mcu_183 mc_183
set_option maxRecDepth 100000 in
theorem mc_184 : mcP 184 := rfl
theorem mcu_185 : ∀ a, a < 185 → mcP a := lt_s mcu_184 mc_184
set_option maxRecDepth 100000 in
theorem mc_185 : mcP 185 := rfl
theorem mcu_186 : ∀ a, a < 186 → mcP a := lt_s mcu_185 mc_185
set_option maxRecDepth 100000 in
theorem mc_186 : mcP 186 := rfl
theorem mcu_187 : ∀ a, a < 187 → mcP a := lt_s mcu_186 mc_186
set_option maxRecDepth 100000 in
theorem mc_187 : mcP 187 := rfl
theorem mcu_188 : ∀ a, a < 188 → mcP a := lt_s mcu_187 mc_187
set_option maxRecDepth 100000 in
theorem mc_188 : mcP 188 := rfl
theorem mcu_189 : ∀ a, a < 189 → mcP a := lt_s mcu_188 mc_188
set_option maxRecDepth 100000 in
theorem mc_189 : mcP 189 := rfl
theorem mcu_190 : ∀ a, a < 190 → mcP a := lt_s mcu_189 mc_189
set_option maxRecDepth 100000 in
theorem mc_190 : mcP 190 := rfl
theorem mcu_191 : ∀ a, a < 191 → mcP a := lt_s mcu_190 mc_190
set_option maxRecDepth 100000 in
theorem mc_191 : mcP 191 := rfl
theorem mcu_192 : ∀ a, a < 192 → mcP a := lt_s mcu_191 mc_191
set_option maxRecDepth 100000 in
theorem mc_192 : mcP 192 := rfl
theorem mcu_193 : ∀ a, a < 193 → mcP a := lt_s mcu_192 mc_192
set_option maxRecDepth 100000 in
theorem mc_193 : mcP 193 := rfl
theorem mcu_194 : ∀ a, a < 194 → mcP a := lt_s mcu_193 mc_193
set_option maxRecDepth 100000 in
theorem mc_194 : mcP 194 := rfl
theorem mcu_195 : ∀ a, a < 195 → mcP a := lt_s mcu_194 mc_194
set_option maxRecDepth 100000 in
theorem mc_195 : mcP 195 := rfl
theorem mcu_196 : ∀ a, a < 196 → mcP a := lt_s mcu_195 mc_195
set_option maxRecDepth 100000 in
theorem mc_196 : mcP 196 := rfl
theorem mcu_197 : ∀ a, a < 197 → mcP a := lt_s mcu_196 mc_196
set_option maxRecDepth 100000 in
theorem mc_197 : mcP 197 := rfl
theorem mcu_198 : ∀ a, a < 198 → mcP a := lt_s mcu_197 mc_197
set_option maxRecDepth 100000 in
theorem mc_198 : mcP 198 := rfl
theorem mcu_199 : ∀ a, a < 199 → mcP a := lt_s mcu_198 mc_198
set_option maxRecDepth 100000 in
theorem mc_199 : mcP 199 := rfl
theorem mcu_200 : ∀ a, a < 200 → mcP a := lt_s mcu_199 mc_199
set_option maxRecDepth 100000 in
theorem mc_200 : mcP 200 := rfl
theorem mcu_201 : ∀ a, a < 201 → mcP a := lt_s mcu_200 mc_200
set_option maxRecDepth 100000 in
theorem mc_201 : mcP 201 := rfl
theorem mcu_202 : ∀ a, a < 202 → mcP a := lt_s mcu_201 mc_201
set_option maxRecDepth 100000 in
theorem mc_202 : mcP 202 := rfl
theorem mcu_203 : ∀ a, a < 203 → mcP a := lt_s mcu_202 mc_202
set_option maxRecDepth 100000 in
theorem mc_203 : mcP 203 := rfl
theorem mcu_204 : ∀ a, a < 204 → mcP a := lt_s mcu_203 mc_203
set_option maxRecDepth 100000 in
theorem mc_204 : mcP 204 := rfl
theorem mcu_205 : ∀ a, a < 205 → mcP a := lt_s mcu_204 mc_204
set_option maxRecDepth 100000 in
theorem mc_205 : mcP 205 := rfl
theorem mcu_206 : ∀ a, a < 206 → mcP a := lt_s mcu_205 mc_205
set_option maxRecDepth 100000 in
theorem mc_206 : mcP 206 := rfl
theorem mcu_207 : ∀ a, a < 207 → mcP a := lt_s mcu_206 mc_206
set_option maxRecDepth 100000 in
theorem mc_207 : mcP 207 := rfl
theorem mcu_208 : ∀ a, a < 208 → mcP a := lt_s mcu_207 mc_207
set_option maxRecDepth 100000 in
theorem mc_208 : mcP 208 := rfl
theorem mcu_209 : ∀ a, a < 209 → mcP a := lt_s mcu_208 mc_208
set_option maxRecDepth 100000 in
theorem mc_209 : mcP 209 := rfl
theorem mcu_210 : ∀ a, a < 210 → mcP a := lt_s mcu_209 mc_209
set_option maxRecDepth 100000 in
theorem mc_210 : mcP 210 := rfl
theorem mcu_211 : ∀ a, a < 211 → mcP a := lt_s mcu_210 mc_210
set_option maxRecDepth 100000 in
theorem mc_211 : mcP 211 := rfl
theorem mcu_212 : ∀ a, a < 212 → mcP a := lt_s mcu_211 mc_211
set_option maxRecDepth 100000 in
theorem mc_212 : mcP 212 := rfl
theorem mcu_213 : ∀ a, a < 213 → mcP a := lt_s mcu_212 mc_212
set_option maxRecDepth 100000 in
theorem mc_213 : mcP 213 := rfl
theorem mcu_214 : ∀ a, a < 214 → mcP a := lt_s mcu_213 mc_213
set_option maxRecDepth 100000 in
theorem mc_214 : mcP 214 := rfl
theorem mcu_215 : ∀ a, a < 215 → mcP a := lt_s mcu_214 mc_214
set_option maxRecDepth 100000 in
theorem mc_215 : mcP 215 := rfl
theorem mcu_216 : ∀ a, a < 216 → mcP a := lt_s mcu_215 mc_215
set_option maxRecDepth 100000 in
theorem mc_216 : mcP 216 := rfl
theorem mcu_217 : ∀ a, a < 217 → mcP a := lt_s mcu_216 mc_216
set_option maxRecDepth 100000 in
theorem mc_217 : mcP 217 := rfl
theorem mcu_218 : ∀ a, a < 218 → mcP a := lt_s mcu_217 mc_217
set_option maxRecDepth 100000 in
theorem mc_218 : mcP 218 := rfl
theorem mcu_219 : ∀ a, a < 219 → mcP a := lt_s mcu_218 mc_218
set_option maxRecDepth 100000 in
theorem mc_219 : mcP 219 := rfl
theorem mcu_220 : ∀ a, a < 220 → mcP a := lt_s mcu_219 mc_219
set_option maxRecDepth 100000 in
theorem mc_220 : mcP 220 := rfl
theorem mcu_221 : ∀ a, a < 221 → mcP a := lt_s mcu_220 mc_220
set_option maxRecDepth 100000 in
theorem mc_221 : mcP 221 := rfl
theorem mcu_222 : ∀ a, a < 222 → mcP a := lt_s mcu_221 mc_221
set_option maxRecDepth 100000 in
theorem mc_222 : mcP 222 := rfl
theorem mcu_223 : ∀ a, a < 223 → mcP a := lt_s mcu_222 mc_222
set_option maxRecDepth 100000 in
theorem mc_223 : mcP 223 := rfl
theorem mcu_224 : ∀ a, a < 224 → mcP a := lt_s mcu_223 mc_223
set_option maxRecDepth 100000 in
theorem mc_224 : mcP 224 := rfl
theorem mcu_225 : ∀ a, a < 225 → mcP a := lt_s mcu_224 mc_224
set_option maxRecDepth 100000 in
theorem mc_225 : mcP 225 := rfl
theorem mcu_226 : ∀ a, a < 226 → mcP a := lt_s mcu_225 mc_225
set_option maxRecDepth 100000 in
theorem mc_226 : mcP 226 := rfl
theorem mcu_227 : ∀ a, a < 227 → mcP a := lt_s mcu_226 mc_226
set_option maxRecDepth 100000 in
theorem mc_227 : mcP 227 := rfl
theorem mcu_228 : ∀ a, a < 228 → mcP a := lt_s mcu_227 mc_227
set_option maxRecDepth 100000 in
theorem mc_228 : mcP 228 := rfl
theorem mcu_229 : ∀ a, a < 229 → mcP a := lt_s mcu_228 mc_228
set_option maxRecDepth 100000 in
theorem mc_229 : mcP 229 := rfl
theorem mcu_230 : ∀ a, a < 230 → mcP a := lt_s mcu_229 mc_229
set_option maxRecDepth 100000 in
theorem mc_230 : mcP 230 := rfl
theorem mcu_231 : ∀ a, a < 231 → mcP a := lt_s mcu_230 mc_230
set_option maxRecDepth 100000 in
theorem mc_231 : mcP 231 := rfl
theorem mcu_232 : ∀ a, a < 232 → mcP a := lt_s mcu_231 mc_231
set_option maxRecDepth 100000 in
theorem mc_232 : mcP 232 := rfl
theorem mcu_233 : ∀ a, a < 233 → mcP a := lt_s mcu_232 mc_232
set_option maxRecDepth 100000 in
theorem mc_233 : mcP 233 := rfl
theorem mcu_234 : ∀ a, a < 234 → mcP a := lt_s mcu_233 mc_233
set_option maxRecDepth 100000 in
theorem mc_234 : mcP 234 := rfl
theorem mcu_235 : ∀ a, a < 235 → mcP a := lt_s mcu_234 mc_234
set_option maxRecDepth 100000 in
theorem mc_235 : mcP 235 := rfl
theorem mcu_236 : ∀ a, a < 236 → mcP a := lt_s mcu_235 mc_235
set_option maxRecDepth 100000 in
theorem mc_236 : mcP 236 := rfl
theorem mcu_237 : ∀ a, a < 237 → mcP a := lt_s mcu_236 mc_236
set_option maxRecDepth 100000 in
theorem mc_237 : mcP 237 := rfl
theorem mcu_238 : ∀ a, a < 238 → mcP a := lt_s mcu_237 mc_237
set_option maxRecDepth 100000 in
theorem mc_238 : mcP 238 := rfl
theorem mcu_239 : ∀ a, a < 239 → mcP a := lt_s mcu_238 mc_238
