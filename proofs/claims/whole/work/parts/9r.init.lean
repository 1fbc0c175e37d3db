/-! the two constructors -/
section IT
def ap (S : MS) (o : Nat × Nat × Nat × Nat × Int32) : MS := if o.1 = 0 then m_new S o.2.1 o.2.2.1 else if o.1 = 1 then m_sI S o.2.1 (upd (m_I S o.2.1) o.2.2.1 o.2.2.2.2) else if o.1 = 2 then m_sP S o.2.1 (va_up (m_P S o.2.1) o.2.2.1 (some o.2.2.2.1)) else m_grid S o.2.1 o.2.2.1
def run (b : MS) : List (Nat × Nat × Nat × Nat × Int32) → MS
  | [] => b
  | o :: L => ap (run b L) o
def bC : MS := m_new m_0 10 0
def bR : MS := m_new m_0 11 0
theorem rstP {b : MS} {L : List (Nat × Nat × Nat × Nat × Int32)} {a kd j v kv : Nat} {i : Int32} (hj : i.toNatClampNeg = j) (h : ((0 < a ∧ a ≤ m_n (run b L) ∧ m_K (run b L) a = kd) ∧ (0 < v ∧ v ≤ m_n (run b L) ∧ m_K (run b L) v = kv)) ∧ ¬ (i < 0 ∨ m_L (run b L) a ≤ i.toNatClampNeg)) : o_stP (run b L) a kd i v kv = some (run b ((2, a, j, v, 0) :: L)) := by
  subst hj
  exact if_pos h
def cl_0 : List (Nat × Nat × Nat × Nat × Int32) := []
def cl_1 : List (Nat × Nat × Nat × Nat × Int32) := (0, 2, 0, 0, 0) :: cl_0
def cl_2 : List (Nat × Nat × Nat × Nat × Int32) := (0, 0, 0, 0, 0) :: cl_1
def cl_3 : List (Nat × Nat × Nat × Nat × Int32) := (1, 3, 0, 0, 0) :: cl_2
def cl_4 : List (Nat × Nat × Nat × Nat × Int32) := (2, 3, 1, 0, 0) :: cl_3
def cl_5 : List (Nat × Nat × Nat × Nat × Int32) := (2, 2, 0, 3, 0) :: cl_4
def cl_6 : List (Nat × Nat × Nat × Nat × Int32) := (0, 0, 0, 0, 0) :: cl_5
def cl_7 : List (Nat × Nat × Nat × Nat × Int32) := (1, 4, 0, 0, 0) :: cl_6
def cl_8 : List (Nat × Nat × Nat × Nat × Int32) := (2, 4, 1, 0, 0) :: cl_7
def cl_9 : List (Nat × Nat × Nat × Nat × Int32) := (2, 2, 1, 4, 0) :: cl_8
def cl_10 : List (Nat × Nat × Nat × Nat × Int32) := (1, 2, 2, 0, 0) :: cl_9
def cl_11 : List (Nat × Nat × Nat × Nat × Int32) := (1, 2, 3, 0, 99) :: cl_10
def cl_12 : List (Nat × Nat × Nat × Nat × Int32) := (0, 12, 12, 0, 0) :: cl_11
def cl_13 : List (Nat × Nat × Nat × Nat × Int32) := (2, 2, 4, 5, 0) :: cl_12
def cl_14 : List (Nat × Nat × Nat × Nat × Int32) := (0, 12, 12, 0, 0) :: cl_13
def cl_15 : List (Nat × Nat × Nat × Nat × Int32) := (2, 2, 5, 6, 0) :: cl_14
def cl_16 : List (Nat × Nat × Nat × Nat × Int32) := (0, 12, 12, 0, 0) :: cl_15
def cl_17 : List (Nat × Nat × Nat × Nat × Int32) := (2, 2, 6, 7, 0) :: cl_16
def cl_18 : List (Nat × Nat × Nat × Nat × Int32) := (1, 2, 7, 0, 0) :: cl_17
def cl_19 : List (Nat × Nat × Nat × Nat × Int32) := (1, 2, 8, 0, 0) :: cl_18
def cl_20 : List (Nat × Nat × Nat × Nat × Int32) := (2, 1, 0, 2, 0) :: cl_19
def cl_21 : List (Nat × Nat × Nat × Nat × Int32) := (0, 1, 0, 0, 0) :: cl_20
def cl_22 : List (Nat × Nat × Nat × Nat × Int32) := (1, 8, 0, 0, 60) :: cl_21
def cl_23 : List (Nat × Nat × Nat × Nat × Int32) := (0, 12, 12, 0, 0) :: cl_22
def cl_24 : List (Nat × Nat × Nat × Nat × Int32) := (2, 8, 1, 9, 0) :: cl_23
def cl_25 : List (Nat × Nat × Nat × Nat × Int32) := (0, 12, 12, 0, 0) :: cl_24
def cl_26 : List (Nat × Nat × Nat × Nat × Int32) := (2, 8, 2, 10, 0) :: cl_25
def cl_27 : List (Nat × Nat × Nat × Nat × Int32) := (1, 8, 3, 0, 0) :: cl_26
def cl_28 : List (Nat × Nat × Nat × Nat × Int32) := (0, 12, 144, 0, 0) :: cl_27
def cl_29 : List (Nat × Nat × Nat × Nat × Int32) := (2, 8, 4, 11, 0) :: cl_28
def cl_30 : List (Nat × Nat × Nat × Nat × Int32) := (1, 8, 5, 0, 0) :: cl_29
def cl_31 : List (Nat × Nat × Nat × Nat × Int32) := (1, 8, 6, 0, 0) :: cl_30
def cl_32 : List (Nat × Nat × Nat × Nat × Int32) := (1, 8, 7, 0, 0) :: cl_31
def cl_33 : List (Nat × Nat × Nat × Nat × Int32) := (0, 13, 144, 0, 0) :: cl_32
def cl_34 : List (Nat × Nat × Nat × Nat × Int32) := (2, 8, 8, 12, 0) :: cl_33
def cl_35 : List (Nat × Nat × Nat × Nat × Int32) := (0, 12, 144, 0, 0) :: cl_34
def cl_36 : List (Nat × Nat × Nat × Nat × Int32) := (2, 8, 9, 13, 0) :: cl_35
def cl_37 : List (Nat × Nat × Nat × Nat × Int32) := (2, 1, 1, 8, 0) :: cl_36
def cl_38 : List (Nat × Nat × Nat × Nat × Int32) := (1, 1, 2, 0, 1) :: cl_37
def cl_39 : List (Nat × Nat × Nat × Nat × Int32) := (0, 0, 0, 0, 0) :: cl_38
def cl_40 : List (Nat × Nat × Nat × Nat × Int32) := (1, 14, 0, 0, 0) :: cl_39
def cl_41 : List (Nat × Nat × Nat × Nat × Int32) := (2, 14, 1, 0, 0) :: cl_40
def cl_42 : List (Nat × Nat × Nat × Nat × Int32) := (2, 1, 3, 14, 0) :: cl_41
def cl_43 : List (Nat × Nat × Nat × Nat × Int32) := (0, 0, 0, 0, 0) :: cl_42
def cl_44 : List (Nat × Nat × Nat × Nat × Int32) := (1, 15, 0, 0, 0) :: cl_43
def cl_45 : List (Nat × Nat × Nat × Nat × Int32) := (2, 15, 1, 0, 0) :: cl_44
def cl_46 : List (Nat × Nat × Nat × Nat × Int32) := (2, 1, 4, 15, 0) :: cl_45
def cl_47 : List (Nat × Nat × Nat × Nat × Int32) := (0, 6, 0, 0, 0) :: cl_46
def cl_48 : List (Nat × Nat × Nat × Nat × Int32) := (0, 12, 12, 0, 0) :: cl_47
def cl_49 : List (Nat × Nat × Nat × Nat × Int32) := (2, 16, 0, 17, 0) :: cl_48
def cl_50 : List (Nat × Nat × Nat × Nat × Int32) := (0, 12, 12, 0, 0) :: cl_49
def cl_51 : List (Nat × Nat × Nat × Nat × Int32) := (2, 16, 1, 18, 0) :: cl_50
def cl_52 : List (Nat × Nat × Nat × Nat × Int32) := (0, 12, 864, 0, 0) :: cl_51
def cl_53 : List (Nat × Nat × Nat × Nat × Int32) := (2, 16, 2, 19, 0) :: cl_52
def cl_54 : List (Nat × Nat × Nat × Nat × Int32) := (2, 1, 5, 16, 0) :: cl_53
def cl_55 : List (Nat × Nat × Nat × Nat × Int32) := (0, 5, 0, 0, 0) :: cl_54
def cl_56 : List (Nat × Nat × Nat × Nat × Int32) := (3, 5, 5, 0, 0) :: cl_55
def cl_57 : List (Nat × Nat × Nat × Nat × Int32) := (2, 20, 0, 21, 0) :: cl_56
def cl_58 : List (Nat × Nat × Nat × Nat × Int32) := (3, 6, 32, 0, 0) :: cl_57
def cl_59 : List (Nat × Nat × Nat × Nat × Int32) := (2, 20, 1, 27, 0) :: cl_58
def cl_60 : List (Nat × Nat × Nat × Nat × Int32) := (0, 12, 5, 0, 0) :: cl_59
def cl_61 : List (Nat × Nat × Nat × Nat × Int32) := (2, 20, 2, 34, 0) :: cl_60
def cl_62 : List (Nat × Nat × Nat × Nat × Int32) := (2, 1, 6, 20, 0) :: cl_61
def cl_63 : List (Nat × Nat × Nat × Nat × Int32) := (3, 4, 144, 0, 0) :: cl_62
def cl_64 : List (Nat × Nat × Nat × Nat × Int32) := (2, 1, 7, 35, 0) :: cl_63
def cl_65 : List (Nat × Nat × Nat × Nat × Int32) := (0, 13, 4, 0, 0) :: cl_64
def cl_66 : List (Nat × Nat × Nat × Nat × Int32) := (2, 1, 8, 40, 0) :: cl_65
def cl_67 : List (Nat × Nat × Nat × Nat × Int32) := (0, 0, 0, 0, 0) :: cl_66
def cl_68 : List (Nat × Nat × Nat × Nat × Int32) := (1, 41, 0, 0, 0) :: cl_67
def cl_69 : List (Nat × Nat × Nat × Nat × Int32) := (2, 41, 1, 0, 0) :: cl_68
def cl_70 : List (Nat × Nat × Nat × Nat × Int32) := (2, 1, 9, 41, 0) :: cl_69
def cl_71 : List (Nat × Nat × Nat × Nat × Int32) := (0, 14, 4, 0, 0) :: cl_70
def cl_72 : List (Nat × Nat × Nat × Nat × Int32) := (2, 1, 10, 42, 0) :: cl_71
def cl_73 : List (Nat × Nat × Nat × Nat × Int32) := (0, 8, 0, 0, 0) :: cl_72
def cl_74 : List (Nat × Nat × Nat × Nat × Int32) := (1, 43, 0, 0, -1) :: cl_73
def cl_75 : List (Nat × Nat × Nat × Nat × Int32) := (1, 43, 1, 0, 0) :: cl_74
def cl_76 : List (Nat × Nat × Nat × Nat × Int32) := (0, 12, 60, 0, 0) :: cl_75
def cl_77 : List (Nat × Nat × Nat × Nat × Int32) := (2, 43, 2, 44, 0) :: cl_76
def cl_78 : List (Nat × Nat × Nat × Nat × Int32) := (2, 42, 0, 43, 0) :: cl_77
def cl_79 : List (Nat × Nat × Nat × Nat × Int32) := (0, 8, 0, 0, 0) :: cl_78
def cl_80 : List (Nat × Nat × Nat × Nat × Int32) := (1, 45, 0, 0, -1) :: cl_79
def cl_81 : List (Nat × Nat × Nat × Nat × Int32) := (1, 45, 1, 0, 0) :: cl_80
def cl_82 : List (Nat × Nat × Nat × Nat × Int32) := (0, 12, 60, 0, 0) :: cl_81
def cl_83 : List (Nat × Nat × Nat × Nat × Int32) := (2, 45, 2, 46, 0) :: cl_82
def cl_84 : List (Nat × Nat × Nat × Nat × Int32) := (2, 42, 1, 45, 0) :: cl_83
def cl_85 : List (Nat × Nat × Nat × Nat × Int32) := (0, 8, 0, 0, 0) :: cl_84
def cl_86 : List (Nat × Nat × Nat × Nat × Int32) := (1, 47, 0, 0, -1) :: cl_85
def cl_87 : List (Nat × Nat × Nat × Nat × Int32) := (1, 47, 1, 0, 0) :: cl_86
def cl_88 : List (Nat × Nat × Nat × Nat × Int32) := (0, 12, 60, 0, 0) :: cl_87
def cl_89 : List (Nat × Nat × Nat × Nat × Int32) := (2, 47, 2, 48, 0) :: cl_88
def cl_90 : List (Nat × Nat × Nat × Nat × Int32) := (2, 42, 2, 47, 0) :: cl_89
def cl_91 : List (Nat × Nat × Nat × Nat × Int32) := (0, 8, 0, 0, 0) :: cl_90
def cl_92 : List (Nat × Nat × Nat × Nat × Int32) := (1, 49, 0, 0, -1) :: cl_91
def cl_93 : List (Nat × Nat × Nat × Nat × Int32) := (1, 49, 1, 0, 0) :: cl_92
def cl_94 : List (Nat × Nat × Nat × Nat × Int32) := (0, 12, 60, 0, 0) :: cl_93
def cl_95 : List (Nat × Nat × Nat × Nat × Int32) := (2, 49, 2, 50, 0) :: cl_94
def cl_96 : List (Nat × Nat × Nat × Nat × Int32) := (2, 42, 3, 49, 0) :: cl_95
def cl_97 : List (Nat × Nat × Nat × Nat × Int32) := (1, 1, 11, 0, 0) :: cl_96
def cl_98 : List (Nat × Nat × Nat × Nat × Int32) := (1, 1, 12, 0, 0) :: cl_97
def rl_0 : List (Nat × Nat × Nat × Nat × Int32) := []
def rl_1 : List (Nat × Nat × Nat × Nat × Int32) := (0, 12, 12, 0, 0) :: rl_0
def rl_2 : List (Nat × Nat × Nat × Nat × Int32) := (2, 1, 2, 2, 0) :: rl_1
def rl_3 : List (Nat × Nat × Nat × Nat × Int32) := (0, 12, 12, 0, 0) :: rl_2
def rl_4 : List (Nat × Nat × Nat × Nat × Int32) := (2, 1, 3, 3, 0) :: rl_3
def rl_5 : List (Nat × Nat × Nat × Nat × Int32) := (0, 12, 12, 0, 0) :: rl_4
def rl_6 : List (Nat × Nat × Nat × Nat × Int32) := (2, 1, 4, 4, 0) :: rl_5
def rl_7 : List (Nat × Nat × Nat × Nat × Int32) := (0, 12, 12, 0, 0) :: rl_6
def rl_8 : List (Nat × Nat × Nat × Nat × Int32) := (2, 1, 5, 5, 0) :: rl_7
def rl_9 : List (Nat × Nat × Nat × Nat × Int32) := (0, 12, 12, 0, 0) :: rl_8
def rl_10 : List (Nat × Nat × Nat × Nat × Int32) := (2, 1, 6, 6, 0) :: rl_9
def rl_11 : List (Nat × Nat × Nat × Nat × Int32) := (0, 12, 12, 0, 0) :: rl_10
def rl_12 : List (Nat × Nat × Nat × Nat × Int32) := (2, 1, 7, 7, 0) :: rl_11
def rl_13 : List (Nat × Nat × Nat × Nat × Int32) := (0, 12, 30, 0, 0) :: rl_12
def rl_14 : List (Nat × Nat × Nat × Nat × Int32) := (2, 1, 9, 8, 0) :: rl_13
def rl_15 : List (Nat × Nat × Nat × Nat × Int32) := (0, 12, 30, 0, 0) :: rl_14
def rl_16 : List (Nat × Nat × Nat × Nat × Int32) := (2, 1, 10, 9, 0) :: rl_15
def rl_17 : List (Nat × Nat × Nat × Nat × Int32) := (0, 12, 30, 0, 0) :: rl_16
def rl_18 : List (Nat × Nat × Nat × Nat × Int32) := (2, 1, 11, 10, 0) :: rl_17
def rl_19 : List (Nat × Nat × Nat × Nat × Int32) := (0, 12, 450, 0, 0) :: rl_18
def rl_20 : List (Nat × Nat × Nat × Nat × Int32) := (2, 1, 12, 11, 0) :: rl_19
def rl_21 : List (Nat × Nat × Nat × Nat × Int32) := (0, 12, 30, 0, 0) :: rl_20
def rl_22 : List (Nat × Nat × Nat × Nat × Int32) := (2, 1, 13, 12, 0) :: rl_21
def rl_23 : List (Nat × Nat × Nat × Nat × Int32) := (0, 12, 30, 0, 0) :: rl_22
def rl_24 : List (Nat × Nat × Nat × Nat × Int32) := (2, 1, 14, 13, 0) :: rl_23
def rl_25 : List (Nat × Nat × Nat × Nat × Int32) := (0, 12, 12, 0, 0) :: rl_24
def rl_26 : List (Nat × Nat × Nat × Nat × Int32) := (2, 1, 20, 14, 0) :: rl_25
def rl_27 : List (Nat × Nat × Nat × Nat × Int32) := (0, 12, 12, 0, 0) :: rl_26
def rl_28 : List (Nat × Nat × Nat × Nat × Int32) := (2, 1, 21, 15, 0) :: rl_27
def rl_29 : List (Nat × Nat × Nat × Nat × Int32) := (0, 12, 12, 0, 0) :: rl_28
def rl_30 : List (Nat × Nat × Nat × Nat × Int32) := (2, 1, 22, 16, 0) :: rl_29
def rl_31 : List (Nat × Nat × Nat × Nat × Int32) := (0, 12, 144, 0, 0) :: rl_30
def rl_32 : List (Nat × Nat × Nat × Nat × Int32) := (2, 1, 24, 17, 0) :: rl_31
def rl_33 : List (Nat × Nat × Nat × Nat × Int32) := (0, 12, 12, 0, 0) :: rl_32
def rl_34 : List (Nat × Nat × Nat × Nat × Int32) := (2, 1, 25, 18, 0) :: rl_33
def rl_35 : List (Nat × Nat × Nat × Nat × Int32) := (0, 12, 144, 0, 0) :: rl_34
def rl_36 : List (Nat × Nat × Nat × Nat × Int32) := (2, 1, 26, 19, 0) :: rl_35
def rl_37 : List (Nat × Nat × Nat × Nat × Int32) := (0, 13, 144, 0, 0) :: rl_36
def rl_38 : List (Nat × Nat × Nat × Nat × Int32) := (2, 1, 27, 20, 0) :: rl_37
def rl_39 : List (Nat × Nat × Nat × Nat × Int32) := (0, 12, 2, 0, 0) :: rl_38
def rl_40 : List (Nat × Nat × Nat × Nat × Int32) := (2, 1, 28, 21, 0) :: rl_39
def rl_41 : List (Nat × Nat × Nat × Nat × Int32) := (0, 12, 10, 0, 0) :: rl_40
def rl_42 : List (Nat × Nat × Nat × Nat × Int32) := (2, 1, 29, 22, 0) :: rl_41
def rl_43 : List (Nat × Nat × Nat × Nat × Int32) := (0, 12, 10, 0, 0) :: rl_42
def rl_44 : List (Nat × Nat × Nat × Nat × Int32) := (2, 1, 30, 23, 0) :: rl_43
def rl_45 : List (Nat × Nat × Nat × Nat × Int32) := (0, 12, 10, 0, 0) :: rl_44
def rl_46 : List (Nat × Nat × Nat × Nat × Int32) := (2, 1, 31, 24, 0) :: rl_45
def rl_47 : List (Nat × Nat × Nat × Nat × Int32) := (0, 12, 10, 0, 0) :: rl_46
def rl_48 : List (Nat × Nat × Nat × Nat × Int32) := (2, 1, 32, 25, 0) :: rl_47
def rl_49 : List (Nat × Nat × Nat × Nat × Int32) := (0, 12, 120, 0, 0) :: rl_48
def rl_50 : List (Nat × Nat × Nat × Nat × Int32) := (2, 1, 33, 26, 0) :: rl_49
def rl_51 : List (Nat × Nat × Nat × Nat × Int32) := (0, 12, 12, 0, 0) :: rl_50
def rl_52 : List (Nat × Nat × Nat × Nat × Int32) := (2, 1, 34, 27, 0) :: rl_51
def rl_53 : List (Nat × Nat × Nat × Nat × Int32) := (0, 12, 12, 0, 0) :: rl_52
def rl_54 : List (Nat × Nat × Nat × Nat × Int32) := (2, 1, 35, 28, 0) :: rl_53
def rl_55 : List (Nat × Nat × Nat × Nat × Int32) := (0, 12, 720, 0, 0) :: rl_54
def rl_56 : List (Nat × Nat × Nat × Nat × Int32) := (2, 1, 36, 29, 0) :: rl_55
def rl_57 : List (Nat × Nat × Nat × Nat × Int32) := (0, 12, 5, 0, 0) :: rl_56
def rl_58 : List (Nat × Nat × Nat × Nat × Int32) := (2, 1, 37, 30, 0) :: rl_57
def rl_59 : List (Nat × Nat × Nat × Nat × Int32) := (0, 13, 4, 0, 0) :: rl_58
def rl_60 : List (Nat × Nat × Nat × Nat × Int32) := (2, 1, 39, 31, 0) :: rl_59
def rl_61 : List (Nat × Nat × Nat × Nat × Int32) := (0, 12, 576, 0, 0) :: rl_60
def rl_62 : List (Nat × Nat × Nat × Nat × Int32) := (2, 1, 40, 32, 0) :: rl_61
def rl_63 : List (Nat × Nat × Nat × Nat × Int32) := (0, 12, 8, 0, 0) :: rl_62
def rl_64 : List (Nat × Nat × Nat × Nat × Int32) := (2, 1, 45, 33, 0) :: rl_63
def rl_65 : List (Nat × Nat × Nat × Nat × Int32) := (0, 12, 40, 0, 0) :: rl_64
def rl_66 : List (Nat × Nat × Nat × Nat × Int32) := (2, 1, 46, 34, 0) :: rl_65
def rl_67 : List (Nat × Nat × Nat × Nat × Int32) := (0, 13, 40, 0, 0) :: rl_66
def rl_68 : List (Nat × Nat × Nat × Nat × Int32) := (2, 1, 47, 35, 0) :: rl_67
def rl_69 : List (Nat × Nat × Nat × Nat × Int32) := (0, 12, 40, 0, 0) :: rl_68
def rl_70 : List (Nat × Nat × Nat × Nat × Int32) := (2, 1, 48, 36, 0) :: rl_69
def rl_71 : List (Nat × Nat × Nat × Nat × Int32) := (0, 12, 6, 0, 0) :: rl_70
def rl_72 : List (Nat × Nat × Nat × Nat × Int32) := (2, 1, 50, 37, 0) :: rl_71
def rl_73 : List (Nat × Nat × Nat × Nat × Int32) := (0, 13, 6, 0, 0) :: rl_72
def rl_74 : List (Nat × Nat × Nat × Nat × Int32) := (2, 1, 51, 38, 0) :: rl_73
def rl_75 : List (Nat × Nat × Nat × Nat × Int32) := (0, 12, 6, 0, 0) :: rl_74
def rl_76 : List (Nat × Nat × Nat × Nat × Int32) := (2, 1, 52, 39, 0) :: rl_75
def rl_77 : List (Nat × Nat × Nat × Nat × Int32) := (0, 12, 4, 0, 0) :: rl_76
def rl_78 : List (Nat × Nat × Nat × Nat × Int32) := (2, 1, 53, 40, 0) :: rl_77
def rl_79 : List (Nat × Nat × Nat × Nat × Int32) := (0, 12, 4, 0, 0) :: rl_78
def rl_80 : List (Nat × Nat × Nat × Nat × Int32) := (2, 1, 54, 41, 0) :: rl_79
def rl_81 : List (Nat × Nat × Nat × Nat × Int32) := (0, 12, 240, 0, 0) :: rl_80
def rl_82 : List (Nat × Nat × Nat × Nat × Int32) := (2, 1, 55, 42, 0) :: rl_81
def rl_83 : List (Nat × Nat × Nat × Nat × Int32) := (0, 12, 60, 0, 0) :: rl_82
def rl_84 : List (Nat × Nat × Nat × Nat × Int32) := (2, 1, 56, 43, 0) :: rl_83
def rl_85 : List (Nat × Nat × Nat × Nat × Int32) := (1, 1, 16, 0, 99) :: rl_84
def rl_86 : List (Nat × Nat × Nat × Nat × Int32) := (1, 1, 17, 0, 60) :: rl_85
set_option maxHeartbeats 4000000 in
theorem C_init : fX9_init (run bC cl_0) 1 = some (run bC cl_98) := by
  unfold fX9_init bX9_init_0 fX1_init bX1_init_0 fX0_init bX0_init_0 fX5_init bX5_init_0 fX4_init bX4_init_0 fX7_init bX7_init_0 fJx4a65c_init_da8c8 bJx4a65c_init_da8c8_0 fJxc12de_init_da8c8 bJxc12de_init_da8c8_0 fJxa1e45_init_da8c8 bJxa1e45_init_da8c8_0
  rw [show o_le 12 (12 : Int32) = some 12 from by decide +kernel, show o_le 144 (144 : Int32) = some 144 from by decide +kernel, show o_le 864 (864 : Int32) = some 864 from by decide +kernel, show o_le 5 (5 : Int32) = some 5 from by decide +kernel, show o_le 4 (4 : Int32) = some 4 from by decide +kernel, show o_le 60 (60 : Int32) = some 60 from by decide +kernel]
  rw [show m_n (run bC cl_0) + 1 = 2 from by decide +kernel, show m_new (run bC cl_0) 2 0 = run bC cl_1 from rfl, Option.bind_some, Option.bind_some, show m_n (run bC cl_1) + 1 = 3 from by decide +kernel, show m_new (run bC cl_1) 0 0 = run bC cl_2 from rfl, Option.bind_some, Option.bind_some, Option.bind_some, show o_sI (run bC cl_2) 3 0 0 (0 : Int32) = some (run bC cl_3) from if_pos (by decide +kernel), Option.bind_some]
  rw [Option.bind_some, show o_sP (run bC cl_3) 3 0 1 0 = some (run bC cl_4) from if_pos (by decide +kernel), Option.bind_some, Option.bind_some, show o_sP (run bC cl_4) 2 2 0 3 = some (run bC cl_5) from if_pos (by decide +kernel), Option.bind_some]
  rw [show m_n (run bC cl_5) + 1 = 4 from by decide +kernel, show m_new (run bC cl_5) 0 0 = run bC cl_6 from rfl, Option.bind_some, Option.bind_some, Option.bind_some, show o_sI (run bC cl_6) 4 0 0 (0 : Int32) = some (run bC cl_7) from if_pos (by decide +kernel), Option.bind_some, Option.bind_some]
  rw [show o_sP (run bC cl_7) 4 0 1 0 = some (run bC cl_8) from if_pos (by decide +kernel), Option.bind_some, Option.bind_some, show o_sP (run bC cl_8) 2 2 1 4 = some (run bC cl_9) from if_pos (by decide +kernel), Option.bind_some, show o_sI (run bC cl_9) 2 2 2 (0 : Int32) = some (run bC cl_10) from if_pos (by decide +kernel), Option.bind_some]
  rw [show o_sI (run bC cl_10) 2 2 3 (99 : Int32) = some (run bC cl_11) from if_pos (by decide +kernel), Option.bind_some, Option.bind_some, show m_n (run bC cl_11) + 1 = 5 from by decide +kernel, show m_new (run bC cl_11) 12 12 = run bC cl_12 from rfl, Option.bind_some, Option.bind_some, show o_sP (run bC cl_12) 2 2 4 5 = some (run bC cl_13) from if_pos (by decide +kernel), Option.bind_some]
  rw [Option.bind_some, show m_n (run bC cl_13) + 1 = 6 from by decide +kernel, show m_new (run bC cl_13) 12 12 = run bC cl_14 from rfl, Option.bind_some, Option.bind_some, show o_sP (run bC cl_14) 2 2 5 6 = some (run bC cl_15) from if_pos (by decide +kernel), Option.bind_some, Option.bind_some]
  rw [show m_n (run bC cl_15) + 1 = 7 from by decide +kernel, show m_new (run bC cl_15) 12 12 = run bC cl_16 from rfl, Option.bind_some, Option.bind_some, show o_sP (run bC cl_16) 2 2 6 7 = some (run bC cl_17) from if_pos (by decide +kernel), Option.bind_some, show o_sI (run bC cl_17) 2 2 7 (0 : Int32) = some (run bC cl_18) from if_pos (by decide +kernel), Option.bind_some, show o_sI (run bC cl_18) 2 2 8 (0 : Int32) = some (run bC cl_19) from if_pos (by decide +kernel), Option.bind_some]
  rw [Option.bind_some, show o_sP (run bC cl_19) 1 10 0 2 = some (run bC cl_20) from if_pos (by decide +kernel), Option.bind_some, show m_n (run bC cl_20) + 1 = 8 from by decide +kernel, show m_new (run bC cl_20) 1 0 = run bC cl_21 from rfl, Option.bind_some, Option.bind_some, show o_sI (run bC cl_21) 8 1 0 (60 : Int32) = some (run bC cl_22) from if_pos (by decide +kernel), Option.bind_some]
  rw [Option.bind_some, show m_n (run bC cl_22) + 1 = 9 from by decide +kernel, show m_new (run bC cl_22) 12 12 = run bC cl_23 from rfl, Option.bind_some, Option.bind_some, show o_sP (run bC cl_23) 8 1 1 9 = some (run bC cl_24) from if_pos (by decide +kernel), Option.bind_some, Option.bind_some]
  rw [show m_n (run bC cl_24) + 1 = 10 from by decide +kernel, show m_new (run bC cl_24) 12 12 = run bC cl_25 from rfl, Option.bind_some, Option.bind_some, show o_sP (run bC cl_25) 8 1 2 10 = some (run bC cl_26) from if_pos (by decide +kernel), Option.bind_some, show o_sI (run bC cl_26) 8 1 3 (0 : Int32) = some (run bC cl_27) from if_pos (by decide +kernel), Option.bind_some, Option.bind_some]
  rw [show m_n (run bC cl_27) + 1 = 11 from by decide +kernel, show m_new (run bC cl_27) 12 144 = run bC cl_28 from rfl, Option.bind_some, Option.bind_some, show o_sP (run bC cl_28) 8 1 4 11 = some (run bC cl_29) from if_pos (by decide +kernel), Option.bind_some, show o_sI (run bC cl_29) 8 1 5 (0 : Int32) = some (run bC cl_30) from if_pos (by decide +kernel), Option.bind_some, show o_sI (run bC cl_30) 8 1 6 (0 : Int32) = some (run bC cl_31) from if_pos (by decide +kernel), Option.bind_some]
  rw [show o_sI (run bC cl_31) 8 1 7 (0 : Int32) = some (run bC cl_32) from if_pos (by decide +kernel), Option.bind_some, Option.bind_some, show m_n (run bC cl_32) + 1 = 12 from by decide +kernel, show m_new (run bC cl_32) 13 144 = run bC cl_33 from rfl, Option.bind_some, Option.bind_some, show o_sP (run bC cl_33) 8 1 8 12 = some (run bC cl_34) from if_pos (by decide +kernel), Option.bind_some]
  rw [Option.bind_some, show m_n (run bC cl_34) + 1 = 13 from by decide +kernel, show m_new (run bC cl_34) 12 144 = run bC cl_35 from rfl, Option.bind_some, Option.bind_some, show o_sP (run bC cl_35) 8 1 9 13 = some (run bC cl_36) from if_pos (by decide +kernel), Option.bind_some, Option.bind_some]
  rw [show o_sP (run bC cl_36) 1 10 1 8 = some (run bC cl_37) from if_pos (by decide +kernel), Option.bind_some, show o_sI (run bC cl_37) 1 10 2 (1 : Int32) = some (run bC cl_38) from if_pos (by decide +kernel), Option.bind_some, show m_n (run bC cl_38) + 1 = 14 from by decide +kernel, show m_new (run bC cl_38) 0 0 = run bC cl_39 from rfl, Option.bind_some, Option.bind_some, Option.bind_some]
  rw [show o_sI (run bC cl_39) 14 0 0 (0 : Int32) = some (run bC cl_40) from if_pos (by decide +kernel), Option.bind_some, Option.bind_some, show o_sP (run bC cl_40) 14 0 1 0 = some (run bC cl_41) from if_pos (by decide +kernel), Option.bind_some, Option.bind_some]
  rw [show o_sP (run bC cl_41) 1 10 3 14 = some (run bC cl_42) from if_pos (by decide +kernel), Option.bind_some, show m_n (run bC cl_42) + 1 = 15 from by decide +kernel, show m_new (run bC cl_42) 0 0 = run bC cl_43 from rfl, Option.bind_some, Option.bind_some, Option.bind_some, show o_sI (run bC cl_43) 15 0 0 (0 : Int32) = some (run bC cl_44) from if_pos (by decide +kernel), Option.bind_some]
  rw [Option.bind_some, show o_sP (run bC cl_44) 15 0 1 0 = some (run bC cl_45) from if_pos (by decide +kernel), Option.bind_some, Option.bind_some, show o_sP (run bC cl_45) 1 10 4 15 = some (run bC cl_46) from if_pos (by decide +kernel), Option.bind_some]
  rw [show m_n (run bC cl_46) + 1 = 16 from by decide +kernel, show m_new (run bC cl_46) 6 0 = run bC cl_47 from rfl, Option.bind_some, Option.bind_some, Option.bind_some, show m_n (run bC cl_47) + 1 = 17 from by decide +kernel, show m_new (run bC cl_47) 12 12 = run bC cl_48 from rfl, Option.bind_some, Option.bind_some, show o_sP (run bC cl_48) 16 6 0 17 = some (run bC cl_49) from if_pos (by decide +kernel), Option.bind_some]
  rw [Option.bind_some, show m_n (run bC cl_49) + 1 = 18 from by decide +kernel, show m_new (run bC cl_49) 12 12 = run bC cl_50 from rfl, Option.bind_some, Option.bind_some, show o_sP (run bC cl_50) 16 6 1 18 = some (run bC cl_51) from if_pos (by decide +kernel), Option.bind_some, Option.bind_some]
  rw [show m_n (run bC cl_51) + 1 = 19 from by decide +kernel, show m_new (run bC cl_51) 12 864 = run bC cl_52 from rfl, Option.bind_some, Option.bind_some, show o_sP (run bC cl_52) 16 6 2 19 = some (run bC cl_53) from if_pos (by decide +kernel), Option.bind_some, Option.bind_some, show o_sP (run bC cl_53) 1 10 5 16 = some (run bC cl_54) from if_pos (by decide +kernel), Option.bind_some]
  rw [show m_n (run bC cl_54) + 1 = 20 from by decide +kernel, show m_new (run bC cl_54) 5 0 = run bC cl_55 from rfl, Option.bind_some, Option.bind_some, show m_n (run bC cl_55) + 1 = 21 from by decide +kernel, show m_grid (run bC cl_55) 5 5 = run bC cl_56 from rfl, Option.bind_some, Option.bind_some, show o_sP (run bC cl_56) 20 5 0 21 = some (run bC cl_57) from if_pos (by decide +kernel), Option.bind_some, show m_n (run bC cl_57) + 1 = 27 from by decide +kernel, show m_grid (run bC cl_57) 6 32 = run bC cl_58 from rfl, Option.bind_some, Option.bind_some]
  rw [show o_sP (run bC cl_58) 20 5 1 27 = some (run bC cl_59) from if_pos (by decide +kernel), Option.bind_some, Option.bind_some, show m_n (run bC cl_59) + 1 = 34 from by decide +kernel, show m_new (run bC cl_59) 12 5 = run bC cl_60 from rfl, Option.bind_some, Option.bind_some, show o_sP (run bC cl_60) 20 5 2 34 = some (run bC cl_61) from if_pos (by decide +kernel), Option.bind_some]
  rw [Option.bind_some, show o_sP (run bC cl_61) 1 10 6 20 = some (run bC cl_62) from if_pos (by decide +kernel), Option.bind_some, show m_n (run bC cl_62) + 1 = 35 from by decide +kernel, show m_grid (run bC cl_62) 4 144 = run bC cl_63 from rfl, Option.bind_some, Option.bind_some, show o_sP (run bC cl_63) 1 10 7 35 = some (run bC cl_64) from if_pos (by decide +kernel), Option.bind_some]
  rw [Option.bind_some, show m_n (run bC cl_64) + 1 = 40 from by decide +kernel, show m_new (run bC cl_64) 13 4 = run bC cl_65 from rfl, Option.bind_some, Option.bind_some, show o_sP (run bC cl_65) 1 10 8 40 = some (run bC cl_66) from if_pos (by decide +kernel), Option.bind_some, show m_n (run bC cl_66) + 1 = 41 from by decide +kernel, show m_new (run bC cl_66) 0 0 = run bC cl_67 from rfl, Option.bind_some, Option.bind_some]
  rw [Option.bind_some, show o_sI (run bC cl_67) 41 0 0 (0 : Int32) = some (run bC cl_68) from if_pos (by decide +kernel), Option.bind_some, Option.bind_some, show o_sP (run bC cl_68) 41 0 1 0 = some (run bC cl_69) from if_pos (by decide +kernel), Option.bind_some]
  rw [Option.bind_some, show o_sP (run bC cl_69) 1 10 9 41 = some (run bC cl_70) from if_pos (by decide +kernel), Option.bind_some, Option.bind_some, show m_n (run bC cl_70) + 1 = 42 from by decide +kernel, show m_new (run bC cl_70) 14 4 = run bC cl_71 from rfl, Option.bind_some, Option.bind_some]
  rw [show o_sP (run bC cl_71) 1 10 10 42 = some (run bC cl_72) from if_pos (by decide +kernel), Option.bind_some, show o_gP (run bC cl_72) 1 10 10 = some 42 from (if_pos (by decide +kernel)).trans (by decide +kernel), Option.bind_some, show m_n (run bC cl_72) + 1 = 43 from by decide +kernel, show m_new (run bC cl_72) 8 0 = run bC cl_73 from rfl, Option.bind_some, Option.bind_some, show o_sI (run bC cl_73) 43 8 0 (-1 : Int32) = some (run bC cl_74) from if_pos (by decide +kernel), Option.bind_some]
  rw [show o_sI (run bC cl_74) 43 8 1 (0 : Int32) = some (run bC cl_75) from if_pos (by decide +kernel), Option.bind_some, Option.bind_some, show m_n (run bC cl_75) + 1 = 44 from by decide +kernel, show m_new (run bC cl_75) 12 60 = run bC cl_76 from rfl, Option.bind_some, Option.bind_some, show o_sP (run bC cl_76) 43 8 2 44 = some (run bC cl_77) from if_pos (by decide +kernel), Option.bind_some]
  rw [Option.bind_some, rstP (b := bC) (L := cl_77) (a := 42) (kd := 14) (i := 0) (j := 0) (v := 43) (kv := 8) (by decide +kernel) (by decide +kernel), show run bC ((2, 42, 0, 43, 0) :: cl_77) = (run bC cl_78) from rfl, Option.bind_some, show o_gP (run bC cl_78) 1 10 10 = some 42 from (if_pos (by decide +kernel)).trans (by decide +kernel), Option.bind_some, show m_n (run bC cl_78) + 1 = 45 from by decide +kernel, show m_new (run bC cl_78) 8 0 = run bC cl_79 from rfl, Option.bind_some, Option.bind_some]
  rw [show o_sI (run bC cl_79) 45 8 0 (-1 : Int32) = some (run bC cl_80) from if_pos (by decide +kernel), Option.bind_some, show o_sI (run bC cl_80) 45 8 1 (0 : Int32) = some (run bC cl_81) from if_pos (by decide +kernel), Option.bind_some, Option.bind_some, show m_n (run bC cl_81) + 1 = 46 from by decide +kernel, show m_new (run bC cl_81) 12 60 = run bC cl_82 from rfl, Option.bind_some, Option.bind_some]
  rw [show o_sP (run bC cl_82) 45 8 2 46 = some (run bC cl_83) from if_pos (by decide +kernel), Option.bind_some, Option.bind_some, rstP (b := bC) (L := cl_83) (a := 42) (kd := 14) (i := 1) (j := 1) (v := 45) (kv := 8) (by decide +kernel) (by decide +kernel), show run bC ((2, 42, 1, 45, 0) :: cl_83) = (run bC cl_84) from rfl, Option.bind_some, show o_gP (run bC cl_84) 1 10 10 = some 42 from (if_pos (by decide +kernel)).trans (by decide +kernel), Option.bind_some]
  rw [show m_n (run bC cl_84) + 1 = 47 from by decide +kernel, show m_new (run bC cl_84) 8 0 = run bC cl_85 from rfl, Option.bind_some, Option.bind_some, show o_sI (run bC cl_85) 47 8 0 (-1 : Int32) = some (run bC cl_86) from if_pos (by decide +kernel), Option.bind_some, show o_sI (run bC cl_86) 47 8 1 (0 : Int32) = some (run bC cl_87) from if_pos (by decide +kernel), Option.bind_some, Option.bind_some]
  rw [show m_n (run bC cl_87) + 1 = 48 from by decide +kernel, show m_new (run bC cl_87) 12 60 = run bC cl_88 from rfl, Option.bind_some, Option.bind_some, show o_sP (run bC cl_88) 47 8 2 48 = some (run bC cl_89) from if_pos (by decide +kernel), Option.bind_some, Option.bind_some, rstP (b := bC) (L := cl_89) (a := 42) (kd := 14) (i := 2) (j := 2) (v := 47) (kv := 8) (by decide +kernel) (by decide +kernel), show run bC ((2, 42, 2, 47, 0) :: cl_89) = (run bC cl_90) from rfl, Option.bind_some]
  rw [show o_gP (run bC cl_90) 1 10 10 = some 42 from (if_pos (by decide +kernel)).trans (by decide +kernel), Option.bind_some, show m_n (run bC cl_90) + 1 = 49 from by decide +kernel, show m_new (run bC cl_90) 8 0 = run bC cl_91 from rfl, Option.bind_some, Option.bind_some, show o_sI (run bC cl_91) 49 8 0 (-1 : Int32) = some (run bC cl_92) from if_pos (by decide +kernel), Option.bind_some, show o_sI (run bC cl_92) 49 8 1 (0 : Int32) = some (run bC cl_93) from if_pos (by decide +kernel), Option.bind_some]
  rw [Option.bind_some, show m_n (run bC cl_93) + 1 = 50 from by decide +kernel, show m_new (run bC cl_93) 12 60 = run bC cl_94 from rfl, Option.bind_some, Option.bind_some, show o_sP (run bC cl_94) 49 8 2 50 = some (run bC cl_95) from if_pos (by decide +kernel), Option.bind_some, Option.bind_some]
  rw [rstP (b := bC) (L := cl_95) (a := 42) (kd := 14) (i := 3) (j := 3) (v := 49) (kv := 8) (by decide +kernel) (by decide +kernel), show run bC ((2, 42, 3, 49, 0) :: cl_95) = (run bC cl_96) from rfl, Option.bind_some, show o_sI (run bC cl_96) 1 10 11 (0 : Int32) = some (run bC cl_97) from if_pos (by decide +kernel), Option.bind_some, show o_sI (run bC cl_97) 1 10 12 (0 : Int32) = some (run bC cl_98) from if_pos (by decide +kernel), Option.bind_some]
set_option maxHeartbeats 4000000 in
theorem R_init0 : bX10_init_0 (run bR rl_0) 1 = some (.inl (1, 0, run bR rl_86)) := by
  unfold bX10_init_0
  rw [show o_le 12 (12 : Int32) = some 12 from by decide +kernel, show o_le 30 (30 : Int32) = some 30 from by decide +kernel, show o_le 450 (450 : Int32) = some 450 from by decide +kernel, show o_le 144 (144 : Int32) = some 144 from by decide +kernel, show o_le 2 (2 : Int32) = some 2 from by decide +kernel, show o_le 10 (10 : Int32) = some 10 from by decide +kernel, show o_le 120 (120 : Int32) = some 120 from by decide +kernel, show o_le 720 (720 : Int32) = some 720 from by decide +kernel, show o_le 5 (5 : Int32) = some 5 from by decide +kernel, show o_le 4 (4 : Int32) = some 4 from by decide +kernel, show o_le 576 (576 : Int32) = some 576 from by decide +kernel, show o_le 8 (8 : Int32) = some 8 from by decide +kernel, show o_le 40 (40 : Int32) = some 40 from by decide +kernel, show o_le 6 (6 : Int32) = some 6 from by decide +kernel, show o_le 240 (240 : Int32) = some 240 from by decide +kernel, show o_le 60 (60 : Int32) = some 60 from by decide +kernel]
  rw [Option.bind_some, show m_n (run bR rl_0) + 1 = 2 from by decide +kernel, show m_new (run bR rl_0) 12 12 = run bR rl_1 from rfl, Option.bind_some, Option.bind_some, show o_sP (run bR rl_1) 1 11 2 2 = some (run bR rl_2) from if_pos (by decide +kernel), Option.bind_some, Option.bind_some]
  rw [show m_n (run bR rl_2) + 1 = 3 from by decide +kernel, show m_new (run bR rl_2) 12 12 = run bR rl_3 from rfl, Option.bind_some, Option.bind_some, show o_sP (run bR rl_3) 1 11 3 3 = some (run bR rl_4) from if_pos (by decide +kernel), Option.bind_some, Option.bind_some, show m_n (run bR rl_4) + 1 = 4 from by decide +kernel, show m_new (run bR rl_4) 12 12 = run bR rl_5 from rfl, Option.bind_some, Option.bind_some]
  rw [show o_sP (run bR rl_5) 1 11 4 4 = some (run bR rl_6) from if_pos (by decide +kernel), Option.bind_some, Option.bind_some, show m_n (run bR rl_6) + 1 = 5 from by decide +kernel, show m_new (run bR rl_6) 12 12 = run bR rl_7 from rfl, Option.bind_some, Option.bind_some, show o_sP (run bR rl_7) 1 11 5 5 = some (run bR rl_8) from if_pos (by decide +kernel), Option.bind_some]
  rw [Option.bind_some, show m_n (run bR rl_8) + 1 = 6 from by decide +kernel, show m_new (run bR rl_8) 12 12 = run bR rl_9 from rfl, Option.bind_some, Option.bind_some, show o_sP (run bR rl_9) 1 11 6 6 = some (run bR rl_10) from if_pos (by decide +kernel), Option.bind_some, Option.bind_some]
  rw [show m_n (run bR rl_10) + 1 = 7 from by decide +kernel, show m_new (run bR rl_10) 12 12 = run bR rl_11 from rfl, Option.bind_some, Option.bind_some, show o_sP (run bR rl_11) 1 11 7 7 = some (run bR rl_12) from if_pos (by decide +kernel), Option.bind_some, Option.bind_some, show m_n (run bR rl_12) + 1 = 8 from by decide +kernel, show m_new (run bR rl_12) 12 30 = run bR rl_13 from rfl, Option.bind_some, Option.bind_some]
  rw [show o_sP (run bR rl_13) 1 11 9 8 = some (run bR rl_14) from if_pos (by decide +kernel), Option.bind_some, Option.bind_some, show m_n (run bR rl_14) + 1 = 9 from by decide +kernel, show m_new (run bR rl_14) 12 30 = run bR rl_15 from rfl, Option.bind_some, Option.bind_some, show o_sP (run bR rl_15) 1 11 10 9 = some (run bR rl_16) from if_pos (by decide +kernel), Option.bind_some]
  rw [Option.bind_some, show m_n (run bR rl_16) + 1 = 10 from by decide +kernel, show m_new (run bR rl_16) 12 30 = run bR rl_17 from rfl, Option.bind_some, Option.bind_some, show o_sP (run bR rl_17) 1 11 11 10 = some (run bR rl_18) from if_pos (by decide +kernel), Option.bind_some, Option.bind_some]
  rw [show m_n (run bR rl_18) + 1 = 11 from by decide +kernel, show m_new (run bR rl_18) 12 450 = run bR rl_19 from rfl, Option.bind_some, Option.bind_some, show o_sP (run bR rl_19) 1 11 12 11 = some (run bR rl_20) from if_pos (by decide +kernel), Option.bind_some, Option.bind_some, show m_n (run bR rl_20) + 1 = 12 from by decide +kernel, show m_new (run bR rl_20) 12 30 = run bR rl_21 from rfl, Option.bind_some, Option.bind_some]
  rw [show o_sP (run bR rl_21) 1 11 13 12 = some (run bR rl_22) from if_pos (by decide +kernel), Option.bind_some, Option.bind_some, show m_n (run bR rl_22) + 1 = 13 from by decide +kernel, show m_new (run bR rl_22) 12 30 = run bR rl_23 from rfl, Option.bind_some, Option.bind_some, show o_sP (run bR rl_23) 1 11 14 13 = some (run bR rl_24) from if_pos (by decide +kernel), Option.bind_some]
  rw [Option.bind_some, show m_n (run bR rl_24) + 1 = 14 from by decide +kernel, show m_new (run bR rl_24) 12 12 = run bR rl_25 from rfl, Option.bind_some, Option.bind_some, show o_sP (run bR rl_25) 1 11 20 14 = some (run bR rl_26) from if_pos (by decide +kernel), Option.bind_some, Option.bind_some]
  rw [show m_n (run bR rl_26) + 1 = 15 from by decide +kernel, show m_new (run bR rl_26) 12 12 = run bR rl_27 from rfl, Option.bind_some, Option.bind_some, show o_sP (run bR rl_27) 1 11 21 15 = some (run bR rl_28) from if_pos (by decide +kernel), Option.bind_some, Option.bind_some, show m_n (run bR rl_28) + 1 = 16 from by decide +kernel, show m_new (run bR rl_28) 12 12 = run bR rl_29 from rfl, Option.bind_some, Option.bind_some]
  rw [show o_sP (run bR rl_29) 1 11 22 16 = some (run bR rl_30) from if_pos (by decide +kernel), Option.bind_some, Option.bind_some, show m_n (run bR rl_30) + 1 = 17 from by decide +kernel, show m_new (run bR rl_30) 12 144 = run bR rl_31 from rfl, Option.bind_some, Option.bind_some, show o_sP (run bR rl_31) 1 11 24 17 = some (run bR rl_32) from if_pos (by decide +kernel), Option.bind_some]
  rw [Option.bind_some, show m_n (run bR rl_32) + 1 = 18 from by decide +kernel, show m_new (run bR rl_32) 12 12 = run bR rl_33 from rfl, Option.bind_some, Option.bind_some, show o_sP (run bR rl_33) 1 11 25 18 = some (run bR rl_34) from if_pos (by decide +kernel), Option.bind_some, Option.bind_some]
  rw [show m_n (run bR rl_34) + 1 = 19 from by decide +kernel, show m_new (run bR rl_34) 12 144 = run bR rl_35 from rfl, Option.bind_some, Option.bind_some, show o_sP (run bR rl_35) 1 11 26 19 = some (run bR rl_36) from if_pos (by decide +kernel), Option.bind_some, Option.bind_some, show m_n (run bR rl_36) + 1 = 20 from by decide +kernel, show m_new (run bR rl_36) 13 144 = run bR rl_37 from rfl, Option.bind_some, Option.bind_some]
  rw [show o_sP (run bR rl_37) 1 11 27 20 = some (run bR rl_38) from if_pos (by decide +kernel), Option.bind_some, Option.bind_some, show m_n (run bR rl_38) + 1 = 21 from by decide +kernel, show m_new (run bR rl_38) 12 2 = run bR rl_39 from rfl, Option.bind_some, Option.bind_some, show o_sP (run bR rl_39) 1 11 28 21 = some (run bR rl_40) from if_pos (by decide +kernel), Option.bind_some]
  rw [Option.bind_some, show m_n (run bR rl_40) + 1 = 22 from by decide +kernel, show m_new (run bR rl_40) 12 10 = run bR rl_41 from rfl, Option.bind_some, Option.bind_some, show o_sP (run bR rl_41) 1 11 29 22 = some (run bR rl_42) from if_pos (by decide +kernel), Option.bind_some, Option.bind_some]
  rw [show m_n (run bR rl_42) + 1 = 23 from by decide +kernel, show m_new (run bR rl_42) 12 10 = run bR rl_43 from rfl, Option.bind_some, Option.bind_some, show o_sP (run bR rl_43) 1 11 30 23 = some (run bR rl_44) from if_pos (by decide +kernel), Option.bind_some, Option.bind_some, show m_n (run bR rl_44) + 1 = 24 from by decide +kernel, show m_new (run bR rl_44) 12 10 = run bR rl_45 from rfl, Option.bind_some, Option.bind_some]
  rw [show o_sP (run bR rl_45) 1 11 31 24 = some (run bR rl_46) from if_pos (by decide +kernel), Option.bind_some, Option.bind_some, show m_n (run bR rl_46) + 1 = 25 from by decide +kernel, show m_new (run bR rl_46) 12 10 = run bR rl_47 from rfl, Option.bind_some, Option.bind_some, show o_sP (run bR rl_47) 1 11 32 25 = some (run bR rl_48) from if_pos (by decide +kernel), Option.bind_some]
  rw [Option.bind_some, show m_n (run bR rl_48) + 1 = 26 from by decide +kernel, show m_new (run bR rl_48) 12 120 = run bR rl_49 from rfl, Option.bind_some, Option.bind_some, show o_sP (run bR rl_49) 1 11 33 26 = some (run bR rl_50) from if_pos (by decide +kernel), Option.bind_some, Option.bind_some]
  rw [show m_n (run bR rl_50) + 1 = 27 from by decide +kernel, show m_new (run bR rl_50) 12 12 = run bR rl_51 from rfl, Option.bind_some, Option.bind_some, show o_sP (run bR rl_51) 1 11 34 27 = some (run bR rl_52) from if_pos (by decide +kernel), Option.bind_some, Option.bind_some, show m_n (run bR rl_52) + 1 = 28 from by decide +kernel, show m_new (run bR rl_52) 12 12 = run bR rl_53 from rfl, Option.bind_some, Option.bind_some]
  rw [show o_sP (run bR rl_53) 1 11 35 28 = some (run bR rl_54) from if_pos (by decide +kernel), Option.bind_some, Option.bind_some, show m_n (run bR rl_54) + 1 = 29 from by decide +kernel, show m_new (run bR rl_54) 12 720 = run bR rl_55 from rfl, Option.bind_some, Option.bind_some, show o_sP (run bR rl_55) 1 11 36 29 = some (run bR rl_56) from if_pos (by decide +kernel), Option.bind_some]
  rw [Option.bind_some, show m_n (run bR rl_56) + 1 = 30 from by decide +kernel, show m_new (run bR rl_56) 12 5 = run bR rl_57 from rfl, Option.bind_some, Option.bind_some, show o_sP (run bR rl_57) 1 11 37 30 = some (run bR rl_58) from if_pos (by decide +kernel), Option.bind_some, Option.bind_some]
  rw [show m_n (run bR rl_58) + 1 = 31 from by decide +kernel, show m_new (run bR rl_58) 13 4 = run bR rl_59 from rfl, Option.bind_some, Option.bind_some, show o_sP (run bR rl_59) 1 11 39 31 = some (run bR rl_60) from if_pos (by decide +kernel), Option.bind_some, Option.bind_some, show m_n (run bR rl_60) + 1 = 32 from by decide +kernel, show m_new (run bR rl_60) 12 576 = run bR rl_61 from rfl, Option.bind_some, Option.bind_some]
  rw [show o_sP (run bR rl_61) 1 11 40 32 = some (run bR rl_62) from if_pos (by decide +kernel), Option.bind_some, Option.bind_some, show m_n (run bR rl_62) + 1 = 33 from by decide +kernel, show m_new (run bR rl_62) 12 8 = run bR rl_63 from rfl, Option.bind_some, Option.bind_some, show o_sP (run bR rl_63) 1 11 45 33 = some (run bR rl_64) from if_pos (by decide +kernel), Option.bind_some]
  rw [Option.bind_some, show m_n (run bR rl_64) + 1 = 34 from by decide +kernel, show m_new (run bR rl_64) 12 40 = run bR rl_65 from rfl, Option.bind_some, Option.bind_some, show o_sP (run bR rl_65) 1 11 46 34 = some (run bR rl_66) from if_pos (by decide +kernel), Option.bind_some, Option.bind_some]
  rw [show m_n (run bR rl_66) + 1 = 35 from by decide +kernel, show m_new (run bR rl_66) 13 40 = run bR rl_67 from rfl, Option.bind_some, Option.bind_some, show o_sP (run bR rl_67) 1 11 47 35 = some (run bR rl_68) from if_pos (by decide +kernel), Option.bind_some, Option.bind_some, show m_n (run bR rl_68) + 1 = 36 from by decide +kernel, show m_new (run bR rl_68) 12 40 = run bR rl_69 from rfl, Option.bind_some, Option.bind_some]
  rw [show o_sP (run bR rl_69) 1 11 48 36 = some (run bR rl_70) from if_pos (by decide +kernel), Option.bind_some, Option.bind_some, show m_n (run bR rl_70) + 1 = 37 from by decide +kernel, show m_new (run bR rl_70) 12 6 = run bR rl_71 from rfl, Option.bind_some, Option.bind_some, show o_sP (run bR rl_71) 1 11 50 37 = some (run bR rl_72) from if_pos (by decide +kernel), Option.bind_some]
  rw [Option.bind_some, show m_n (run bR rl_72) + 1 = 38 from by decide +kernel, show m_new (run bR rl_72) 13 6 = run bR rl_73 from rfl, Option.bind_some, Option.bind_some, show o_sP (run bR rl_73) 1 11 51 38 = some (run bR rl_74) from if_pos (by decide +kernel), Option.bind_some, Option.bind_some]
  rw [show m_n (run bR rl_74) + 1 = 39 from by decide +kernel, show m_new (run bR rl_74) 12 6 = run bR rl_75 from rfl, Option.bind_some, Option.bind_some, show o_sP (run bR rl_75) 1 11 52 39 = some (run bR rl_76) from if_pos (by decide +kernel), Option.bind_some, Option.bind_some, show m_n (run bR rl_76) + 1 = 40 from by decide +kernel, show m_new (run bR rl_76) 12 4 = run bR rl_77 from rfl, Option.bind_some, Option.bind_some]
  rw [show o_sP (run bR rl_77) 1 11 53 40 = some (run bR rl_78) from if_pos (by decide +kernel), Option.bind_some, Option.bind_some, show m_n (run bR rl_78) + 1 = 41 from by decide +kernel, show m_new (run bR rl_78) 12 4 = run bR rl_79 from rfl, Option.bind_some, Option.bind_some, show o_sP (run bR rl_79) 1 11 54 41 = some (run bR rl_80) from if_pos (by decide +kernel), Option.bind_some]
  rw [Option.bind_some, show m_n (run bR rl_80) + 1 = 42 from by decide +kernel, show m_new (run bR rl_80) 12 240 = run bR rl_81 from rfl, Option.bind_some, Option.bind_some, show o_sP (run bR rl_81) 1 11 55 42 = some (run bR rl_82) from if_pos (by decide +kernel), Option.bind_some, Option.bind_some]
  rw [show m_n (run bR rl_82) + 1 = 43 from by decide +kernel, show m_new (run bR rl_82) 12 60 = run bR rl_83 from rfl, Option.bind_some, Option.bind_some, show o_sP (run bR rl_83) 1 11 56 43 = some (run bR rl_84) from if_pos (by decide +kernel), Option.bind_some, show o_sI (run bR rl_84) 1 11 16 (99 : Int32) = some (run bR rl_85) from if_pos (by decide +kernel), Option.bind_some, show o_sI (run bR rl_85) 1 11 17 (60 : Int32) = some (run bR rl_86) from if_pos (by decide +kernel), Option.bind_some]
end IT
