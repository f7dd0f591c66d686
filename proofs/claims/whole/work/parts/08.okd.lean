theorem okl_0 : ((cdm 140).drop 0 |>.take 60).all (fun x => ok1 140 x.1 x.2.1 x.2.2) = true := by decide +kernel
theorem okl_60 : ((cdm 140).drop 60 |>.take 60).all (fun x => ok1 140 x.1 x.2.1 x.2.2) = true := by decide +kernel
theorem okl_120 : ((cdm 140).drop 120 |>.take 60).all (fun x => ok1 140 x.1 x.2.1 x.2.2) = true := by decide +kernel
theorem okl_180 : ((cdm 140).drop 180 |>.take 60).all (fun x => ok1 140 x.1 x.2.1 x.2.2) = true := by decide +kernel
theorem okl_240 : ((cdm 140).drop 240 |>.take 60).all (fun x => ok1 140 x.1 x.2.1 x.2.2) = true := by decide +kernel
theorem okl_300 : ((cdm 140).drop 300 |>.take 60).all (fun x => ok1 140 x.1 x.2.1 x.2.2) = true := by decide +kernel
theorem okl_360 : ((cdm 140).drop 360 |>.take 60).all (fun x => ok1 140 x.1 x.2.1 x.2.2) = true := by decide +kernel
theorem okl_420 : ((cdm 140).drop 420 |>.take 60).all (fun x => ok1 140 x.1 x.2.1 x.2.2) = true := by decide +kernel
theorem okl_480 : ((cdm 140).drop 480 |>.take 60).all (fun x => ok1 140 x.1 x.2.1 x.2.2) = true := by decide +kernel
theorem okl_540 : ((cdm 140).drop 540 |>.take 60).all (fun x => ok1 140 x.1 x.2.1 x.2.2) = true := by decide +kernel
theorem okl_600 : ((cdm 140).drop 600 |>.take 60).all (fun x => ok1 140 x.1 x.2.1 x.2.2) = true := by decide +kernel
theorem okl_660 : ((cdm 140).drop 660 |>.take 60).all (fun x => ok1 140 x.1 x.2.1 x.2.2) = true := by decide +kernel
theorem all_cut {α : Type} {l : List α} {f : α → Bool} (n : Nat) (h1 : (l.take n).all f = true) (h2 : (l.drop n).all f = true) : l.all f = true := by
  rw [← List.take_append_drop n l, List.all_append, h1, h2]
  rfl
theorem okd_660 : ((cdm 140).drop 660).all (fun x => ok1 140 x.1 x.2.1 x.2.2) = true := all_cut 60 okl_660 (by decide +kernel)
theorem okd_600 : ((cdm 140).drop 600).all (fun x => ok1 140 x.1 x.2.1 x.2.2) = true := all_cut 60 okl_600 (by rw [List.drop_drop]; exact okd_660)
theorem okd_540 : ((cdm 140).drop 540).all (fun x => ok1 140 x.1 x.2.1 x.2.2) = true := all_cut 60 okl_540 (by rw [List.drop_drop]; exact okd_600)
theorem okd_480 : ((cdm 140).drop 480).all (fun x => ok1 140 x.1 x.2.1 x.2.2) = true := all_cut 60 okl_480 (by rw [List.drop_drop]; exact okd_540)
theorem okd_420 : ((cdm 140).drop 420).all (fun x => ok1 140 x.1 x.2.1 x.2.2) = true := all_cut 60 okl_420 (by rw [List.drop_drop]; exact okd_480)
theorem okd_360 : ((cdm 140).drop 360).all (fun x => ok1 140 x.1 x.2.1 x.2.2) = true := all_cut 60 okl_360 (by rw [List.drop_drop]; exact okd_420)
theorem okd_300 : ((cdm 140).drop 300).all (fun x => ok1 140 x.1 x.2.1 x.2.2) = true := all_cut 60 okl_300 (by rw [List.drop_drop]; exact okd_360)
theorem okd_240 : ((cdm 140).drop 240).all (fun x => ok1 140 x.1 x.2.1 x.2.2) = true := all_cut 60 okl_240 (by rw [List.drop_drop]; exact okd_300)
theorem okd_180 : ((cdm 140).drop 180).all (fun x => ok1 140 x.1 x.2.1 x.2.2) = true := all_cut 60 okl_180 (by rw [List.drop_drop]; exact okd_240)
theorem okd_120 : ((cdm 140).drop 120).all (fun x => ok1 140 x.1 x.2.1 x.2.2) = true := all_cut 60 okl_120 (by rw [List.drop_drop]; exact okd_180)
theorem okd_60 : ((cdm 140).drop 60).all (fun x => ok1 140 x.1 x.2.1 x.2.2) = true := all_cut 60 okl_60 (by rw [List.drop_drop]; exact okd_120)
theorem okd_0 : ((cdm 140).drop 0).all (fun x => ok1 140 x.1 x.2.1 x.2.2) = true := all_cut 60 okl_0 (by rw [List.drop_drop]; exact okd_60)
theorem okm_140 : okm 140 = true := okd_0
theorem okm_all : ∀ i, i < 141 → okm i = true := by
  intro i hi
  match i, hi with
  | 0, _ => exact okm_0
  | 1, _ => exact okm_1
  | 2, _ => exact okm_2
  | 3, _ => exact okm_3
  | 4, _ => exact okm_4
  | 5, _ => exact okm_5
  | 6, _ => exact okm_6
  | 7, _ => exact okm_7
  | 8, _ => exact okm_8
  | 9, _ => exact okm_9
  | 10, _ => exact okm_10
  | 11, _ => exact okm_11
  | 12, _ => exact okm_12
  | 13, _ => exact okm_13
  | 14, _ => exact okm_14
  | 15, _ => exact okm_15
  | 16, _ => exact okm_16
  | 17, _ => exact okm_17
  | 18, _ => exact okm_18
  | 19, _ => exact okm_19
  | 20, _ => exact okm_20
  | 21, _ => exact okm_21
  | 22, _ => exact okm_22
  | 23, _ => exact okm_23
  | 24, _ => exact okm_24
  | 25, _ => exact okm_25
  | 26, _ => exact okm_26
  | 27, _ => exact okm_27
  | 28, _ => exact okm_28
  | 29, _ => exact okm_29
  | 30, _ => exact okm_30
  | 31, _ => exact okm_31
  | 32, _ => exact okm_32
  | 33, _ => exact okm_33
  | 34, _ => exact okm_34
  | 35, _ => exact okm_35
  | 36, _ => exact okm_36
  | 37, _ => exact okm_37
  | 38, _ => exact okm_38
  | 39, _ => exact okm_39
  | 40, _ => exact okm_40
  | 41, _ => exact okm_41
  | 42, _ => exact okm_42
  | 43, _ => exact okm_43
  | 44, _ => exact okm_44
  | 45, _ => exact okm_45
  | 46, _ => exact okm_46
  | 47, _ => exact okm_47
  | 48, _ => exact okm_48
  | 49, _ => exact okm_49
  | 50, _ => exact okm_50
  | 51, _ => exact okm_51
  | 52, _ => exact okm_52
  | 53, _ => exact okm_53
  | 54, _ => exact okm_54
  | 55, _ => exact okm_55
  | 56, _ => exact okm_56
  | 57, _ => exact okm_57
  | 58, _ => exact okm_58
  | 59, _ => exact okm_59
  | 60, _ => exact okm_60
  | 61, _ => exact okm_61
  | 62, _ => exact okm_62
  | 63, _ => exact okm_63
  | 64, _ => exact okm_64
  | 65, _ => exact okm_65
  | 66, _ => exact okm_66
  | 67, _ => exact okm_67
  | 68, _ => exact okm_68
  | 69, _ => exact okm_69
  | 70, _ => exact okm_70
  | 71, _ => exact okm_71
  | 72, _ => exact okm_72
  | 73, _ => exact okm_73
  | 74, _ => exact okm_74
  | 75, _ => exact okm_75
  | 76, _ => exact okm_76
  | 77, _ => exact okm_77
  | 78, _ => exact okm_78
  | 79, _ => exact okm_79
  | 80, _ => exact okm_80
  | 81, _ => exact okm_81
  | 82, _ => exact okm_82
  | 83, _ => exact okm_83
  | 84, _ => exact okm_84
  | 85, _ => exact okm_85
  | 86, _ => exact okm_86
  | 87, _ => exact okm_87
  | 88, _ => exact okm_88
  | 89, _ => exact okm_89
  | 90, _ => exact okm_90
  | 91, _ => exact okm_91
  | 92, _ => exact okm_92
  | 93, _ => exact okm_93
  | 94, _ => exact okm_94
  | 95, _ => exact okm_95
  | 96, _ => exact okm_96
  | 97, _ => exact okm_97
  | 98, _ => exact okm_98
  | 99, _ => exact okm_99
  | 100, _ => exact okm_100
  | 101, _ => exact okm_101
  | 102, _ => exact okm_102
  | 103, _ => exact okm_103
  | 104, _ => exact okm_104
  | 105, _ => exact okm_105
  | 106, _ => exact okm_106
  | 107, _ => exact okm_107
  | 108, _ => exact okm_108
  | 109, _ => exact okm_109
  | 110, _ => exact okm_110
  | 111, _ => exact okm_111
  | 112, _ => exact okm_112
  | 113, _ => exact okm_113
  | 114, _ => exact okm_114
  | 115, _ => exact okm_115
  | 116, _ => exact okm_116
  | 117, _ => exact okm_117
  | 118, _ => exact okm_118
  | 119, _ => exact okm_119
  | 120, _ => exact okm_120
  | 121, _ => exact okm_121
  | 122, _ => exact okm_122
  | 123, _ => exact okm_123
  | 124, _ => exact okm_124
  | 125, _ => exact okm_125
  | 126, _ => exact okm_126
  | 127, _ => exact okm_127
  | 128, _ => exact okm_128
  | 129, _ => exact okm_129
  | 130, _ => exact okm_130
  | 131, _ => exact okm_131
  | 132, _ => exact okm_132
  | 133, _ => exact okm_133
  | 134, _ => exact okm_134
  | 135, _ => exact okm_135
  | 136, _ => exact okm_136
  | 137, _ => exact okm_137
  | 138, _ => exact okm_138
  | 139, _ => exact okm_139
  | 140, _ => exact okm_140
  | i + 141, h => omega
