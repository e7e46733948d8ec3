/-! ===== the cells: class and reference, every object and every row ===== -/
abbrev fp_Sh : Type := (FieldType × Nat) ⊕ (Nat × List (Option Nat))
def fp_NC : Nat := 124
def fp_shT : List fp_Sh := [.inr (8, [some 2, some 6, some 18, some 29, some 37, some 43, some 52, some 61, some 1, none]),
  .inl (.int, 7),
  .inr (4, [some 6, some 18, some 29, some 37, some 3, some 4, some 5, none]),
  .inl (.int, 60),
  .inl (.int, 12),
  .inl (.int, 9),
  .inr (2, [some 7, some 8, some 9, none, some 10, some 11, some 12, some 13, some 14, none, some 15, some 16, some 17, none]),
  .inl (.int, 12),
  .inl (.boolean, 12),
  .inl (.int, 144),
  .inl (.int, 24),
  .inl (.int, 24),
  .inl (.int, 24),
  .inl (.int, 24),
  .inl (.int, 24),
  .inl (.int, 40),
  .inl (.int, 40),
  .inl (.int, 40),
  .inr (6, [some 19, some 20, some 21, some 22, none, some 23, some 24, none, some 25, some 26, some 27, some 28, none]),
  .inl (.int, 60),
  .inl (.int, 60),
  .inl (.int, 60),
  .inl (.int, 60),
  .inl (.int, 40),
  .inl (.int, 40),
  .inl (.int, 80),
  .inl (.int, 80),
  .inl (.int, 80),
  .inl (.int, 80),
  .inr (3, [some 34, none, some 30, some 31, some 32, some 33, none]),
  .inl (.int, 30),
  .inl (.int, 30),
  .inl (.int, 30),
  .inl (.int, 1800),
  .inr (5, [some 35, some 36, none, none, none, none, none]),
  .inl (.byte, 60),
  .inl (.int, 60),
  .inr (1, [some 38, some 39, some 40, some 41, some 42, none]),
  .inl (.int, 60),
  .inl (.int, 60),
  .inl (.int, 60),
  .inl (.int, 60),
  .inl (.int, 60),
  .inr (0, [some 44, some 45, some 46, some 47, some 48, some 49, some 50, some 51]),
  .inl (.int, 60),
  .inl (.int, 60),
  .inl (.int, 60),
  .inl (.boolean, 60),
  .inl (.int, 60),
  .inl (.int, 60),
  .inl (.boolean, 60),
  .inl (.byte, 2400),
  .inr (0, [some 53, some 54, some 55, some 56, some 57, some 58, some 59, some 60]),
  .inl (.int, 60),
  .inl (.int, 60),
  .inl (.int, 60),
  .inl (.boolean, 60),
  .inl (.int, 60),
  .inl (.int, 60),
  .inl (.boolean, 60),
  .inl (.byte, 0),
  .inr (7, [some 62, some 63, some 64, none, some 65, some 66, none]),
  .inl (.int, 7),
  .inl (.int, 7),
  .inl (.int, 7),
  .inl (.int, 7),
  .inl (.int, 12),
  .inr (9, [some 68, some 69, some 70, some 71, some 72, some 73, some 74, some 75, some 76, some 77, some 78, some 79, none, none, none, none, some 80, some 81, some 82, some 83, some 84, some 85, some 86, some 87, some 88, some 89, none, none, none, some 90, some 91, some 92, some 93, some 94, some 95, some 96, some 97, some 98, some 99, some 100, some 101, some 102, none, none, some 103, some 104, some 105, some 106, some 107, some 108, some 109, none, none, none, none, some 110, some 111, none, none, none, some 112, some 113, some 114, some 115, some 116, some 117, some 118, some 119, some 120, some 121, some 122, some 123, none, none, none, none, none]),
  .inl (.int, 7),
  .inl (.int, 12),
  .inl (.int, 24),
  .inl (.int, 24),
  .inl (.int, 24),
  .inl (.int, 24),
  .inl (.int, 24),
  .inl (.int, 40),
  .inl (.int, 40),
  .inl (.int, 40),
  .inl (.int, 144),
  .inl (.boolean, 12),
  .inl (.int, 60),
  .inl (.int, 60),
  .inl (.int, 60),
  .inl (.int, 60),
  .inl (.int, 40),
  .inl (.int, 40),
  .inl (.int, 80),
  .inl (.int, 80),
  .inl (.int, 80),
  .inl (.int, 80),
  .inl (.int, 60),
  .inl (.int, 60),
  .inl (.int, 60),
  .inl (.int, 60),
  .inl (.int, 60),
  .inl (.int, 60),
  .inl (.int, 60),
  .inl (.int, 60),
  .inl (.int, 60),
  .inl (.int, 60),
  .inl (.int, 2400),
  .inl (.boolean, 60),
  .inl (.boolean, 60),
  .inl (.int, 60),
  .inl (.int, 1800),
  .inl (.int, 30),
  .inl (.int, 30),
  .inl (.int, 30),
  .inl (.int, 8),
  .inl (.int, 128),
  .inl (.int, 60),
  .inl (.int, 60),
  .inl (.boolean, 60),
  .inl (.int, 60),
  .inl (.int, 60),
  .inl (.int, 60),
  .inl (.int, 60),
  .inl (.int, 60),
  .inl (.boolean, 60),
  .inl (.boolean, 60),
  .inl (.int, 7),
  .inl (.int, 7),
  .inl (.int, 7),
  .inl (.int, 12)]
def fp_sh (k : Nat) : fp_Sh := fp_shT.getD k (.inl (.int, 0))
/-- F -/
theorem sh_0 : fp_sh 0 = .inr (8, [some 2, some 6, some 18, some 29, some 37, some 43, some 52, some 61, some 1, none]) := by decide +kernel
/-- F.refusals -/
theorem sh_1 : fp_sh 1 = .inl (.int, 7) := by decide +kernel
/-- Post -/
theorem sh_2 : fp_sh 2 = .inr (4, [some 6, some 18, some 29, some 37, some 3, some 4, some 5, none]) := by decide +kernel
/-- Post.queue -/
theorem sh_3 : fp_sh 3 = .inl (.int, 60) := by decide +kernel
/-- Post.seen -/
theorem sh_4 : fp_sh 4 = .inl (.int, 12) := by decide +kernel
/-- Post.facts -/
theorem sh_5 : fp_sh 5 = .inl (.int, 9) := by decide +kernel
/-- Net -/
theorem sh_6 : fp_sh 6 = .inr (2, [some 7, some 8, some 9, none, some 10, some 11, some 12, some 13, some 14, none, some 15, some 16, some 17, none]) := by decide +kernel
/-- Net.hands -/
theorem sh_7 : fp_sh 7 = .inl (.int, 12) := by decide +kernel
/-- Net.wired -/
theorem sh_8 : fp_sh 8 = .inl (.boolean, 12) := by decide +kernel
/-- Net.far -/
theorem sh_9 : fp_sh 9 = .inl (.int, 144) := by decide +kernel
/-- Net.endA -/
theorem sh_10 : fp_sh 10 = .inl (.int, 24) := by decide +kernel
/-- Net.endB -/
theorem sh_11 : fp_sh 11 = .inl (.int, 24) := by decide +kernel
/-- Net.length -/
theorem sh_12 : fp_sh 12 = .inl (.int, 24) := by decide +kernel
/-- Net.first -/
theorem sh_13 : fp_sh 13 = .inl (.int, 24) := by decide +kernel
/-- Net.every -/
theorem sh_14 : fp_sh 14 = .inl (.int, 24) := by decide +kernel
/-- Net.shutWay -/
theorem sh_15 : fp_sh 15 = .inl (.int, 40) := by decide +kernel
/-- Net.shutFrom -/
theorem sh_16 : fp_sh 16 = .inl (.int, 40) := by decide +kernel
/-- Net.shutTo -/
theorem sh_17 : fp_sh 17 = .inl (.int, 40) := by decide +kernel
/-- Roll -/
theorem sh_18 : fp_sh 18 = .inr (6, [some 19, some 20, some 21, some 22, none, some 23, some 24, none, some 25, some 26, some 27, some 28, none]) := by decide +kernel
/-- Roll.moveUnit -/
theorem sh_19 : fp_sh 19 = .inl (.int, 60) := by decide +kernel
/-- Roll.moveOffice -/
theorem sh_20 : fp_sh 20 = .inl (.int, 60) := by decide +kernel
/-- Roll.moveFrom -/
theorem sh_21 : fp_sh 21 = .inl (.int, 60) := by decide +kernel
/-- Roll.moveTold -/
theorem sh_22 : fp_sh 22 = .inl (.int, 60) := by decide +kernel
/-- Roll.manUnit -/
theorem sh_23 : fp_sh 23 = .inl (.int, 40) := by decide +kernel
/-- Roll.manName -/
theorem sh_24 : fp_sh 24 = .inl (.int, 40) := by decide +kernel
/-- Roll.stateMan -/
theorem sh_25 : fp_sh 25 = .inl (.int, 80) := by decide +kernel
/-- Roll.stateNumber -/
theorem sh_26 : fp_sh 26 = .inl (.int, 80) := by decide +kernel
/-- Roll.stateOffice -/
theorem sh_27 : fp_sh 27 = .inl (.int, 80) := by decide +kernel
/-- Roll.stateTold -/
theorem sh_28 : fp_sh 28 = .inl (.int, 80) := by decide +kernel
/-- Orders -/
theorem sh_29 : fp_sh 29 = .inr (3, [some 34, none, some 30, some 31, some 32, some 33, none]) := by decide +kernel
/-- Orders.purposes -/
theorem sh_30 : fp_sh 30 = .inl (.int, 30) := by decide +kernel
/-- Orders.told -/
theorem sh_31 : fp_sh 31 = .inl (.int, 30) := by decide +kernel
/-- Orders.sizes -/
theorem sh_32 : fp_sh 32 = .inl (.int, 30) := by decide +kernel
/-- Orders.steps -/
theorem sh_33 : fp_sh 33 = .inl (.int, 1800) := by decide +kernel
/-- Reader -/
theorem sh_34 : fp_sh 34 = .inr (5, [some 35, some 36, none, none, none, none, none]) := by decide +kernel
/-- Reader.text -/
theorem sh_35 : fp_sh 35 = .inl (.byte, 60) := by decide +kernel
/-- Reader.steps -/
theorem sh_36 : fp_sh 36 = .inl (.int, 60) := by decide +kernel
/-- Mails -/
theorem sh_37 : fp_sh 37 = .inr (1, [some 38, some 39, some 40, some 41, some 42, none]) := by decide +kernel
/-- Mails.kind -/
theorem sh_38 : fp_sh 38 = .inl (.int, 60) := by decide +kernel
/-- Mails.origin -/
theorem sh_39 : fp_sh 39 = .inl (.int, 60) := by decide +kernel
/-- Mails.man -/
theorem sh_40 : fp_sh 40 = .inl (.int, 60) := by decide +kernel
/-- Mails.weight -/
theorem sh_41 : fp_sh 41 = .inl (.int, 60) := by decide +kernel
/-- Mails.posted -/
theorem sh_42 : fp_sh 42 = .inl (.int, 60) := by decide +kernel
/-- Course -/
theorem sh_43 : fp_sh 43 = .inr (0, [some 44, some 45, some 46, some 47, some 48, some 49, some 50, some 51]) := by decide +kernel
/-- Course.where -/
theorem sh_44 : fp_sh 44 = .inl (.int, 60) := by decide +kernel
/-- Course.office -/
theorem sh_45 : fp_sh 45 = .inl (.int, 60) := by decide +kernel
/-- Course.hour -/
theorem sh_46 : fp_sh 46 = .inl (.int, 60) := by decide +kernel
/-- Course.turned -/
theorem sh_47 : fp_sh 47 = .inl (.boolean, 60) := by decide +kernel
/-- Course.word -/
theorem sh_48 : fp_sh 48 = .inl (.int, 60) := by decide +kernel
/-- Course.came -/
theorem sh_49 : fp_sh 49 = .inl (.int, 60) := by decide +kernel
/-- Course.spoilt -/
theorem sh_50 : fp_sh 50 = .inl (.boolean, 60) := by decide +kernel
/-- Course.traces -/
theorem sh_51 : fp_sh 51 = .inl (.byte, 2400) := by decide +kernel
/-- Glass -/
theorem sh_52 : fp_sh 52 = .inr (0, [some 53, some 54, some 55, some 56, some 57, some 58, some 59, some 60]) := by decide +kernel
/-- Glass.where -/
theorem sh_53 : fp_sh 53 = .inl (.int, 60) := by decide +kernel
/-- Glass.office -/
theorem sh_54 : fp_sh 54 = .inl (.int, 60) := by decide +kernel
/-- Glass.hour -/
theorem sh_55 : fp_sh 55 = .inl (.int, 60) := by decide +kernel
/-- Glass.turned -/
theorem sh_56 : fp_sh 56 = .inl (.boolean, 60) := by decide +kernel
/-- Glass.word -/
theorem sh_57 : fp_sh 57 = .inl (.int, 60) := by decide +kernel
/-- Glass.came -/
theorem sh_58 : fp_sh 58 = .inl (.int, 60) := by decide +kernel
/-- Glass.spoilt -/
theorem sh_59 : fp_sh 59 = .inl (.boolean, 60) := by decide +kernel
/-- Glass.traces -/
theorem sh_60 : fp_sh 60 = .inl (.byte, 0) := by decide +kernel
/-- Shed -/
theorem sh_61 : fp_sh 61 = .inr (7, [some 62, some 63, some 64, none, some 65, some 66, none]) := by decide +kernel
/-- Shed.times -/
theorem sh_62 : fp_sh 62 = .inl (.int, 7) := by decide +kernel
/-- Shed.trains -/
theorem sh_63 : fp_sh 63 = .inl (.int, 7) := by decide +kernel
/-- Shed.letters -/
theorem sh_64 : fp_sh 64 = .inl (.int, 7) := by decide +kernel
/-- Shed.byTrain -/
theorem sh_65 : fp_sh 65 = .inl (.int, 7) := by decide +kernel
/-- Shed.row -/
theorem sh_66 : fp_sh 66 = .inl (.int, 12) := by decide +kernel
/-- M -/
theorem sh_67 : fp_sh 67 = .inr (9, [some 68, some 69, some 70, some 71, some 72, some 73, some 74, some 75, some 76, some 77, some 78, some 79, none, none, none, none, some 80, some 81, some 82, some 83, some 84, some 85, some 86, some 87, some 88, some 89, none, none, none, some 90, some 91, some 92, some 93, some 94, some 95, some 96, some 97, some 98, some 99, some 100, some 101, some 102, none, none, some 103, some 104, some 105, some 106, some 107, some 108, some 109, none, none, none, none, some 110, some 111, none, none, none, some 112, some 113, some 114, some 115, some 116, some 117, some 118, some 119, some 120, some 121, some 122, some 123, none, none, none, none, none]) := by decide +kernel
/-- M.refused -/
theorem sh_68 : fp_sh 68 = .inl (.int, 7) := by decide +kernel
/-- M.hands -/
theorem sh_69 : fp_sh 69 = .inl (.int, 12) := by decide +kernel
/-- M.wayA -/
theorem sh_70 : fp_sh 70 = .inl (.int, 24) := by decide +kernel
/-- M.wayB -/
theorem sh_71 : fp_sh 71 = .inl (.int, 24) := by decide +kernel
/-- M.length -/
theorem sh_72 : fp_sh 72 = .inl (.int, 24) := by decide +kernel
/-- M.first -/
theorem sh_73 : fp_sh 73 = .inl (.int, 24) := by decide +kernel
/-- M.every -/
theorem sh_74 : fp_sh 74 = .inl (.int, 24) := by decide +kernel
/-- M.shutWay -/
theorem sh_75 : fp_sh 75 = .inl (.int, 40) := by decide +kernel
/-- M.shutFrom -/
theorem sh_76 : fp_sh 76 = .inl (.int, 40) := by decide +kernel
/-- M.shutTo -/
theorem sh_77 : fp_sh 77 = .inl (.int, 40) := by decide +kernel
/-- M.far -/
theorem sh_78 : fp_sh 78 = .inl (.int, 144) := by decide +kernel
/-- M.isWired -/
theorem sh_79 : fp_sh 79 = .inl (.boolean, 12) := by decide +kernel
/-- M.moveUnit -/
theorem sh_80 : fp_sh 80 = .inl (.int, 60) := by decide +kernel
/-- M.moveTo -/
theorem sh_81 : fp_sh 81 = .inl (.int, 60) := by decide +kernel
/-- M.moveFrom -/
theorem sh_82 : fp_sh 82 = .inl (.int, 60) := by decide +kernel
/-- M.moveTold -/
theorem sh_83 : fp_sh 83 = .inl (.int, 60) := by decide +kernel
/-- M.manUnit -/
theorem sh_84 : fp_sh 84 = .inl (.int, 40) := by decide +kernel
/-- M.manName -/
theorem sh_85 : fp_sh 85 = .inl (.int, 40) := by decide +kernel
/-- M.stateMan -/
theorem sh_86 : fp_sh 86 = .inl (.int, 80) := by decide +kernel
/-- M.stateAs -/
theorem sh_87 : fp_sh 87 = .inl (.int, 80) := by decide +kernel
/-- M.stateIn -/
theorem sh_88 : fp_sh 88 = .inl (.int, 80) := by decide +kernel
/-- M.stateTold -/
theorem sh_89 : fp_sh 89 = .inl (.int, 80) := by decide +kernel
/-- M.kind -/
theorem sh_90 : fp_sh 90 = .inl (.int, 60) := by decide +kernel
/-- M.postedAt -/
theorem sh_91 : fp_sh 91 = .inl (.int, 60) := by decide +kernel
/-- M.posted -/
theorem sh_92 : fp_sh 92 = .inl (.int, 60) := by decide +kernel
/-- M.to -/
theorem sh_93 : fp_sh 93 = .inl (.int, 60) := by decide +kernel
/-- M.weight -/
theorem sh_94 : fp_sh 94 = .inl (.int, 60) := by decide +kernel
/-- M.where -/
theorem sh_95 : fp_sh 95 = .inl (.int, 60) := by decide +kernel
/-- M.place -/
theorem sh_96 : fp_sh 96 = .inl (.int, 60) := by decide +kernel
/-- M.hour -/
theorem sh_97 : fp_sh 97 = .inl (.int, 60) := by decide +kernel
/-- M.word -/
theorem sh_98 : fp_sh 98 = .inl (.int, 60) := by decide +kernel
/-- M.came -/
theorem sh_99 : fp_sh 99 = .inl (.int, 60) := by decide +kernel
/-- M.trace -/
theorem sh_100 : fp_sh 100 = .inl (.int, 2400) := by decide +kernel
/-- M.isTurned -/
theorem sh_101 : fp_sh 101 = .inl (.boolean, 60) := by decide +kernel
/-- M.isSpoilt -/
theorem sh_102 : fp_sh 102 = .inl (.boolean, 60) := by decide +kernel
/-- M.tape -/
theorem sh_103 : fp_sh 103 = .inl (.int, 60) := by decide +kernel
/-- M.text -/
theorem sh_104 : fp_sh 104 = .inl (.int, 1800) := by decide +kernel
/-- M.textSize -/
theorem sh_105 : fp_sh 105 = .inl (.int, 30) := by decide +kernel
/-- M.purpose -/
theorem sh_106 : fp_sh 106 = .inl (.int, 30) := by decide +kernel
/-- M.orderTold -/
theorem sh_107 : fp_sh 107 = .inl (.int, 30) := by decide +kernel
/-- M.stack -/
theorem sh_108 : fp_sh 108 = .inl (.int, 8) := by decide +kernel
/-- M.fact -/
theorem sh_109 : fp_sh 109 = .inl (.int, 128) := by decide +kernel
/-- M.waits -/
theorem sh_110 : fp_sh 110 = .inl (.int, 60) := by decide +kernel
/-- M.values -/
theorem sh_111 : fp_sh 111 = .inl (.int, 60) := by decide +kernel
/-- M.isSeen -/
theorem sh_112 : fp_sh 112 = .inl (.boolean, 60) := by decide +kernel
/-- M.keptWhere -/
theorem sh_113 : fp_sh 113 = .inl (.int, 60) := by decide +kernel
/-- M.keptPlace -/
theorem sh_114 : fp_sh 114 = .inl (.int, 60) := by decide +kernel
/-- M.keptHour -/
theorem sh_115 : fp_sh 115 = .inl (.int, 60) := by decide +kernel
/-- M.keptWord -/
theorem sh_116 : fp_sh 116 = .inl (.int, 60) := by decide +kernel
/-- M.keptCame -/
theorem sh_117 : fp_sh 117 = .inl (.int, 60) := by decide +kernel
/-- M.keptTurned -/
theorem sh_118 : fp_sh 118 = .inl (.boolean, 60) := by decide +kernel
/-- M.keptSpoilt -/
theorem sh_119 : fp_sh 119 = .inl (.boolean, 60) := by decide +kernel
/-- M.time -/
theorem sh_120 : fp_sh 120 = .inl (.int, 7) := by decide +kernel
/-- M.train -/
theorem sh_121 : fp_sh 121 = .inl (.int, 7) := by decide +kernel
/-- M.letters -/
theorem sh_122 : fp_sh 122 = .inl (.int, 7) := by decide +kernel
/-- M.row -/
theorem sh_123 : fp_sh 123 = .inl (.int, 12) := by decide +kernel
def fp_isC (c : Nat) : Prop := c = 43 ∨ c = 52
theorem shC {c : Nat} (h : fp_isC c) : fp_sh c = .inr (0, [some (c + 1), some (c + 2), some (c + 3), some (c + 4), some (c + 5), some (c + 6), some (c + 7), some (c + 8)]) := by rcases h with rfl | rfl <;> decide +kernel
theorem shC_1 {c : Nat} (h : fp_isC c) : fp_sh (c + 1) = .inl (.int, 60) := by rcases h with rfl | rfl <;> decide +kernel
theorem shC_2 {c : Nat} (h : fp_isC c) : fp_sh (c + 2) = .inl (.int, 60) := by rcases h with rfl | rfl <;> decide +kernel
theorem shC_3 {c : Nat} (h : fp_isC c) : fp_sh (c + 3) = .inl (.int, 60) := by rcases h with rfl | rfl <;> decide +kernel
theorem shC_4 {c : Nat} (h : fp_isC c) : fp_sh (c + 4) = .inl (.boolean, 60) := by rcases h with rfl | rfl <;> decide +kernel
theorem shC_5 {c : Nat} (h : fp_isC c) : fp_sh (c + 5) = .inl (.int, 60) := by rcases h with rfl | rfl <;> decide +kernel
theorem shC_6 {c : Nat} (h : fp_isC c) : fp_sh (c + 6) = .inl (.int, 60) := by rcases h with rfl | rfl <;> decide +kernel
theorem shC_7 {c : Nat} (h : fp_isC c) : fp_sh (c + 7) = .inl (.boolean, 60) := by rcases h with rfl | rfl <;> decide +kernel
def fp_trl (c : Nat) : Nat := if c = 43 then 2400 else 0
theorem shC_8 {c : Nat} (h : fp_isC c) : fp_sh (c + 8) = .inl (.byte, fp_trl c) := by rcases h with rfl | rfl <;> decide +kernel
theorem ltC {c i : Nat} (h : fp_isC c) (hi : i < 9) : c + i < fp_NC := by rcases h with rfl | rfl <;> (show _ < 124; omega)
