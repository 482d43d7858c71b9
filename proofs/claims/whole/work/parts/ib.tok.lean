/-! The tables are right. -/
abbrev mi_P (xs : List Int32) (j : Nat) (M : mi_Me) : Prop := plainFor M.1 = true ∧ (∀ q ∈ M.2.2.2.2.1, decode M.2.1 q.1 = .ok (q.2.1, q.2.2) ∧ mi_lenok q.2.1 q.2.2 = true) ∧ mi_Lok (lw_tbl.filter goodWord) mi_cl (mi_ev xs) M.1.cls (M.1.name == "<init>") M.2.2.2.2.2.1 ∧ mi_Kok (fun j => mi_Gs[j]?) (lw_tbl.filter goodWord) mi_cl (mi_ev xs) mi_fr mi_lo j M
theorem mi_hq : ∀ (j' : Nat) (M' : mi_Me) (kd n ci : Nat), mi_Gs[j']? = some M' → mi_mq[j']? = some (kd, n, ci) → kd ≠ 9 → mi_Qf (lw_tbl.filter goodWord) mi_cl M' kd n ci ∧ Cond.code M'.1 M'.2.1 M'.2.2.1 M'.2.2.2.1 ∈ lw_tbl.filter goodWord := by
  intro j M kd n ci h1 h2 h3
  match j, h1, h2 with
  | 0, h1, h2 => cases h1; cases h2; exact absurd rfl h3
  | 1, h1, h2 => cases h1; cases h2; exact ⟨ck_q_ok mQ_1, mW_1⟩
  | 2, h1, h2 => cases h1; cases h2; exact ⟨ck_q_ok mQ_2, mW_2⟩
  | 3, h1, h2 => cases h1; cases h2; exact ⟨ck_q_ok mQ_3, mW_3⟩
  | 4, h1, h2 => cases h1; cases h2; exact ⟨ck_q_ok mQ_4, mW_4⟩
  | 5, h1, h2 => cases h1; cases h2; exact ⟨ck_q_ok mQ_5, mW_5⟩
  | 6, h1, h2 => cases h1; cases h2; exact ⟨ck_q_ok mQ_6, mW_6⟩
  | 7, h1, h2 => cases h1; cases h2; exact ⟨ck_q_ok mQ_7, mW_7⟩
  | 8, h1, h2 => cases h1; cases h2; exact ⟨ck_q_ok mQ_8, mW_8⟩
  | 9, h1, h2 => cases h1; cases h2; exact ⟨ck_q_ok mQ_9, mW_9⟩
  | 10, h1, h2 => cases h1; cases h2; exact ⟨ck_q_ok mQ_10, mW_10⟩
  | 11, h1, h2 => cases h1; cases h2; exact ⟨ck_q_ok mQ_11, mW_11⟩
  | 12, h1, h2 => cases h1; cases h2; exact ⟨ck_q_ok mQ_12, mW_12⟩
  | 13, h1, h2 => cases h1; cases h2; exact ⟨ck_q_ok mQ_13, mW_13⟩
  | 14, h1, h2 => cases h1; cases h2; exact ⟨ck_q_ok mQ_14, mW_14⟩
  | 15, h1, h2 => cases h1; cases h2; exact ⟨ck_q_ok mQ_15, mW_15⟩
  | 16, h1, h2 => cases h1; cases h2; exact ⟨ck_q_ok mQ_16, mW_16⟩
  | 17, h1, h2 => cases h1; cases h2; exact ⟨ck_q_ok mQ_17, mW_17⟩
  | 18, h1, h2 => cases h1; cases h2; exact ⟨ck_q_ok mQ_18, mW_18⟩
  | 19, h1, h2 => cases h1; cases h2; exact ⟨ck_q_ok mQ_19, mW_19⟩
  | 20, h1, h2 => cases h1; cases h2; exact ⟨ck_q_ok mQ_20, mW_20⟩
  | 21, h1, h2 => cases h1; cases h2; exact ⟨ck_q_ok mQ_21, mW_21⟩
  | 22, h1, h2 => cases h1; cases h2; exact ⟨ck_q_ok mQ_22, mW_22⟩
  | 23, h1, h2 => cases h1; cases h2; exact ⟨ck_q_ok mQ_23, mW_23⟩
  | 24, h1, h2 => cases h1; cases h2; exact ⟨ck_q_ok mQ_24, mW_24⟩
  | 25, h1, h2 => cases h1; cases h2; exact ⟨ck_q_ok mQ_25, mW_25⟩
  | 26, h1, h2 => cases h1; cases h2; exact ⟨ck_q_ok mQ_26, mW_26⟩
  | 27, h1, h2 => cases h1; cases h2; exact ⟨ck_q_ok mQ_27, mW_27⟩
  | 28, h1, h2 => cases h1; cases h2; exact ⟨ck_q_ok mQ_28, mW_28⟩
  | 29, h1, h2 => cases h1; cases h2; exact ⟨ck_q_ok mQ_29, mW_29⟩
  | 30, h1, h2 => cases h1; cases h2; exact ⟨ck_q_ok mQ_30, mW_30⟩
  | 31, h1, h2 => cases h1; cases h2; exact ⟨ck_q_ok mQ_31, mW_31⟩
  | 32, h1, h2 => cases h1; cases h2; exact ⟨ck_q_ok mQ_32, mW_32⟩
  | 33, h1, h2 => cases h1; cases h2; exact ⟨ck_q_ok mQ_33, mW_33⟩
  | 34, h1, h2 => cases h1; cases h2; exact ⟨ck_q_ok mQ_34, mW_34⟩
  | 35, h1, h2 => cases h1; cases h2; exact ⟨ck_q_ok mQ_35, mW_35⟩
  | 36, h1, h2 => cases h1; cases h2; exact ⟨ck_q_ok mQ_36, mW_36⟩
  | 37, h1, h2 => cases h1; cases h2; exact ⟨ck_q_ok mQ_37, mW_37⟩
  | 38, h1, h2 => cases h1; cases h2; exact ⟨ck_q_ok mQ_38, mW_38⟩
  | 39, h1, h2 => cases h1; cases h2; exact ⟨ck_q_ok mQ_39, mW_39⟩
  | 40, h1, h2 => cases h1; cases h2; exact ⟨ck_q_ok mQ_40, mW_40⟩
  | 41, h1, h2 => cases h1; cases h2; exact ⟨ck_q_ok mQ_41, mW_41⟩
  | 42, h1, h2 => cases h1; cases h2; exact ⟨ck_q_ok mQ_42, mW_42⟩
  | 43, h1, h2 => cases h1; cases h2; exact ⟨ck_q_ok mQ_43, mW_43⟩
  | 44, h1, h2 => cases h1; cases h2; exact ⟨ck_q_ok mQ_44, mW_44⟩
  | 45, h1, h2 => cases h1; cases h2; exact ⟨ck_q_ok mQ_45, mW_45⟩
  | 46, h1, h2 => cases h1; cases h2; exact ⟨ck_q_ok mQ_46, mW_46⟩
  | 47, h1, h2 => cases h1; cases h2; exact ⟨ck_q_ok mQ_47, mW_47⟩
  | 48, h1, h2 => cases h1; cases h2; exact ⟨ck_q_ok mQ_48, mW_48⟩
  | 49, h1, h2 => cases h1; cases h2; exact ⟨ck_q_ok mQ_49, mW_49⟩
  | 50, h1, h2 => cases h1; cases h2; exact ⟨ck_q_ok mQ_50, mW_50⟩
  | 51, h1, h2 => cases h1; cases h2; exact ⟨ck_q_ok mQ_51, mW_51⟩
  | 52, h1, h2 => cases h1; cases h2; exact ⟨ck_q_ok mQ_52, mW_52⟩
  | 53, h1, h2 => cases h1; cases h2; exact ⟨ck_q_ok mQ_53, mW_53⟩
  | 54, h1, h2 => cases h1; cases h2; exact ⟨ck_q_ok mQ_54, mW_54⟩
  | 55, h1, h2 => cases h1; cases h2; exact ⟨ck_q_ok mQ_55, mW_55⟩
  | 56, h1, h2 => cases h1; cases h2; exact ⟨ck_q_ok mQ_56, mW_56⟩
  | 57, h1, h2 => cases h1; cases h2; exact ⟨ck_q_ok mQ_57, mW_57⟩
  | 58, h1, h2 => cases h1; cases h2; exact ⟨ck_q_ok mQ_58, mW_58⟩
  | 59, h1, h2 => cases h1; cases h2; exact ⟨ck_q_ok mQ_59, mW_59⟩
  | 60, h1, h2 => cases h1; cases h2; exact ⟨ck_q_ok mQ_60, mW_60⟩
  | 61, h1, h2 => cases h1; cases h2; exact ⟨ck_q_ok mQ_61, mW_61⟩
  | 62, h1, h2 => cases h1; cases h2; exact ⟨ck_q_ok mQ_62, mW_62⟩
  | 63, h1, h2 => cases h1; cases h2; exact ⟨ck_q_ok mQ_63, mW_63⟩
  | 64, h1, h2 => cases h1; cases h2; exact ⟨ck_q_ok mQ_64, mW_64⟩
  | 65, h1, h2 => cases h1; cases h2; exact ⟨ck_q_ok mQ_65, mW_65⟩
  | 66, h1, h2 => cases h1; cases h2; exact ⟨ck_q_ok mQ_66, mW_66⟩
  | 67, h1, h2 => cases h1; cases h2; exact ⟨ck_q_ok mQ_67, mW_67⟩
  | 68, h1, h2 => cases h1; cases h2; exact ⟨ck_q_ok mQ_68, mW_68⟩
  | 69, h1, h2 => cases h1; cases h2; exact ⟨ck_q_ok mQ_69, mW_69⟩
  | 70, h1, h2 => cases h1; cases h2; exact ⟨ck_q_ok mQ_70, mW_70⟩
  | 71, h1, h2 => cases h1; cases h2; exact ⟨ck_q_ok mQ_71, mW_71⟩
  | 72, h1, h2 => cases h1; cases h2; exact ⟨ck_q_ok mQ_72, mW_72⟩
  | 73, h1, h2 => cases h1; cases h2; exact ⟨ck_q_ok mQ_73, mW_73⟩
  | 74, h1, h2 => cases h1; cases h2; exact ⟨ck_q_ok mQ_74, mW_74⟩
  | 75, h1, h2 => cases h1; cases h2; exact ⟨ck_q_ok mQ_75, mW_75⟩
  | 76, h1, h2 => cases h1; cases h2; exact ⟨ck_q_ok mQ_76, mW_76⟩
  | 77, h1, h2 => cases h1; cases h2; exact ⟨ck_q_ok mQ_77, mW_77⟩
  | 78, h1, h2 => cases h1; cases h2; exact ⟨ck_q_ok mQ_78, mW_78⟩
  | 79, h1, h2 => cases h1; cases h2; exact ⟨ck_q_ok mQ_79, mW_79⟩
  | 80, h1, h2 => cases h1; cases h2; exact ⟨ck_q_ok mQ_80, mW_80⟩
  | 81, h1, h2 => cases h1; cases h2; exact ⟨ck_q_ok mQ_81, mW_81⟩
  | 82, h1, h2 => cases h1; cases h2; exact ⟨ck_q_ok mQ_82, mW_82⟩
  | 83, h1, h2 => cases h1; cases h2; exact ⟨ck_q_ok mQ_83, mW_83⟩
  | 84, h1, h2 => cases h1; cases h2; exact ⟨ck_q_ok mQ_84, mW_84⟩
  | 85, h1, h2 => cases h1; cases h2; exact ⟨ck_q_ok mQ_85, mW_85⟩
  | 86, h1, h2 => cases h1; cases h2; exact ⟨ck_q_ok mQ_86, mW_86⟩
  | 87, h1, h2 => cases h1; cases h2; exact ⟨ck_q_ok mQ_87, mW_87⟩
  | 88, h1, h2 => cases h1; cases h2; exact ⟨ck_q_ok mQ_88, mW_88⟩
  | 89, h1, h2 => cases h1; cases h2; exact ⟨ck_q_ok mQ_89, mW_89⟩
  | 90, h1, h2 => cases h1; cases h2; exact ⟨ck_q_ok mQ_90, mW_90⟩
  | 91, h1, h2 => cases h1; cases h2; exact ⟨ck_q_ok mQ_91, mW_91⟩
  | 92, h1, h2 => cases h1; cases h2; exact ⟨ck_q_ok mQ_92, mW_92⟩
  | 93, h1, h2 => cases h1; cases h2; exact ⟨ck_q_ok mQ_93, mW_93⟩
  | 94, h1, h2 => cases h1; cases h2; exact ⟨ck_q_ok mQ_94, mW_94⟩
  | 95, h1, h2 => cases h1; cases h2; exact ⟨ck_q_ok mQ_95, mW_95⟩
  | 96, h1, h2 => cases h1; cases h2; exact ⟨ck_q_ok mQ_96, mW_96⟩
  | 97, h1, h2 => cases h1; cases h2; exact ⟨ck_q_ok mQ_97, mW_97⟩
  | 98, h1, h2 => cases h1; cases h2; exact ⟨ck_q_ok mQ_98, mW_98⟩
  | 99, h1, h2 => cases h1; cases h2; exact ⟨ck_q_ok mQ_99, mW_99⟩
  | 100, h1, h2 => cases h1; cases h2; exact ⟨ck_q_ok mQ_100, mW_100⟩
  | 101, h1, h2 => cases h1; cases h2; exact ⟨ck_q_ok mQ_101, mW_101⟩
  | 102, h1, h2 => cases h1; cases h2; exact ⟨ck_q_ok mQ_102, mW_102⟩
  | 103, h1, h2 => cases h1; cases h2; exact ⟨ck_q_ok mQ_103, mW_103⟩
  | 104, h1, h2 => cases h1; cases h2; exact ⟨ck_q_ok mQ_104, mW_104⟩
  | 105, h1, h2 => cases h1; cases h2; exact ⟨ck_q_ok mQ_105, mW_105⟩
  | 106, h1, h2 => cases h1; cases h2; exact ⟨ck_q_ok mQ_106, mW_106⟩
  | 107, h1, h2 => cases h1; cases h2; exact ⟨ck_q_ok mQ_107, mW_107⟩
  | 108, h1, h2 => cases h1; cases h2; exact ⟨ck_q_ok mQ_108, mW_108⟩
  | 109, h1, h2 => cases h1; cases h2; exact ⟨ck_q_ok mQ_109, mW_109⟩
  | 110, h1, h2 => cases h1; cases h2; exact ⟨ck_q_ok mQ_110, mW_110⟩
  | 111, h1, h2 => cases h1; cases h2; exact ⟨ck_q_ok mQ_111, mW_111⟩
  | 112, h1, h2 => cases h1; cases h2; exact ⟨ck_q_ok mQ_112, mW_112⟩
  | 113, h1, h2 => cases h1; cases h2; exact ⟨ck_q_ok mQ_113, mW_113⟩
  | 114, h1, h2 => cases h1; cases h2; exact ⟨ck_q_ok mQ_114, mW_114⟩
  | 115, h1, h2 => cases h1; cases h2; exact ⟨ck_q_ok mQ_115, mW_115⟩
  | 116, h1, h2 => cases h1; cases h2; exact ⟨ck_q_ok mQ_116, mW_116⟩
  | 117, h1, h2 => cases h1; cases h2; exact ⟨ck_q_ok mQ_117, mW_117⟩
  | 118, h1, h2 => cases h1; cases h2; exact ⟨ck_q_ok mQ_118, mW_118⟩
  | 119, h1, h2 => cases h1; cases h2; exact ⟨ck_q_ok mQ_119, mW_119⟩
  | 120, h1, h2 => cases h1; cases h2; exact ⟨ck_q_ok mQ_120, mW_120⟩
  | 121, h1, h2 => cases h1; cases h2; exact ⟨ck_q_ok mQ_121, mW_121⟩
  | 122, h1, h2 => cases h1; cases h2; exact ⟨ck_q_ok mQ_122, mW_122⟩
  | 123, h1, h2 => cases h1; cases h2; exact ⟨ck_q_ok mQ_123, mW_123⟩
  | 124, h1, h2 => cases h1; cases h2; exact ⟨ck_q_ok mQ_124, mW_124⟩
  | 125, h1, h2 => cases h1; cases h2; exact ⟨ck_q_ok mQ_125, mW_125⟩
  | 126, h1, h2 => cases h1; cases h2; exact ⟨ck_q_ok mQ_126, mW_126⟩
  | 127, h1, h2 => cases h1; cases h2; exact ⟨ck_q_ok mQ_127, mW_127⟩
  | 128, h1, h2 => cases h1; cases h2; exact ⟨ck_q_ok mQ_128, mW_128⟩
  | 129, h1, h2 => cases h1; cases h2; exact ⟨ck_q_ok mQ_129, mW_129⟩
  | 130, h1, h2 => cases h1; cases h2; exact ⟨ck_q_ok mQ_130, mW_130⟩
  | 131, h1, h2 => cases h1; cases h2; exact ⟨ck_q_ok mQ_131, mW_131⟩
  | 132, h1, h2 => cases h1; cases h2; exact ⟨ck_q_ok mQ_132, mW_132⟩
  | 133, h1, h2 => cases h1; cases h2; exact ⟨ck_q_ok mQ_133, mW_133⟩
  | 134, h1, h2 => cases h1; cases h2; exact ⟨ck_q_ok mQ_134, mW_134⟩
  | 135, h1, h2 => cases h1; cases h2; exact ⟨ck_q_ok mQ_135, mW_135⟩
  | 136, h1, h2 => cases h1; cases h2; exact ⟨ck_q_ok mQ_136, mW_136⟩
  | 137, h1, h2 => cases h1; cases h2; exact ⟨ck_q_ok mQ_137, mW_137⟩
  | 138, h1, h2 => cases h1; cases h2; exact ⟨ck_q_ok mQ_138, mW_138⟩
  | 139, h1, h2 => cases h1; cases h2; exact ⟨ck_q_ok mQ_139, mW_139⟩
  | 140, h1, h2 => cases h1; cases h2; exact ⟨ck_q_ok mQ_140, mW_140⟩
  | 141, h1, h2 => cases h1; cases h2; exact ⟨ck_q_ok mQ_141, mW_141⟩
  | 142, h1, h2 => cases h1; cases h2; exact ⟨ck_q_ok mQ_142, mW_142⟩
  | 143, h1, h2 => cases h1; cases h2; exact ⟨ck_q_ok mQ_143, mW_143⟩
  | 144, h1, h2 => cases h1; cases h2; exact ⟨ck_q_ok mQ_144, mW_144⟩
  | 145, h1, h2 => cases h1; cases h2; exact ⟨ck_q_ok mQ_145, mW_145⟩
  | 146, h1, h2 => cases h1; cases h2; exact ⟨ck_q_ok mQ_146, mW_146⟩
  | 147, h1, h2 => cases h1; cases h2; exact ⟨ck_q_ok mQ_147, mW_147⟩
  | 148, h1, h2 => cases h1; cases h2; exact ⟨ck_q_ok mQ_148, mW_148⟩
  | 149, h1, h2 => cases h1; cases h2; exact ⟨ck_q_ok mQ_149, mW_149⟩
  | 150, h1, h2 => cases h1; cases h2; exact ⟨ck_q_ok mQ_150, mW_150⟩
  | 151, h1, h2 => cases h1; cases h2; exact ⟨ck_q_ok mQ_151, mW_151⟩
  | 152, h1, h2 => cases h1; cases h2; exact ⟨ck_q_ok mQ_152, mW_152⟩
  | 153, h1, h2 => cases h1; cases h2; exact ⟨ck_q_ok mQ_153, mW_153⟩
  | 154, h1, h2 => cases h1; cases h2; exact ⟨ck_q_ok mQ_154, mW_154⟩
  | 155, h1, h2 => cases h1; cases h2; exact ⟨ck_q_ok mQ_155, mW_155⟩
  | 156, h1, h2 => cases h1; cases h2; exact ⟨ck_q_ok mQ_156, mW_156⟩
  | 157, h1, h2 => cases h1; cases h2; exact ⟨ck_q_ok mQ_157, mW_157⟩
  | 158, h1, h2 => cases h1; cases h2; exact ⟨ck_q_ok mQ_158, mW_158⟩
  | 159, h1, h2 => cases h1; cases h2; exact ⟨ck_q_ok mQ_159, mW_159⟩
  | 160, h1, h2 => cases h1; cases h2; exact ⟨ck_q_ok mQ_160, mW_160⟩
  | 161, h1, h2 => cases h1; cases h2; exact ⟨ck_q_ok mQ_161, mW_161⟩
  | 162, h1, h2 => cases h1; cases h2; exact ⟨ck_q_ok mQ_162, mW_162⟩
  | 163, h1, h2 => cases h1; cases h2; exact ⟨ck_q_ok mQ_163, mW_163⟩
  | 164, h1, h2 => cases h1; cases h2; exact ⟨ck_q_ok mQ_164, mW_164⟩
  | 165, h1, h2 => cases h1; cases h2; exact ⟨ck_q_ok mQ_165, mW_165⟩
  | 166, h1, h2 => cases h1; cases h2; exact ⟨ck_q_ok mQ_166, mW_166⟩
  | 167, h1, h2 => cases h1; cases h2; exact ⟨ck_q_ok mQ_167, mW_167⟩
  | 168, h1, h2 => cases h1; cases h2; exact ⟨ck_q_ok mQ_168, mW_168⟩
  | 169, h1, h2 => cases h1; cases h2; exact ⟨ck_q_ok mQ_169, mW_169⟩
  | 170, h1, h2 => cases h1; cases h2; exact ⟨ck_q_ok mQ_170, mW_170⟩
  | 171, h1, h2 => cases h1; cases h2; exact ⟨ck_q_ok mQ_171, mW_171⟩
  | 172, h1, h2 => cases h1; cases h2; exact ⟨ck_q_ok mQ_172, mW_172⟩
  | 173, h1, h2 => cases h1; cases h2; exact ⟨ck_q_ok mQ_173, mW_173⟩
  | 174, h1, h2 => cases h1; cases h2; exact ⟨ck_q_ok mQ_174, mW_174⟩
  | 175, h1, h2 => cases h1; cases h2; exact ⟨ck_q_ok mQ_175, mW_175⟩
  | 176, h1, h2 => cases h1; cases h2; exact ⟨ck_q_ok mQ_176, mW_176⟩
  | 177, h1, h2 => cases h1; cases h2; exact ⟨ck_q_ok mQ_177, mW_177⟩
  | 178, h1, h2 => cases h1; cases h2; exact ⟨ck_q_ok mQ_178, mW_178⟩
  | 179, h1, h2 => cases h1; cases h2; exact ⟨ck_q_ok mQ_179, mW_179⟩
  | 180, h1, h2 => cases h1; cases h2; exact ⟨ck_q_ok mQ_180, mW_180⟩
  | 181, h1, h2 => cases h1; cases h2; exact ⟨ck_q_ok mQ_181, mW_181⟩
  | 182, h1, h2 => cases h1; cases h2; exact ⟨ck_q_ok mQ_182, mW_182⟩
  | 183, h1, h2 => cases h1; cases h2; exact ⟨ck_q_ok mQ_183, mW_183⟩
  | 184, h1, h2 => cases h1; cases h2; exact ⟨ck_q_ok mQ_184, mW_184⟩
  | 185, h1, h2 => cases h1; cases h2; exact ⟨ck_q_ok mQ_185, mW_185⟩
  | 186, h1, h2 => cases h1; cases h2; exact ⟨ck_q_ok mQ_186, mW_186⟩
  | 187, h1, h2 => cases h1; cases h2; exact ⟨ck_q_ok mQ_187, mW_187⟩
  | 188, h1, h2 => cases h1; cases h2; exact ⟨ck_q_ok mQ_188, mW_188⟩
  | 189, h1, h2 => cases h1; cases h2; exact ⟨ck_q_ok mQ_189, mW_189⟩
  | 190, h1, h2 => cases h1; cases h2; exact ⟨ck_q_ok mQ_190, mW_190⟩
  | 191, h1, h2 => cases h1; cases h2; exact ⟨ck_q_ok mQ_191, mW_191⟩
  | 192, h1, h2 => cases h1; cases h2; exact ⟨ck_q_ok mQ_192, mW_192⟩
  | 193, h1, h2 => cases h1; cases h2; exact ⟨ck_q_ok mQ_193, mW_193⟩
  | 194, h1, h2 => cases h1; cases h2; exact ⟨ck_q_ok mQ_194, mW_194⟩
  | 195, h1, h2 => cases h1; cases h2; exact ⟨ck_q_ok mQ_195, mW_195⟩
  | 196, h1, h2 => cases h1; cases h2; exact ⟨ck_q_ok mQ_196, mW_196⟩
  | 197, h1, h2 => cases h1; cases h2; exact ⟨ck_q_ok mQ_197, mW_197⟩
  | 198, h1, h2 => cases h1; cases h2; exact ⟨ck_q_ok mQ_198, mW_198⟩
  | 199, h1, h2 => cases h1; cases h2; exact ⟨ck_q_ok mQ_199, mW_199⟩
  | 200, h1, h2 => cases h1; cases h2; exact ⟨ck_q_ok mQ_200, mW_200⟩
  | 201, h1, h2 => cases h1; cases h2; exact ⟨ck_q_ok mQ_201, mW_201⟩
  | 202, h1, h2 => cases h1; cases h2; exact ⟨ck_q_ok mQ_202, mW_202⟩
  | 203, h1, h2 => cases h1; cases h2; exact ⟨ck_q_ok mQ_203, mW_203⟩
  | 204, h1, h2 => cases h1; cases h2; exact ⟨ck_q_ok mQ_204, mW_204⟩
  | 205, h1, h2 => cases h1; cases h2; exact ⟨ck_q_ok mQ_205, mW_205⟩
  | 206, h1, h2 => cases h1; cases h2; exact ⟨ck_q_ok mQ_206, mW_206⟩
  | 207, h1, h2 => cases h1; cases h2; exact ⟨ck_q_ok mQ_207, mW_207⟩
  | 208, h1, h2 => cases h1; cases h2; exact ⟨ck_q_ok mQ_208, mW_208⟩
  | 209, h1, h2 => cases h1; cases h2; exact ⟨ck_q_ok mQ_209, mW_209⟩
  | 210, h1, h2 => cases h1; cases h2; exact ⟨ck_q_ok mQ_210, mW_210⟩
  | 211, h1, h2 => cases h1; cases h2; exact ⟨ck_q_ok mQ_211, mW_211⟩
  | 212, h1, h2 => cases h1; cases h2; exact ⟨ck_q_ok mQ_212, mW_212⟩
  | 213, h1, h2 => cases h1; cases h2; exact ⟨ck_q_ok mQ_213, mW_213⟩
  | 214, h1, h2 => cases h1; cases h2; exact ⟨ck_q_ok mQ_214, mW_214⟩
  | 215, h1, h2 => cases h1; cases h2; exact ⟨ck_q_ok mQ_215, mW_215⟩
  | 216, h1, h2 => cases h1; cases h2; exact ⟨ck_q_ok mQ_216, mW_216⟩
  | 217, h1, h2 => cases h1; cases h2; exact ⟨ck_q_ok mQ_217, mW_217⟩
  | 218, h1, h2 => cases h1; cases h2; exact ⟨ck_q_ok mQ_218, mW_218⟩
  | 219, h1, h2 => cases h1; cases h2; exact ⟨ck_q_ok mQ_219, mW_219⟩
  | 220, h1, h2 => cases h1; cases h2; exact ⟨ck_q_ok mQ_220, mW_220⟩
  | 221, h1, h2 => cases h1; cases h2; exact ⟨ck_q_ok mQ_221, mW_221⟩
  | 222, h1, h2 => cases h1; cases h2; exact ⟨ck_q_ok mQ_222, mW_222⟩
  | 223, h1, h2 => cases h1; cases h2; exact ⟨ck_q_ok mQ_223, mW_223⟩
  | 224, h1, h2 => cases h1; cases h2; exact ⟨ck_q_ok mQ_224, mW_224⟩
  | 225, h1, h2 => cases h1; cases h2; exact ⟨ck_q_ok mQ_225, mW_225⟩
  | 226, h1, h2 => cases h1; cases h2; exact ⟨ck_q_ok mQ_226, mW_226⟩
  | 227, h1, h2 => cases h1; cases h2; exact ⟨ck_q_ok mQ_227, mW_227⟩
  | 228, h1, h2 => cases h1; cases h2; exact ⟨ck_q_ok mQ_228, mW_228⟩
  | 229, h1, h2 => cases h1; cases h2; exact ⟨ck_q_ok mQ_229, mW_229⟩
  | 230, h1, h2 => cases h1; cases h2; exact ⟨ck_q_ok mQ_230, mW_230⟩
  | 231, h1, h2 => cases h1; cases h2; exact ⟨ck_q_ok mQ_231, mW_231⟩
  | 232, h1, h2 => cases h1; cases h2; exact ⟨ck_q_ok mQ_232, mW_232⟩
  | 233, h1, h2 => cases h1; cases h2; exact ⟨ck_q_ok mQ_233, mW_233⟩
  | 234, h1, h2 => cases h1; cases h2; exact ⟨ck_q_ok mQ_234, mW_234⟩
  | 235, h1, h2 => cases h1; cases h2; exact ⟨ck_q_ok mQ_235, mW_235⟩
  | 236, h1, h2 => cases h1; cases h2; exact ⟨ck_q_ok mQ_236, mW_236⟩
  | 237, h1, h2 => cases h1; cases h2; exact ⟨ck_q_ok mQ_237, mW_237⟩
  | 238, h1, h2 => cases h1; cases h2; exact ⟨ck_q_ok mQ_238, mW_238⟩
  | 239, h1, h2 => cases h1; cases h2; exact ⟨ck_q_ok mQ_239, mW_239⟩
  | 240, h1, h2 => cases h1; cases h2; exact ⟨ck_q_ok mQ_240, mW_240⟩
  | 241, h1, h2 => cases h1; cases h2; exact ⟨ck_q_ok mQ_241, mW_241⟩
  | 242, h1, h2 => cases h1; cases h2; exact ⟨ck_q_ok mQ_242, mW_242⟩
  | 243, h1, h2 => cases h1; cases h2; exact ⟨ck_q_ok mQ_243, mW_243⟩
  | 244, h1, h2 => cases h1; cases h2; exact ⟨ck_q_ok mQ_244, mW_244⟩
  | 245, h1, h2 => cases h1; cases h2; exact ⟨ck_q_ok mQ_245, mW_245⟩
  | 246, h1, h2 => cases h1; cases h2; exact ⟨ck_q_ok mQ_246, mW_246⟩
  | 247, h1, h2 => cases h1; cases h2; exact ⟨ck_q_ok mQ_247, mW_247⟩
  | 248, h1, h2 => cases h1; cases h2; exact ⟨ck_q_ok mQ_248, mW_248⟩
  | 249, h1, h2 => cases h1; cases h2; exact ⟨ck_q_ok mQ_249, mW_249⟩
  | 250, h1, h2 => cases h1; cases h2; exact ⟨ck_q_ok mQ_250, mW_250⟩
  | 251, h1, h2 => cases h1; cases h2; exact ⟨ck_q_ok mQ_251, mW_251⟩
  | 252, h1, h2 => cases h1; cases h2; exact ⟨ck_q_ok mQ_252, mW_252⟩
  | 253, h1, h2 => cases h1; cases h2; exact ⟨ck_q_ok mQ_253, mW_253⟩
  | 254, h1, h2 => cases h1; cases h2; exact ⟨ck_q_ok mQ_254, mW_254⟩
  | 255, h1, h2 => cases h1; cases h2; exact ⟨ck_q_ok mQ_255, mW_255⟩
  | 256, h1, h2 => cases h1; cases h2; exact ⟨ck_q_ok mQ_256, mW_256⟩
  | 257, h1, h2 => cases h1; cases h2; exact ⟨ck_q_ok mQ_257, mW_257⟩
  | 258, h1, h2 => cases h1; cases h2; exact ⟨ck_q_ok mQ_258, mW_258⟩
  | 259, h1, h2 => cases h1; cases h2; exact ⟨ck_q_ok mQ_259, mW_259⟩
  | 260, h1, h2 => cases h1; cases h2; exact ⟨ck_q_ok mQ_260, mW_260⟩
  | 261, h1, h2 => cases h1; cases h2; exact ⟨ck_q_ok mQ_261, mW_261⟩
  | 262, h1, h2 => cases h1; cases h2; exact ⟨ck_q_ok mQ_262, mW_262⟩
  | 263, h1, h2 => cases h1; cases h2; exact ⟨ck_q_ok mQ_263, mW_263⟩
  | 264, h1, h2 => cases h1; cases h2; exact ⟨ck_q_ok mQ_264, mW_264⟩
  | 265, h1, h2 => cases h1; cases h2; exact ⟨ck_q_ok mQ_265, mW_265⟩
  | 266, h1, h2 => cases h1; cases h2; exact ⟨ck_q_ok mQ_266, mW_266⟩
  | 267, h1, h2 => cases h1; cases h2; exact ⟨ck_q_ok mQ_267, mW_267⟩
  | 268, h1, h2 => cases h1; cases h2; exact ⟨ck_q_ok mQ_268, mW_268⟩
  | 269, h1, h2 => cases h1; cases h2; exact ⟨ck_q_ok mQ_269, mW_269⟩
  | 270, h1, h2 => cases h1; cases h2; exact ⟨ck_q_ok mQ_270, mW_270⟩
  | 271, h1, h2 => cases h1; cases h2; exact ⟨ck_q_ok mQ_271, mW_271⟩
  | 272, h1, h2 => cases h1; cases h2; exact ⟨ck_q_ok mQ_272, mW_272⟩
  | 273, h1, h2 => cases h1; cases h2; exact ⟨ck_q_ok mQ_273, mW_273⟩
  | 274, h1, h2 => cases h1; cases h2; exact ⟨ck_q_ok mQ_274, mW_274⟩
  | 275, h1, h2 => cases h1; cases h2; exact ⟨ck_q_ok mQ_275, mW_275⟩
  | 276, h1, h2 => cases h1; cases h2; exact ⟨ck_q_ok mQ_276, mW_276⟩
  | 277, h1, h2 => cases h1; cases h2; exact ⟨ck_q_ok mQ_277, mW_277⟩
  | 278, h1, h2 => cases h1; cases h2; exact ⟨ck_q_ok mQ_278, mW_278⟩
  | 279, h1, h2 => cases h1; cases h2; exact ⟨ck_q_ok mQ_279, mW_279⟩
  | 280, h1, h2 => cases h1; cases h2; exact ⟨ck_q_ok mQ_280, mW_280⟩
  | 281, h1, h2 => cases h1; cases h2; exact ⟨ck_q_ok mQ_281, mW_281⟩
  | 282, h1, h2 => cases h1; cases h2; exact ⟨ck_q_ok mQ_282, mW_282⟩
  | 283, h1, h2 => cases h1; cases h2; exact ⟨ck_q_ok mQ_283, mW_283⟩
  | 284, h1, h2 => cases h1; cases h2; exact ⟨ck_q_ok mQ_284, mW_284⟩
  | 285, h1, h2 => cases h1; cases h2; exact ⟨ck_q_ok mQ_285, mW_285⟩
  | 286, h1, h2 => cases h1; cases h2; exact ⟨ck_q_ok mQ_286, mW_286⟩
  | 287, h1, h2 => cases h1; cases h2; exact ⟨ck_q_ok mQ_287, mW_287⟩
  | 288, h1, h2 => cases h1; cases h2; exact ⟨ck_q_ok mQ_288, mW_288⟩
  | 289, h1, h2 => cases h1; cases h2; exact ⟨ck_q_ok mQ_289, mW_289⟩
  | 290, h1, h2 => cases h1; cases h2; exact ⟨ck_q_ok mQ_290, mW_290⟩
  | 291, h1, h2 => cases h1; cases h2; exact ⟨ck_q_ok mQ_291, mW_291⟩
  | 292, h1, h2 => cases h1; cases h2; exact ⟨ck_q_ok mQ_292, mW_292⟩
  | 293, h1, h2 => cases h1; cases h2; exact ⟨ck_q_ok mQ_293, mW_293⟩
  | 294, h1, h2 => cases h1; cases h2; exact ⟨ck_q_ok mQ_294, mW_294⟩
  | 295, h1, h2 => cases h1; cases h2; exact ⟨ck_q_ok mQ_295, mW_295⟩
  | 296, h1, h2 => cases h1; cases h2; exact ⟨ck_q_ok mQ_296, mW_296⟩
  | 297, h1, h2 => cases h1; cases h2; exact ⟨ck_q_ok mQ_297, mW_297⟩
  | 298, h1, h2 => cases h1; cases h2; exact ⟨ck_q_ok mQ_298, mW_298⟩
  | 299, h1, h2 => cases h1; cases h2; exact ⟨ck_q_ok mQ_299, mW_299⟩
  | 300, h1, h2 => cases h1; cases h2; exact ⟨ck_q_ok mQ_300, mW_300⟩
  | 301, h1, h2 => cases h1; cases h2; exact ⟨ck_q_ok mQ_301, mW_301⟩
  | 302, h1, h2 => cases h1; cases h2; exact ⟨ck_q_ok mQ_302, mW_302⟩
  | 303, h1, h2 => cases h1; cases h2; exact ⟨ck_q_ok mQ_303, mW_303⟩
  | 304, h1, h2 => cases h1; cases h2; exact ⟨ck_q_ok mQ_304, mW_304⟩
  | 305, h1, h2 => cases h1; cases h2; exact ⟨ck_q_ok mQ_305, mW_305⟩
  | 306, h1, h2 => cases h1; cases h2; exact ⟨ck_q_ok mQ_306, mW_306⟩
  | 307, h1, h2 => cases h1; cases h2; exact ⟨ck_q_ok mQ_307, mW_307⟩
  | 308, h1, h2 => cases h1; cases h2; exact ⟨ck_q_ok mQ_308, mW_308⟩
  | 309, h1, h2 => cases h1; cases h2; exact ⟨ck_q_ok mQ_309, mW_309⟩
  | 310, h1, h2 => cases h1; cases h2; exact ⟨ck_q_ok mQ_310, mW_310⟩
  | 311, h1, h2 => cases h1; cases h2; exact ⟨ck_q_ok mQ_311, mW_311⟩
  | 312, h1, h2 => cases h1; cases h2; exact ⟨ck_q_ok mQ_312, mW_312⟩
  | 313, h1, h2 => cases h1; cases h2; exact ⟨ck_q_ok mQ_313, mW_313⟩
  | 314, h1, h2 => cases h1; cases h2; exact ⟨ck_q_ok mQ_314, mW_314⟩
  | 315, h1, h2 => cases h1; cases h2; exact ⟨ck_q_ok mQ_315, mW_315⟩
  | 316, h1, h2 => cases h1; cases h2; exact ⟨ck_q_ok mQ_316, mW_316⟩
  | 317, h1, h2 => cases h1; cases h2; exact ⟨ck_q_ok mQ_317, mW_317⟩
  | 318, h1, h2 => cases h1; cases h2; exact ⟨ck_q_ok mQ_318, mW_318⟩
  | 319, h1, h2 => cases h1; cases h2; exact ⟨ck_q_ok mQ_319, mW_319⟩
  | 320, h1, h2 => cases h1; cases h2; exact ⟨ck_q_ok mQ_320, mW_320⟩
  | 321, h1, h2 => cases h1; cases h2; exact ⟨ck_q_ok mQ_321, mW_321⟩
  | 322, h1, h2 => cases h1; cases h2; exact ⟨ck_q_ok mQ_322, mW_322⟩
  | 323, h1, h2 => cases h1; cases h2; exact ⟨ck_q_ok mQ_323, mW_323⟩
  | 324, h1, h2 => cases h1; cases h2; exact ⟨ck_q_ok mQ_324, mW_324⟩
  | 325, h1, h2 => cases h1; cases h2; exact ⟨ck_q_ok mQ_325, mW_325⟩
  | 326, h1, h2 => cases h1; cases h2; exact ⟨ck_q_ok mQ_326, mW_326⟩
  | 327, h1, h2 => cases h1; cases h2; exact ⟨ck_q_ok mQ_327, mW_327⟩
  | 328, h1, h2 => cases h1; cases h2; exact ⟨ck_q_ok mQ_328, mW_328⟩
  | 329, h1, h2 => cases h1; cases h2; exact ⟨ck_q_ok mQ_329, mW_329⟩
  | 330, h1, h2 => cases h1; cases h2; exact ⟨ck_q_ok mQ_330, mW_330⟩
  | 331, h1, h2 => cases h1; cases h2; exact ⟨ck_q_ok mQ_331, mW_331⟩
  | 332, h1, h2 => cases h1; cases h2; exact ⟨ck_q_ok mQ_332, mW_332⟩
  | 333, h1, h2 => cases h1; cases h2; exact ⟨ck_q_ok mQ_333, mW_333⟩
  | 334, h1, h2 => cases h1; cases h2; exact ⟨ck_q_ok mQ_334, mW_334⟩
  | 335, h1, h2 => cases h1; cases h2; exact ⟨ck_q_ok mQ_335, mW_335⟩
  | 336, h1, h2 => cases h1; cases h2; exact ⟨ck_q_ok mQ_336, mW_336⟩
  | 337, h1, h2 => cases h1; cases h2; exact ⟨ck_q_ok mQ_337, mW_337⟩
  | 338, h1, h2 => cases h1; cases h2; exact ⟨ck_q_ok mQ_338, mW_338⟩
  | 339, h1, h2 => cases h1; cases h2; exact ⟨ck_q_ok mQ_339, mW_339⟩
  | 340, h1, h2 => cases h1; cases h2; exact ⟨ck_q_ok mQ_340, mW_340⟩
  | 341, h1, h2 => cases h1; cases h2; exact ⟨ck_q_ok mQ_341, mW_341⟩
  | 342, h1, h2 => cases h1; cases h2; exact ⟨ck_q_ok mQ_342, mW_342⟩
  | 343, h1, h2 => cases h1; cases h2; exact ⟨ck_q_ok mQ_343, mW_343⟩
  | 344, h1, h2 => cases h1; cases h2; exact ⟨ck_q_ok mQ_344, mW_344⟩
  | 345, h1, h2 => cases h1; cases h2; exact ⟨ck_q_ok mQ_345, mW_345⟩
  | 346, h1, h2 => cases h1; cases h2; exact ⟨ck_q_ok mQ_346, mW_346⟩
  | 347, h1, h2 => cases h1; cases h2; exact ⟨ck_q_ok mQ_347, mW_347⟩
  | 348, h1, h2 => cases h1; cases h2; exact ⟨ck_q_ok mQ_348, mW_348⟩
  | 349, h1, h2 => cases h1; cases h2; exact ⟨ck_q_ok mQ_349, mW_349⟩
  | 350, h1, h2 => cases h1; cases h2; exact ⟨ck_q_ok mQ_350, mW_350⟩
  | 351, h1, h2 => cases h1; cases h2; exact ⟨ck_q_ok mQ_351, mW_351⟩
  | 352, h1, h2 => cases h1; cases h2; exact ⟨ck_q_ok mQ_352, mW_352⟩
  | 353, h1, h2 => cases h1; cases h2; exact ⟨ck_q_ok mQ_353, mW_353⟩
  | 354, h1, h2 => cases h1; cases h2; exact ⟨ck_q_ok mQ_354, mW_354⟩
  | 355, h1, h2 => cases h1; cases h2; exact ⟨ck_q_ok mQ_355, mW_355⟩
  | 356, h1, h2 => cases h1; cases h2; exact ⟨ck_q_ok mQ_356, mW_356⟩
  | 357, h1, h2 => cases h1; cases h2; exact ⟨ck_q_ok mQ_357, mW_357⟩
  | 358, h1, h2 => cases h1; cases h2; exact ⟨ck_q_ok mQ_358, mW_358⟩
  | 359, h1, h2 => cases h1; cases h2; exact ⟨ck_q_ok mQ_359, mW_359⟩
  | 360, h1, h2 => cases h1; cases h2; exact ⟨ck_q_ok mQ_360, mW_360⟩
  | 361, h1, h2 => cases h1; cases h2; exact ⟨ck_q_ok mQ_361, mW_361⟩
  | 362, h1, h2 => cases h1; cases h2; exact ⟨ck_q_ok mQ_362, mW_362⟩
  | 363, h1, h2 => cases h1; cases h2; exact ⟨ck_q_ok mQ_363, mW_363⟩
  | 364, h1, h2 => cases h1; cases h2; exact ⟨ck_q_ok mQ_364, mW_364⟩
  | 365, h1, h2 => cases h1; cases h2; exact ⟨ck_q_ok mQ_365, mW_365⟩
  | 366, h1, h2 => cases h1; cases h2; exact ⟨ck_q_ok mQ_366, mW_366⟩
  | 367, h1, h2 => cases h1; cases h2; exact ⟨ck_q_ok mQ_367, mW_367⟩
  | 368, h1, h2 => cases h1; cases h2; exact ⟨ck_q_ok mQ_368, mW_368⟩
  | 369, h1, h2 => cases h1; cases h2; exact ⟨ck_q_ok mQ_369, mW_369⟩
  | 370, h1, h2 => cases h1; cases h2; exact ⟨ck_q_ok mQ_370, mW_370⟩
  | 371, h1, h2 => cases h1; cases h2; exact ⟨ck_q_ok mQ_371, mW_371⟩
  | 372, h1, h2 => cases h1; cases h2; exact ⟨ck_q_ok mQ_372, mW_372⟩
  | 373, h1, h2 => cases h1; cases h2; exact ⟨ck_q_ok mQ_373, mW_373⟩
  | 374, h1, h2 => cases h1; cases h2; exact ⟨ck_q_ok mQ_374, mW_374⟩
  | 375, h1, h2 => cases h1; cases h2; exact ⟨ck_q_ok mQ_375, mW_375⟩
  | 376, h1, h2 => cases h1; cases h2; exact ⟨ck_q_ok mQ_376, mW_376⟩
  | 377, h1, h2 => cases h1; cases h2; exact ⟨ck_q_ok mQ_377, mW_377⟩
  | 378, h1, h2 => cases h1; cases h2; exact ⟨ck_q_ok mQ_378, mW_378⟩
  | 379, h1, h2 => cases h1; cases h2; exact ⟨ck_q_ok mQ_379, mW_379⟩
  | 380, h1, h2 => cases h1; cases h2; exact ⟨ck_q_ok mQ_380, mW_380⟩
  | 381, h1, h2 => cases h1; cases h2; exact ⟨ck_q_ok mQ_381, mW_381⟩
  | 382, h1, h2 => cases h1; cases h2; exact ⟨ck_q_ok mQ_382, mW_382⟩
  | 383, h1, h2 => cases h1; cases h2; exact ⟨ck_q_ok mQ_383, mW_383⟩
  | 384, h1, h2 => cases h1; cases h2; exact ⟨ck_q_ok mQ_384, mW_384⟩
  | 385, h1, h2 => cases h1; cases h2; exact ⟨ck_q_ok mQ_385, mW_385⟩
  | 386, h1, h2 => cases h1; cases h2; exact ⟨ck_q_ok mQ_386, mW_386⟩
  | 387, h1, h2 => cases h1; cases h2; exact ⟨ck_q_ok mQ_387, mW_387⟩
  | 388, h1, h2 => cases h1; cases h2; exact ⟨ck_q_ok mQ_388, mW_388⟩
  | 389, h1, h2 => cases h1; cases h2; exact ⟨ck_q_ok mQ_389, mW_389⟩
  | 390, h1, h2 => cases h1; cases h2; exact ⟨ck_q_ok mQ_390, mW_390⟩
  | 391, h1, h2 => cases h1; cases h2; exact ⟨ck_q_ok mQ_391, mW_391⟩
  | 392, h1, h2 => cases h1; cases h2; exact ⟨ck_q_ok mQ_392, mW_392⟩
  | 393, h1, h2 => cases h1; cases h2; exact ⟨ck_q_ok mQ_393, mW_393⟩
  | 394, h1, h2 => cases h1; cases h2; exact ⟨ck_q_ok mQ_394, mW_394⟩
  | 395, h1, h2 => cases h1; cases h2; exact ⟨ck_q_ok mQ_395, mW_395⟩
  | 396, h1, h2 => cases h1; cases h2; exact ⟨ck_q_ok mQ_396, mW_396⟩
  | 397, h1, h2 => cases h1; cases h2; exact ⟨ck_q_ok mQ_397, mW_397⟩
  | 398, h1, h2 => cases h1; cases h2; exact ⟨ck_q_ok mQ_398, mW_398⟩
  | 399, h1, h2 => cases h1; cases h2; exact ⟨ck_q_ok mQ_399, mW_399⟩
  | 400, h1, h2 => cases h1; cases h2; exact ⟨ck_q_ok mQ_400, mW_400⟩
  | 401, h1, h2 => cases h1; cases h2; exact ⟨ck_q_ok mQ_401, mW_401⟩
  | 402, h1, h2 => cases h1; cases h2; exact ⟨ck_q_ok mQ_402, mW_402⟩
  | 403, h1, h2 => cases h1; cases h2; exact ⟨ck_q_ok mQ_403, mW_403⟩
  | 404, h1, h2 => cases h1; cases h2; exact ⟨ck_q_ok mQ_404, mW_404⟩
  | 405, h1, h2 => cases h1; cases h2; exact ⟨ck_q_ok mQ_405, mW_405⟩
  | 406, h1, h2 => cases h1; cases h2; exact ⟨ck_q_ok mQ_406, mW_406⟩
  | 407, h1, h2 => cases h1; cases h2; exact ⟨ck_q_ok mQ_407, mW_407⟩
  | 408, h1, h2 => cases h1; cases h2; exact ⟨ck_q_ok mQ_408, mW_408⟩
  | 409, h1, h2 => cases h1; cases h2; exact ⟨ck_q_ok mQ_409, mW_409⟩
  | 410, h1, h2 => cases h1; cases h2; exact ⟨ck_q_ok mQ_410, mW_410⟩
  | 411, h1, h2 => cases h1; cases h2; exact ⟨ck_q_ok mQ_411, mW_411⟩
  | 412, h1, h2 => cases h1; cases h2; exact ⟨ck_q_ok mQ_412, mW_412⟩
  | 413, h1, h2 => cases h1; cases h2; exact ⟨ck_q_ok mQ_413, mW_413⟩
  | 414, h1, h2 => cases h1; cases h2; exact ⟨ck_q_ok mQ_414, mW_414⟩
  | 415, h1, h2 => cases h1; cases h2; exact ⟨ck_q_ok mQ_415, mW_415⟩
  | 416, h1, h2 => cases h1; cases h2; exact ⟨ck_q_ok mQ_416, mW_416⟩
  | 417, h1, h2 => cases h1; cases h2; exact ⟨ck_q_ok mQ_417, mW_417⟩
  | 418, h1, h2 => cases h1; cases h2; exact ⟨ck_q_ok mQ_418, mW_418⟩
  | 419, h1, h2 => cases h1; cases h2; exact ⟨ck_q_ok mQ_419, mW_419⟩
  | 420, h1, h2 => cases h1; cases h2; exact ⟨ck_q_ok mQ_420, mW_420⟩
  | 421, h1, h2 => cases h1; cases h2; exact ⟨ck_q_ok mQ_421, mW_421⟩
  | 422, h1, h2 => cases h1; cases h2; exact ⟨ck_q_ok mQ_422, mW_422⟩
  | 423, h1, h2 => cases h1; cases h2; exact ⟨ck_q_ok mQ_423, mW_423⟩
  | 424, h1, h2 => cases h1; cases h2; exact ⟨ck_q_ok mQ_424, mW_424⟩
  | 425, h1, h2 => cases h1; cases h2; exact ⟨ck_q_ok mQ_425, mW_425⟩
  | 426, h1, h2 => cases h1; cases h2; exact ⟨ck_q_ok mQ_426, mW_426⟩
  | 427, h1, h2 => cases h1; cases h2; exact ⟨ck_q_ok mQ_427, mW_427⟩
  | 428, h1, h2 => cases h1; cases h2; exact ⟨ck_q_ok mQ_428, mW_428⟩
  | 429, h1, h2 => cases h1; cases h2; exact ⟨ck_q_ok mQ_429, mW_429⟩
  | 430, h1, h2 => cases h1; cases h2; exact ⟨ck_q_ok mQ_430, mW_430⟩
  | 431, h1, h2 => cases h1; cases h2; exact ⟨ck_q_ok mQ_431, mW_431⟩
  | 432, h1, h2 => cases h1; cases h2; exact ⟨ck_q_ok mQ_432, mW_432⟩
  | 433, h1, h2 => cases h1; cases h2; exact ⟨ck_q_ok mQ_433, mW_433⟩
  | 434, h1, h2 => cases h1; cases h2; exact ⟨ck_q_ok mQ_434, mW_434⟩
  | 435, h1, h2 => cases h1; cases h2; exact ⟨ck_q_ok mQ_435, mW_435⟩
  | n + 436, h1, h2 => cases h1
theorem mP_0 (xs : List Int32) : mi_P xs 0 mG_0 := ck_m_ok2 (Ls := mK_0) (by decide +kernel) mO_0 (by decide +kernel) mD_0 rfl rfl mK_0_ok mi_hq
theorem mP_1 (xs : List Int32) : mi_P xs 1 mG_1 := ck_m_ok2 (Ls := mK_1) (by decide +kernel) mO_1 (by decide +kernel) mD_1 rfl rfl mK_1_ok mi_hq
theorem mP_2 (xs : List Int32) : mi_P xs 2 mG_2 := ck_m_ok2 (Ls := mK_1) (by decide +kernel) mO_2 (by decide +kernel) mD_2 rfl rfl mK_1_ok mi_hq
theorem mP_3 (xs : List Int32) : mi_P xs 3 mG_3 := ck_m_ok2 (Ls := mK_1) (by decide +kernel) mO_3 (by decide +kernel) mD_3 rfl rfl mK_1_ok mi_hq
theorem mP_4 (xs : List Int32) : mi_P xs 4 mG_4 := ck_m_ok2 (Ls := mK_1) (by decide +kernel) mO_4 (by decide +kernel) mD_4 rfl rfl mK_1_ok mi_hq
theorem mP_5 (xs : List Int32) : mi_P xs 5 mG_5 := ck_m_ok2 (Ls := mK_1) (by decide +kernel) mO_5 (by decide +kernel) mD_5 rfl rfl mK_1_ok mi_hq
theorem mP_6 (xs : List Int32) : mi_P xs 6 mG_6 := ck_m_ok2 (Ls := mK_2) (by decide +kernel) mO_6 (by decide +kernel) mD_6 rfl rfl mK_2_ok mi_hq
theorem mP_7 (xs : List Int32) : mi_P xs 7 mG_7 := ck_m_ok2 (Ls := mK_2) (by decide +kernel) mO_7 (by decide +kernel) mD_7 rfl rfl mK_2_ok mi_hq
theorem mP_8 (xs : List Int32) : mi_P xs 8 mG_8 := ck_m_ok2 (Ls := mK_3) (by decide +kernel) mO_8 (by decide +kernel) mD_8 rfl rfl mK_3_ok mi_hq
theorem mP_9 (xs : List Int32) : mi_P xs 9 mG_9 := ck_m_ok2 (Ls := mK_4) (by decide +kernel) mO_9 (by decide +kernel) mD_9 rfl rfl mK_4_ok mi_hq
theorem mP_10 (xs : List Int32) : mi_P xs 10 mG_10 := ck_m_ok2 (Ls := mK_5) (by decide +kernel) mO_10 (by decide +kernel) mD_10 rfl rfl mK_5_ok mi_hq
theorem mP_11 (xs : List Int32) : mi_P xs 11 mG_11 := ck_m_ok2 (Ls := mK_5) (by decide +kernel) mO_11 (by decide +kernel) mD_11 rfl rfl mK_5_ok mi_hq
theorem mP_12 (xs : List Int32) : mi_P xs 12 mG_12 := ck_m_ok2 (Ls := mK_5) (by decide +kernel) mO_12 (by decide +kernel) mD_12 rfl rfl mK_5_ok mi_hq
theorem mP_13 (xs : List Int32) : mi_P xs 13 mG_13 := ck_m_ok2 (Ls := mK_6) (by decide +kernel) mO_13 (by decide +kernel) mD_13 rfl rfl mK_6_ok mi_hq
theorem mP_14 (xs : List Int32) : mi_P xs 14 mG_14 := ck_m_ok2 (Ls := mK_6) (by decide +kernel) mO_14 (by decide +kernel) mD_14 rfl rfl mK_6_ok mi_hq
theorem mP_15 (xs : List Int32) : mi_P xs 15 mG_15 := ck_m_ok2 (Ls := mK_7) (by decide +kernel) mO_15 (by decide +kernel) mD_15 rfl rfl mK_7_ok mi_hq
theorem mP_16 (xs : List Int32) : mi_P xs 16 mG_16 := ck_m_ok2 (Ls := mK_7) (by decide +kernel) mO_16 (by decide +kernel) mD_16 rfl rfl mK_7_ok mi_hq
theorem mP_17 (xs : List Int32) : mi_P xs 17 mG_17 := ck_m_ok2 (Ls := mK_7) (by decide +kernel) mO_17 (by decide +kernel) mD_17 rfl rfl mK_7_ok mi_hq
theorem mP_18 (xs : List Int32) : mi_P xs 18 mG_18 := ck_m_ok2 (Ls := mK_7) (by decide +kernel) mO_18 (by decide +kernel) mD_18 rfl rfl mK_7_ok mi_hq
theorem mP_19 (xs : List Int32) : mi_P xs 19 mG_19 := ck_m_ok2 (Ls := mK_7) (by decide +kernel) mO_19 (by decide +kernel) mD_19 rfl rfl mK_7_ok mi_hq
theorem mP_20 (xs : List Int32) : mi_P xs 20 mG_20 := ck_m_ok2 (Ls := mK_8) (by decide +kernel) mO_20 (by decide +kernel) mD_20 rfl rfl mK_8_ok mi_hq
theorem mP_21 (xs : List Int32) : mi_P xs 21 mG_21 := ck_m_ok2 (Ls := mK_8) (by decide +kernel) mO_21 (by decide +kernel) mD_21 rfl rfl mK_8_ok mi_hq
theorem mP_22 (xs : List Int32) : mi_P xs 22 mG_22 := ck_m_ok2 (Ls := mK_8) (by decide +kernel) mO_22 (by decide +kernel) mD_22 rfl rfl mK_8_ok mi_hq
theorem mP_23 (xs : List Int32) : mi_P xs 23 mG_23 := ck_m_ok2 (Ls := mK_8) (by decide +kernel) mO_23 (by decide +kernel) mD_23 rfl rfl mK_8_ok mi_hq
theorem mP_24 (xs : List Int32) : mi_P xs 24 mG_24 := ck_m_ok2 (Ls := mK_8i) (by decide +kernel) mO_24 (by decide +kernel) mD_24 rfl rfl mK_8i_ok mi_hq
theorem mP_25 (xs : List Int32) : mi_P xs 25 mG_25 := ck_m_ok2 (Ls := mK_8) (by decide +kernel) mO_25 (by decide +kernel) mD_25 rfl rfl mK_8_ok mi_hq
theorem mP_26 (xs : List Int32) : mi_P xs 26 mG_26 := ck_m_ok2 (Ls := mK_8) (by decide +kernel) mO_26 (by decide +kernel) mD_26 rfl rfl mK_8_ok mi_hq
theorem mP_27 (xs : List Int32) : mi_P xs 27 mG_27 := ck_m_ok2 (Ls := mK_8) (by decide +kernel) mO_27 (by decide +kernel) mD_27 rfl rfl mK_8_ok mi_hq
theorem mP_28 (xs : List Int32) : mi_P xs 28 mG_28 := ck_m_ok2 (Ls := mK_8) (by decide +kernel) mO_28 (by decide +kernel) mD_28 rfl rfl mK_8_ok mi_hq
theorem mP_29 (xs : List Int32) : mi_P xs 29 mG_29 := ck_m_ok2 (Ls := mK_8) (by decide +kernel) mO_29 (by decide +kernel) mD_29 rfl rfl mK_8_ok mi_hq
theorem mP_30 (xs : List Int32) : mi_P xs 30 mG_30 := ck_m_ok2 (Ls := mK_8) (by decide +kernel) mO_30 (by decide +kernel) mD_30 rfl rfl mK_8_ok mi_hq
theorem mP_31 (xs : List Int32) : mi_P xs 31 mG_31 := ck_m_ok2 (Ls := mK_9) (by decide +kernel) mO_31 (by decide +kernel) mD_31 rfl rfl mK_9_ok mi_hq
theorem mP_32 (xs : List Int32) : mi_P xs 32 mG_32 := ck_m_ok2 (Ls := mK_9) (by decide +kernel) mO_32 (by decide +kernel) mD_32 rfl rfl mK_9_ok mi_hq
theorem mP_33 (xs : List Int32) : mi_P xs 33 mG_33 := ck_m_ok2 (Ls := mK_9) (by decide +kernel) mO_33 (by decide +kernel) mD_33 rfl rfl mK_9_ok mi_hq
theorem mP_34 (xs : List Int32) : mi_P xs 34 mG_34 := ck_m_ok2 (Ls := mK_9) (by decide +kernel) mO_34 (by decide +kernel) mD_34 rfl rfl mK_9_ok mi_hq
theorem mP_35 (xs : List Int32) : mi_P xs 35 mG_35 := ck_m_ok2 (Ls := mK_9) (by decide +kernel) mO_35 (by decide +kernel) mD_35 rfl rfl mK_9_ok mi_hq
theorem mP_36 (xs : List Int32) : mi_P xs 36 mG_36 := ck_m_ok2 (Ls := mK_9) (by decide +kernel) mO_36 (by decide +kernel) mD_36 rfl rfl mK_9_ok mi_hq
theorem mP_37 (xs : List Int32) : mi_P xs 37 mG_37 := ck_m_ok2 (Ls := mK_9) (by decide +kernel) mO_37 (by decide +kernel) mD_37 rfl rfl mK_9_ok mi_hq
theorem mP_38 (xs : List Int32) : mi_P xs 38 mG_38 := ck_m_ok2 (Ls := mK_9i) (by decide +kernel) mO_38 (by decide +kernel) mD_38 rfl rfl mK_9i_ok mi_hq
theorem mP_39 (xs : List Int32) : mi_P xs 39 mG_39 := ck_m_ok2 (Ls := mK_9) (by decide +kernel) mO_39 (by decide +kernel) mD_39 rfl rfl mK_9_ok mi_hq
theorem mP_40 (xs : List Int32) : mi_P xs 40 mG_40 := ck_m_ok2 (Ls := mK_9) (by decide +kernel) mO_40 (by decide +kernel) mD_40 rfl rfl mK_9_ok mi_hq
theorem mP_41 (xs : List Int32) : mi_P xs 41 mG_41 := ck_m_ok2 (Ls := mK_9) (by decide +kernel) mO_41 (by decide +kernel) mD_41 rfl rfl mK_9_ok mi_hq
theorem mP_42 (xs : List Int32) : mi_P xs 42 mG_42 := ck_m_ok2 (Ls := mK_9) (by decide +kernel) mO_42 (by decide +kernel) mD_42 rfl rfl mK_9_ok mi_hq
theorem mP_43 (xs : List Int32) : mi_P xs 43 mG_43 := ck_m_ok2 (Ls := mK_9) (by decide +kernel) mO_43 (by decide +kernel) mD_43 rfl rfl mK_9_ok mi_hq
theorem mP_44 (xs : List Int32) : mi_P xs 44 mG_44 := ck_m_ok2 (Ls := mK_9) (by decide +kernel) mO_44 (by decide +kernel) mD_44 rfl rfl mK_9_ok mi_hq
theorem mP_45 (xs : List Int32) : mi_P xs 45 mG_45 := ck_m_ok2 (Ls := mK_9) (by decide +kernel) mO_45 (by decide +kernel) mD_45 rfl rfl mK_9_ok mi_hq
theorem mP_46 (xs : List Int32) : mi_P xs 46 mG_46 := ck_m_ok2 (Ls := mK_9) (by decide +kernel) mO_46 (by decide +kernel) mD_46 rfl rfl mK_9_ok mi_hq
theorem mP_47 (xs : List Int32) : mi_P xs 47 mG_47 := ck_m_ok2 (Ls := mK_9) (by decide +kernel) mO_47 (by decide +kernel) mD_47 rfl rfl mK_9_ok mi_hq
theorem mP_48 (xs : List Int32) : mi_P xs 48 mG_48 := ck_m_ok2 (Ls := mK_9) (by decide +kernel) mO_48 (by decide +kernel) mD_48 rfl rfl mK_9_ok mi_hq
theorem mP_49 (xs : List Int32) : mi_P xs 49 mG_49 := ck_m_ok2 (Ls := mK_9) (by decide +kernel) mO_49 (by decide +kernel) mD_49 rfl rfl mK_9_ok mi_hq
theorem mP_50 (xs : List Int32) : mi_P xs 50 mG_50 := ck_m_ok2 (Ls := mK_9) (by decide +kernel) mO_50 (by decide +kernel) mD_50 rfl rfl mK_9_ok mi_hq
theorem mP_51 (xs : List Int32) : mi_P xs 51 mG_51 := ck_m_ok2 (Ls := mK_9) (by decide +kernel) mO_51 (by decide +kernel) mD_51 rfl rfl mK_9_ok mi_hq
theorem mP_52 (xs : List Int32) : mi_P xs 52 mG_52 := ck_m_ok2 (Ls := mK_10) (by decide +kernel) mO_52 (by decide +kernel) mD_52 rfl rfl mK_10_ok mi_hq
theorem mP_53 (xs : List Int32) : mi_P xs 53 mG_53 := ck_m_ok2 (Ls := mK_10) (by decide +kernel) mO_53 (by decide +kernel) mD_53 rfl rfl mK_10_ok mi_hq
theorem mP_54 (xs : List Int32) : mi_P xs 54 mG_54 := ck_m_ok2 (Ls := mK_10) (by decide +kernel) mO_54 (by decide +kernel) mD_54 rfl rfl mK_10_ok mi_hq
theorem mP_55 (xs : List Int32) : mi_P xs 55 mG_55 := ck_m_ok2 (Ls := mK_10) (by decide +kernel) mO_55 (by decide +kernel) mD_55 rfl rfl mK_10_ok mi_hq
theorem mP_56 (xs : List Int32) : mi_P xs 56 mG_56 := ck_m_ok2 (Ls := mK_10) (by decide +kernel) mO_56 (by decide +kernel) mD_56 rfl rfl mK_10_ok mi_hq
theorem mP_57 (xs : List Int32) : mi_P xs 57 mG_57 := ck_m_ok2 (Ls := mK_10) (by decide +kernel) mO_57 (by decide +kernel) mD_57 rfl rfl mK_10_ok mi_hq
theorem mP_58 (xs : List Int32) : mi_P xs 58 mG_58 := ck_m_ok2 (Ls := mK_10) (by decide +kernel) mO_58 (by decide +kernel) mD_58 rfl rfl mK_10_ok mi_hq
theorem mP_59 (xs : List Int32) : mi_P xs 59 mG_59 := ck_m_ok2 (Ls := mK_10) (by decide +kernel) mO_59 (by decide +kernel) mD_59 rfl rfl mK_10_ok mi_hq
theorem mP_60 (xs : List Int32) : mi_P xs 60 mG_60 := ck_m_ok2 (Ls := mK_10) (by decide +kernel) mO_60 (by decide +kernel) mD_60 rfl rfl mK_10_ok mi_hq
theorem mP_61 (xs : List Int32) : mi_P xs 61 mG_61 := ck_m_ok2 (Ls := mK_10) (by decide +kernel) mO_61 (by decide +kernel) mD_61 rfl rfl mK_10_ok mi_hq
theorem mP_62 (xs : List Int32) : mi_P xs 62 mG_62 := ck_m_ok2 (Ls := mK_10i) (by decide +kernel) mO_62 (by decide +kernel) mD_62 rfl rfl mK_10i_ok mi_hq
theorem mP_63 (xs : List Int32) : mi_P xs 63 mG_63 := ck_m_ok2 (Ls := mK_10) (by decide +kernel) mO_63 (by decide +kernel) mD_63 rfl rfl mK_10_ok mi_hq
theorem mP_64 (xs : List Int32) : mi_P xs 64 mG_64 := ck_m_ok2 (Ls := mK_10) (by decide +kernel) mO_64 (by decide +kernel) mD_64 rfl rfl mK_10_ok mi_hq
theorem mP_65 (xs : List Int32) : mi_P xs 65 mG_65 := ck_m_ok2 (Ls := mK_10) (by decide +kernel) mO_65 (by decide +kernel) mD_65 rfl rfl mK_10_ok mi_hq
theorem mP_66 (xs : List Int32) : mi_P xs 66 mG_66 := ck_m_ok2 (Ls := mK_10) (by decide +kernel) mO_66 (by decide +kernel) mD_66 rfl rfl mK_10_ok mi_hq
theorem mP_67 (xs : List Int32) : mi_P xs 67 mG_67 := ck_m_ok2 (Ls := mK_10) (by decide +kernel) mO_67 (by decide +kernel) mD_67 rfl rfl mK_10_ok mi_hq
theorem mP_68 (xs : List Int32) : mi_P xs 68 mG_68 := ck_m_ok2 (Ls := mK_10) (by decide +kernel) mO_68 (by decide +kernel) mD_68 rfl rfl mK_10_ok mi_hq
theorem mP_69 (xs : List Int32) : mi_P xs 69 mG_69 := ck_m_ok2 (Ls := mK_10) (by decide +kernel) mO_69 (by decide +kernel) mD_69 rfl rfl mK_10_ok mi_hq
theorem mP_70 (xs : List Int32) : mi_P xs 70 mG_70 := ck_m_ok2 (Ls := mK_10) (by decide +kernel) mO_70 (by decide +kernel) mD_70 rfl rfl mK_10_ok mi_hq
theorem mP_71 (xs : List Int32) : mi_P xs 71 mG_71 := ck_m_ok2 (Ls := mK_10) (by decide +kernel) mO_71 (by decide +kernel) mD_71 rfl rfl mK_10_ok mi_hq
theorem mP_72 (xs : List Int32) : mi_P xs 72 mG_72 := ck_m_ok2 (Ls := mK_10) (by decide +kernel) mO_72 (by decide +kernel) mD_72 rfl rfl mK_10_ok mi_hq
theorem mP_73 (xs : List Int32) : mi_P xs 73 mG_73 := ck_m_ok2 (Ls := mK_10) (by decide +kernel) mO_73 (by decide +kernel) mD_73 rfl rfl mK_10_ok mi_hq
theorem mP_74 (xs : List Int32) : mi_P xs 74 mG_74 := ck_m_ok2 (Ls := mK_10) (by decide +kernel) mO_74 (by decide +kernel) mD_74 rfl rfl mK_10_ok mi_hq
theorem mP_75 (xs : List Int32) : mi_P xs 75 mG_75 := ck_m_ok2 (Ls := mK_10) (by decide +kernel) mO_75 (by decide +kernel) mD_75 rfl rfl mK_10_ok mi_hq
theorem mP_76 (xs : List Int32) : mi_P xs 76 mG_76 := ck_m_ok2 (Ls := mK_10) (by decide +kernel) mO_76 (by decide +kernel) mD_76 rfl rfl mK_10_ok mi_hq
theorem mP_77 (xs : List Int32) : mi_P xs 77 mG_77 := ck_m_ok2 (Ls := mK_10) (by decide +kernel) mO_77 (by decide +kernel) mD_77 rfl rfl mK_10_ok mi_hq
theorem mP_78 (xs : List Int32) : mi_P xs 78 mG_78 := ck_m_ok2 (Ls := mK_10) (by decide +kernel) mO_78 (by decide +kernel) mD_78 rfl rfl mK_10_ok mi_hq
theorem mP_79 (xs : List Int32) : mi_P xs 79 mG_79 := ck_m_ok2 (Ls := mK_10) (by decide +kernel) mO_79 (by decide +kernel) mD_79 rfl rfl mK_10_ok mi_hq
theorem mP_80 (xs : List Int32) : mi_P xs 80 mG_80 := ck_m_ok2 (Ls := mK_11i) (by decide +kernel) mO_80 (by decide +kernel) mD_80 rfl rfl mK_11i_ok mi_hq
theorem mP_81 (xs : List Int32) : mi_P xs 81 mG_81 := ck_m_ok2 (Ls := mK_12) (by decide +kernel) mO_81 (by decide +kernel) mD_81 rfl rfl mK_12_ok mi_hq
theorem mP_82 (xs : List Int32) : mi_P xs 82 mG_82 := ck_m_ok2 (Ls := mK_12) (by decide +kernel) mO_82 (by decide +kernel) mD_82 rfl rfl mK_12_ok mi_hq
theorem mP_83 (xs : List Int32) : mi_P xs 83 mG_83 := ck_m_ok2 (Ls := mK_12) (by decide +kernel) mO_83 (by decide +kernel) mD_83 rfl rfl mK_12_ok mi_hq
theorem mP_84 (xs : List Int32) : mi_P xs 84 mG_84 := ck_m_ok2 (Ls := mK_12) (by decide +kernel) mO_84 (by decide +kernel) mD_84 rfl rfl mK_12_ok mi_hq
theorem mP_85 (xs : List Int32) : mi_P xs 85 mG_85 := ck_m_ok2 (Ls := mK_12) (by decide +kernel) mO_85 (by decide +kernel) mD_85 rfl rfl mK_12_ok mi_hq
theorem mP_86 (xs : List Int32) : mi_P xs 86 mG_86 := ck_m_ok2 (Ls := mK_12) (by decide +kernel) mO_86 (by decide +kernel) mD_86 rfl rfl mK_12_ok mi_hq
theorem mP_87 (xs : List Int32) : mi_P xs 87 mG_87 := ck_m_ok2 (Ls := mK_12) (by decide +kernel) mO_87 (by decide +kernel) mD_87 rfl rfl mK_12_ok mi_hq
theorem mP_88 (xs : List Int32) : mi_P xs 88 mG_88 := ck_m_ok2 (Ls := mK_12) (by decide +kernel) mO_88 (by decide +kernel) mD_88 rfl rfl mK_12_ok mi_hq
theorem mP_89 (xs : List Int32) : mi_P xs 89 mG_89 := ck_m_ok2 (Ls := mK_12) (by decide +kernel) mO_89 (by decide +kernel) mD_89 rfl rfl mK_12_ok mi_hq
theorem mP_90 (xs : List Int32) : mi_P xs 90 mG_90 := ck_m_ok2 (Ls := mK_12) (by decide +kernel) mO_90 (by decide +kernel) mD_90 rfl rfl mK_12_ok mi_hq
theorem mP_91 (xs : List Int32) : mi_P xs 91 mG_91 := ck_m_ok2 (Ls := mK_12) (by decide +kernel) mO_91 (by decide +kernel) mD_91 rfl rfl mK_12_ok mi_hq
theorem mP_92 (xs : List Int32) : mi_P xs 92 mG_92 := ck_m_ok2 (Ls := mK_12) (by decide +kernel) mO_92 (by decide +kernel) mD_92 rfl rfl mK_12_ok mi_hq
theorem mP_93 (xs : List Int32) : mi_P xs 93 mG_93 := ck_m_ok2 (Ls := mK_12) (by decide +kernel) mO_93 (by decide +kernel) mD_93 rfl rfl mK_12_ok mi_hq
theorem mP_94 (xs : List Int32) : mi_P xs 94 mG_94 := ck_m_ok2 (Ls := mK_12) (by decide +kernel) mO_94 (by decide +kernel) mD_94 rfl rfl mK_12_ok mi_hq
theorem mP_95 (xs : List Int32) : mi_P xs 95 mG_95 := ck_m_ok2 (Ls := mK_12) (by decide +kernel) mO_95 (by decide +kernel) mD_95 rfl rfl mK_12_ok mi_hq
theorem mP_96 (xs : List Int32) : mi_P xs 96 mG_96 := ck_m_ok2 (Ls := mK_12) (by decide +kernel) mO_96 (by decide +kernel) mD_96 rfl rfl mK_12_ok mi_hq
theorem mP_97 (xs : List Int32) : mi_P xs 97 mG_97 := ck_m_ok2 (Ls := mK_12) (by decide +kernel) mO_97 (by decide +kernel) mD_97 rfl rfl mK_12_ok mi_hq
theorem mP_98 (xs : List Int32) : mi_P xs 98 mG_98 := ck_m_ok2 (Ls := mK_12) (by decide +kernel) mO_98 (by decide +kernel) mD_98 rfl rfl mK_12_ok mi_hq
theorem mP_99 (xs : List Int32) : mi_P xs 99 mG_99 := ck_m_ok2 (Ls := mK_12) (by decide +kernel) mO_99 (by decide +kernel) mD_99 rfl rfl mK_12_ok mi_hq
theorem mP_100 (xs : List Int32) : mi_P xs 100 mG_100 := ck_m_ok2 (Ls := mK_12) (by decide +kernel) mO_100 (by decide +kernel) mD_100 rfl rfl mK_12_ok mi_hq
theorem mP_101 (xs : List Int32) : mi_P xs 101 mG_101 := ck_m_ok2 (Ls := mK_12) (by decide +kernel) mO_101 (by decide +kernel) mD_101 rfl rfl mK_12_ok mi_hq
theorem mP_102 (xs : List Int32) : mi_P xs 102 mG_102 := ck_m_ok2 (Ls := mK_12) (by decide +kernel) mO_102 (by decide +kernel) mD_102 rfl rfl mK_12_ok mi_hq
theorem mP_103 (xs : List Int32) : mi_P xs 103 mG_103 := ck_m_ok2 (Ls := mK_12) (by decide +kernel) mO_103 (by decide +kernel) mD_103 rfl rfl mK_12_ok mi_hq
theorem mP_104 (xs : List Int32) : mi_P xs 104 mG_104 := ck_m_ok2 (Ls := mK_12) (by decide +kernel) mO_104 (by decide +kernel) mD_104 rfl rfl mK_12_ok mi_hq
theorem mP_105 (xs : List Int32) : mi_P xs 105 mG_105 := ck_m_ok2 (Ls := mK_12) (by decide +kernel) mO_105 (by decide +kernel) mD_105 rfl rfl mK_12_ok mi_hq
theorem mP_106 (xs : List Int32) : mi_P xs 106 mG_106 := ck_m_ok2 (Ls := mK_12) (by decide +kernel) mO_106 (by decide +kernel) mD_106 rfl rfl mK_12_ok mi_hq
theorem mP_107 (xs : List Int32) : mi_P xs 107 mG_107 := ck_m_ok2 (Ls := mK_12) (by decide +kernel) mO_107 (by decide +kernel) mD_107 rfl rfl mK_12_ok mi_hq
theorem mP_108 (xs : List Int32) : mi_P xs 108 mG_108 := ck_m_ok2 (Ls := mK_12) (by decide +kernel) mO_108 (by decide +kernel) mD_108 rfl rfl mK_12_ok mi_hq
theorem mP_109 (xs : List Int32) : mi_P xs 109 mG_109 := ck_m_ok2 (Ls := mK_12) (by decide +kernel) mO_109 (by decide +kernel) mD_109 rfl rfl mK_12_ok mi_hq
theorem mP_110 (xs : List Int32) : mi_P xs 110 mG_110 := ck_m_ok2 (Ls := mK_12) (by decide +kernel) mO_110 (by decide +kernel) mD_110 rfl rfl mK_12_ok mi_hq
theorem mP_111 (xs : List Int32) : mi_P xs 111 mG_111 := ck_m_ok2 (Ls := mK_12) (by decide +kernel) mO_111 (by decide +kernel) mD_111 rfl rfl mK_12_ok mi_hq
theorem mP_112 (xs : List Int32) : mi_P xs 112 mG_112 := ck_m_ok2 (Ls := mK_12) (by decide +kernel) mO_112 (by decide +kernel) mD_112 rfl rfl mK_12_ok mi_hq
theorem mP_113 (xs : List Int32) : mi_P xs 113 mG_113 := ck_m_ok2 (Ls := mK_12) (by decide +kernel) mO_113 (by decide +kernel) mD_113 rfl rfl mK_12_ok mi_hq
theorem mP_114 (xs : List Int32) : mi_P xs 114 mG_114 := ck_m_ok2 (Ls := mK_12) (by decide +kernel) mO_114 (by decide +kernel) mD_114 rfl rfl mK_12_ok mi_hq
theorem mP_115 (xs : List Int32) : mi_P xs 115 mG_115 := ck_m_ok2 (Ls := mK_12) (by decide +kernel) mO_115 (by decide +kernel) mD_115 rfl rfl mK_12_ok mi_hq
theorem mP_116 (xs : List Int32) : mi_P xs 116 mG_116 := ck_m_ok2 (Ls := mK_12) (by decide +kernel) mO_116 (by decide +kernel) mD_116 rfl rfl mK_12_ok mi_hq
theorem mP_117 (xs : List Int32) : mi_P xs 117 mG_117 := ck_m_ok2 (Ls := mK_12) (by decide +kernel) mO_117 (by decide +kernel) mD_117 rfl rfl mK_12_ok mi_hq
theorem mP_118 (xs : List Int32) : mi_P xs 118 mG_118 := ck_m_ok2 (Ls := mK_12) (by decide +kernel) mO_118 (by decide +kernel) mD_118 rfl rfl mK_12_ok mi_hq
theorem mP_119 (xs : List Int32) : mi_P xs 119 mG_119 := ck_m_ok2 (Ls := mK_12) (by decide +kernel) mO_119 (by decide +kernel) mD_119 rfl rfl mK_12_ok mi_hq
theorem mP_120 (xs : List Int32) : mi_P xs 120 mG_120 := ck_m_ok2 (Ls := mK_12) (by decide +kernel) mO_120 (by decide +kernel) mD_120 rfl rfl mK_12_ok mi_hq
theorem mP_121 (xs : List Int32) : mi_P xs 121 mG_121 := ck_m_ok2 (Ls := mK_12) (by decide +kernel) mO_121 (by decide +kernel) mD_121 rfl rfl mK_12_ok mi_hq
theorem mP_122 (xs : List Int32) : mi_P xs 122 mG_122 := ck_m_ok2 (Ls := mK_12) (by decide +kernel) mO_122 (by decide +kernel) mD_122 rfl rfl mK_12_ok mi_hq
theorem mP_123 (xs : List Int32) : mi_P xs 123 mG_123 := ck_m_ok2 (Ls := mK_12) (by decide +kernel) mO_123 (by decide +kernel) mD_123 rfl rfl mK_12_ok mi_hq
theorem mP_124 (xs : List Int32) : mi_P xs 124 mG_124 := ck_m_ok2 (Ls := mK_12) (by decide +kernel) mO_124 (by decide +kernel) mD_124 rfl rfl mK_12_ok mi_hq
theorem mP_125 (xs : List Int32) : mi_P xs 125 mG_125 := ck_m_ok2 (Ls := mK_12) (by decide +kernel) mO_125 (by decide +kernel) mD_125 rfl rfl mK_12_ok mi_hq
theorem mP_126 (xs : List Int32) : mi_P xs 126 mG_126 := ck_m_ok2 (Ls := mK_12) (by decide +kernel) mO_126 (by decide +kernel) mD_126 rfl rfl mK_12_ok mi_hq
theorem mP_127 (xs : List Int32) : mi_P xs 127 mG_127 := ck_m_ok2 (Ls := mK_12) (by decide +kernel) mO_127 (by decide +kernel) mD_127 rfl rfl mK_12_ok mi_hq
theorem mP_128 (xs : List Int32) : mi_P xs 128 mG_128 := ck_m_ok2 (Ls := mK_12) (by decide +kernel) mO_128 (by decide +kernel) mD_128 rfl rfl mK_12_ok mi_hq
theorem mP_129 (xs : List Int32) : mi_P xs 129 mG_129 := ck_m_ok2 (Ls := mK_12) (by decide +kernel) mO_129 (by decide +kernel) mD_129 rfl rfl mK_12_ok mi_hq
theorem mP_130 (xs : List Int32) : mi_P xs 130 mG_130 := ck_m_ok2 (Ls := mK_12) (by decide +kernel) mO_130 (by decide +kernel) mD_130 rfl rfl mK_12_ok mi_hq
theorem mP_131 (xs : List Int32) : mi_P xs 131 mG_131 := ck_m_ok2 (Ls := mK_12) (by decide +kernel) mO_131 (by decide +kernel) mD_131 rfl rfl mK_12_ok mi_hq
theorem mP_132 (xs : List Int32) : mi_P xs 132 mG_132 := ck_m_ok2 (Ls := mK_12) (by decide +kernel) mO_132 (by decide +kernel) mD_132 rfl rfl mK_12_ok mi_hq
theorem mP_133 (xs : List Int32) : mi_P xs 133 mG_133 := ck_m_ok2 (Ls := mK_12) (by decide +kernel) mO_133 (by decide +kernel) mD_133 rfl rfl mK_12_ok mi_hq
theorem mP_134 (xs : List Int32) : mi_P xs 134 mG_134 := ck_m_ok2 (Ls := mK_12) (by decide +kernel) mO_134 (by decide +kernel) mD_134 rfl rfl mK_12_ok mi_hq
theorem mP_135 (xs : List Int32) : mi_P xs 135 mG_135 := ck_m_ok2 (Ls := mK_12) (by decide +kernel) mO_135 (by decide +kernel) mD_135 rfl rfl mK_12_ok mi_hq
theorem mP_136 (xs : List Int32) : mi_P xs 136 mG_136 := ck_m_ok2 (Ls := mK_12i) (by decide +kernel) mO_136 (by decide +kernel) mD_136 rfl rfl mK_12i_ok mi_hq
theorem mP_137 (xs : List Int32) : mi_P xs 137 mG_137 := ck_m_ok2 (Ls := mK_12) (by decide +kernel) mO_137 (by decide +kernel) mD_137 rfl rfl mK_12_ok mi_hq
theorem mP_138 (xs : List Int32) : mi_P xs 138 mG_138 := ck_m_ok2 (Ls := mK_12) (by decide +kernel) mO_138 (by decide +kernel) mD_138 rfl rfl mK_12_ok mi_hq
theorem mP_139 (xs : List Int32) : mi_P xs 139 mG_139 := ck_m_ok2 (Ls := mK_12) (by decide +kernel) mO_139 (by decide +kernel) mD_139 rfl rfl mK_12_ok mi_hq
theorem mP_140 (xs : List Int32) : mi_P xs 140 mG_140 := ck_m_ok2 (Ls := mK_12) (by decide +kernel) mO_140 (by decide +kernel) mD_140 rfl rfl mK_12_ok mi_hq
theorem mP_141 (xs : List Int32) : mi_P xs 141 mG_141 := ck_m_ok2 (Ls := mK_12) (by decide +kernel) mO_141 (by decide +kernel) mD_141 rfl rfl mK_12_ok mi_hq
theorem mP_142 (xs : List Int32) : mi_P xs 142 mG_142 := ck_m_ok2 (Ls := mK_12) (by decide +kernel) mO_142 (by decide +kernel) mD_142 rfl rfl mK_12_ok mi_hq
theorem mP_143 (xs : List Int32) : mi_P xs 143 mG_143 := ck_m_ok2 (Ls := mK_12) (by decide +kernel) mO_143 (by decide +kernel) mD_143 rfl rfl mK_12_ok mi_hq
theorem mP_144 (xs : List Int32) : mi_P xs 144 mG_144 := ck_m_ok2 (Ls := mK_12) (by decide +kernel) mO_144 (by decide +kernel) mD_144 rfl rfl mK_12_ok mi_hq
theorem mP_145 (xs : List Int32) : mi_P xs 145 mG_145 := ck_m_ok2 (Ls := mK_12) (by decide +kernel) mO_145 (by decide +kernel) mD_145 rfl rfl mK_12_ok mi_hq
theorem mP_146 (xs : List Int32) : mi_P xs 146 mG_146 := ck_m_ok2 (Ls := mK_12) (by decide +kernel) mO_146 (by decide +kernel) mD_146 rfl rfl mK_12_ok mi_hq
theorem mP_147 (xs : List Int32) : mi_P xs 147 mG_147 := ck_m_ok2 (Ls := mK_12) (by decide +kernel) mO_147 (by decide +kernel) mD_147 rfl rfl mK_12_ok mi_hq
theorem mP_148 (xs : List Int32) : mi_P xs 148 mG_148 := ck_m_ok2 (Ls := mK_12) (by decide +kernel) mO_148 (by decide +kernel) mD_148 rfl rfl mK_12_ok mi_hq
theorem mP_149 (xs : List Int32) : mi_P xs 149 mG_149 := ck_m_ok2 (Ls := mK_12) (by decide +kernel) mO_149 (by decide +kernel) mD_149 rfl rfl mK_12_ok mi_hq
theorem mP_150 (xs : List Int32) : mi_P xs 150 mG_150 := ck_m_ok2 (Ls := mK_12) (by decide +kernel) mO_150 (by decide +kernel) mD_150 rfl rfl mK_12_ok mi_hq
theorem mP_151 (xs : List Int32) : mi_P xs 151 mG_151 := ck_m_ok2 (Ls := mK_12) (by decide +kernel) mO_151 (by decide +kernel) mD_151 rfl rfl mK_12_ok mi_hq
theorem mP_152 (xs : List Int32) : mi_P xs 152 mG_152 := ck_m_ok2 (Ls := mK_12) (by decide +kernel) mO_152 (by decide +kernel) mD_152 rfl rfl mK_12_ok mi_hq
theorem mP_153 (xs : List Int32) : mi_P xs 153 mG_153 := ck_m_ok2 (Ls := mK_12) (by decide +kernel) mO_153 (by decide +kernel) mD_153 rfl rfl mK_12_ok mi_hq
theorem mP_154 (xs : List Int32) : mi_P xs 154 mG_154 := ck_m_ok2 (Ls := mK_12) (by decide +kernel) mO_154 (by decide +kernel) mD_154 rfl rfl mK_12_ok mi_hq
theorem mP_155 (xs : List Int32) : mi_P xs 155 mG_155 := ck_m_ok2 (Ls := mK_12) (by decide +kernel) mO_155 (by decide +kernel) mD_155 rfl rfl mK_12_ok mi_hq
theorem mP_156 (xs : List Int32) : mi_P xs 156 mG_156 := ck_m_ok2 (Ls := mK_12) (by decide +kernel) mO_156 (by decide +kernel) mD_156 rfl rfl mK_12_ok mi_hq
theorem mP_157 (xs : List Int32) : mi_P xs 157 mG_157 := ck_m_ok2 (Ls := mK_12) (by decide +kernel) mO_157 (by decide +kernel) mD_157 rfl rfl mK_12_ok mi_hq
theorem mP_158 (xs : List Int32) : mi_P xs 158 mG_158 := ck_m_ok2 (Ls := mK_12) (by decide +kernel) mO_158 (by decide +kernel) mD_158 rfl rfl mK_12_ok mi_hq
theorem mP_159 (xs : List Int32) : mi_P xs 159 mG_159 := ck_m_ok2 (Ls := mK_12) (by decide +kernel) mO_159 (by decide +kernel) mD_159 rfl rfl mK_12_ok mi_hq
theorem mP_160 (xs : List Int32) : mi_P xs 160 mG_160 := ck_m_ok2 (Ls := mK_12) (by decide +kernel) mO_160 (by decide +kernel) mD_160 rfl rfl mK_12_ok mi_hq
theorem mP_161 (xs : List Int32) : mi_P xs 161 mG_161 := ck_m_ok2 (Ls := mK_12) (by decide +kernel) mO_161 (by decide +kernel) mD_161 rfl rfl mK_12_ok mi_hq
theorem mP_162 (xs : List Int32) : mi_P xs 162 mG_162 := ck_m_ok2 (Ls := mK_12) (by decide +kernel) mO_162 (by decide +kernel) mD_162 rfl rfl mK_12_ok mi_hq
theorem mP_163 (xs : List Int32) : mi_P xs 163 mG_163 := ck_m_ok2 (Ls := mK_12) (by decide +kernel) mO_163 (by decide +kernel) mD_163 rfl rfl mK_12_ok mi_hq
theorem mP_164 (xs : List Int32) : mi_P xs 164 mG_164 := ck_m_ok2 (Ls := mK_12) (by decide +kernel) mO_164 (by decide +kernel) mD_164 rfl rfl mK_12_ok mi_hq
theorem mP_165 (xs : List Int32) : mi_P xs 165 mG_165 := ck_m_ok2 (Ls := mK_12) (by decide +kernel) mO_165 (by decide +kernel) mD_165 rfl rfl mK_12_ok mi_hq
theorem mP_166 (xs : List Int32) : mi_P xs 166 mG_166 := ck_m_ok2 (Ls := mK_12) (by decide +kernel) mO_166 (by decide +kernel) mD_166 rfl rfl mK_12_ok mi_hq
theorem mP_167 (xs : List Int32) : mi_P xs 167 mG_167 := ck_m_ok2 (Ls := mK_12) (by decide +kernel) mO_167 (by decide +kernel) mD_167 rfl rfl mK_12_ok mi_hq
theorem mP_168 (xs : List Int32) : mi_P xs 168 mG_168 := ck_m_ok2 (Ls := mK_12) (by decide +kernel) mO_168 (by decide +kernel) mD_168 rfl rfl mK_12_ok mi_hq
theorem mP_169 (xs : List Int32) : mi_P xs 169 mG_169 := ck_m_ok2 (Ls := mK_12) (by decide +kernel) mO_169 (by decide +kernel) mD_169 rfl rfl mK_12_ok mi_hq
theorem mP_170 (xs : List Int32) : mi_P xs 170 mG_170 := ck_m_ok2 (Ls := mK_12) (by decide +kernel) mO_170 (by decide +kernel) mD_170 rfl rfl mK_12_ok mi_hq
theorem mP_171 (xs : List Int32) : mi_P xs 171 mG_171 := ck_m_ok2 (Ls := mK_12) (by decide +kernel) mO_171 (by decide +kernel) mD_171 rfl rfl mK_12_ok mi_hq
theorem mP_172 (xs : List Int32) : mi_P xs 172 mG_172 := ck_m_ok2 (Ls := mK_12) (by decide +kernel) mO_172 (by decide +kernel) mD_172 rfl rfl mK_12_ok mi_hq
theorem mP_173 (xs : List Int32) : mi_P xs 173 mG_173 := ck_m_ok2 (Ls := mK_12) (by decide +kernel) mO_173 (by decide +kernel) mD_173 rfl rfl mK_12_ok mi_hq
theorem mP_174 (xs : List Int32) : mi_P xs 174 mG_174 := ck_m_ok2 (Ls := mK_12) (by decide +kernel) mO_174 (by decide +kernel) mD_174 rfl rfl mK_12_ok mi_hq
theorem mP_175 (xs : List Int32) : mi_P xs 175 mG_175 := ck_m_ok2 (Ls := mK_12) (by decide +kernel) mO_175 (by decide +kernel) mD_175 rfl rfl mK_12_ok mi_hq
theorem mP_176 (xs : List Int32) : mi_P xs 176 mG_176 := ck_m_ok2 (Ls := mK_12) (by decide +kernel) mO_176 (by decide +kernel) mD_176 rfl rfl mK_12_ok mi_hq
theorem mP_177 (xs : List Int32) : mi_P xs 177 mG_177 := ck_m_ok2 (Ls := mK_12) (by decide +kernel) mO_177 (by decide +kernel) mD_177 rfl rfl mK_12_ok mi_hq
theorem mP_178 (xs : List Int32) : mi_P xs 178 mG_178 := ck_m_ok2 (Ls := mK_12) (by decide +kernel) mO_178 (by decide +kernel) mD_178 rfl rfl mK_12_ok mi_hq
theorem mP_179 (xs : List Int32) : mi_P xs 179 mG_179 := ck_m_ok2 (Ls := mK_12) (by decide +kernel) mO_179 (by decide +kernel) mD_179 rfl rfl mK_12_ok mi_hq
theorem mP_180 (xs : List Int32) : mi_P xs 180 mG_180 := ck_m_ok2 (Ls := mK_12) (by decide +kernel) mO_180 (by decide +kernel) mD_180 rfl rfl mK_12_ok mi_hq
theorem mP_181 (xs : List Int32) : mi_P xs 181 mG_181 := ck_m_ok2 (Ls := mK_12) (by decide +kernel) mO_181 (by decide +kernel) mD_181 rfl rfl mK_12_ok mi_hq
theorem mP_182 (xs : List Int32) : mi_P xs 182 mG_182 := ck_m_ok2 (Ls := mK_12) (by decide +kernel) mO_182 (by decide +kernel) mD_182 rfl rfl mK_12_ok mi_hq
theorem mP_183 (xs : List Int32) : mi_P xs 183 mG_183 := ck_m_ok2 (Ls := mK_12) (by decide +kernel) mO_183 (by decide +kernel) mD_183 rfl rfl mK_12_ok mi_hq
theorem mP_184 (xs : List Int32) : mi_P xs 184 mG_184 := ck_m_ok2 (Ls := mK_12) (by decide +kernel) mO_184 (by decide +kernel) mD_184 rfl rfl mK_12_ok mi_hq
theorem mP_185 (xs : List Int32) : mi_P xs 185 mG_185 := ck_m_ok2 (Ls := mK_12) (by decide +kernel) mO_185 (by decide +kernel) mD_185 rfl rfl mK_12_ok mi_hq
theorem mP_186 (xs : List Int32) : mi_P xs 186 mG_186 := ck_m_ok2 (Ls := mK_12) (by decide +kernel) mO_186 (by decide +kernel) mD_186 rfl rfl mK_12_ok mi_hq
theorem mP_187 (xs : List Int32) : mi_P xs 187 mG_187 := ck_m_ok2 (Ls := mK_12) (by decide +kernel) mO_187 (by decide +kernel) mD_187 rfl rfl mK_12_ok mi_hq
theorem mP_188 (xs : List Int32) : mi_P xs 188 mG_188 := ck_m_ok2 (Ls := mK_12) (by decide +kernel) mO_188 (by decide +kernel) mD_188 rfl rfl mK_12_ok mi_hq
theorem mP_189 (xs : List Int32) : mi_P xs 189 mG_189 := ck_m_ok2 (Ls := mK_12) (by decide +kernel) mO_189 (by decide +kernel) mD_189 rfl rfl mK_12_ok mi_hq
theorem mP_190 (xs : List Int32) : mi_P xs 190 mG_190 := ck_m_ok2 (Ls := mK_12) (by decide +kernel) mO_190 (by decide +kernel) mD_190 rfl rfl mK_12_ok mi_hq
theorem mP_191 (xs : List Int32) : mi_P xs 191 mG_191 := ck_m_ok2 (Ls := mK_12) (by decide +kernel) mO_191 (by decide +kernel) mD_191 rfl rfl mK_12_ok mi_hq
theorem mP_192 (xs : List Int32) : mi_P xs 192 mG_192 := ck_m_ok2 (Ls := mK_12) (by decide +kernel) mO_192 (by decide +kernel) mD_192 rfl rfl mK_12_ok mi_hq
theorem mP_193 (xs : List Int32) : mi_P xs 193 mG_193 := ck_m_ok2 (Ls := mK_12) (by decide +kernel) mO_193 (by decide +kernel) mD_193 rfl rfl mK_12_ok mi_hq
theorem mP_194 (xs : List Int32) : mi_P xs 194 mG_194 := ck_m_ok2 (Ls := mK_12) (by decide +kernel) mO_194 (by decide +kernel) mD_194 rfl rfl mK_12_ok mi_hq
theorem mP_195 (xs : List Int32) : mi_P xs 195 mG_195 := ck_m_ok2 (Ls := mK_12) (by decide +kernel) mO_195 (by decide +kernel) mD_195 rfl rfl mK_12_ok mi_hq
theorem mP_196 (xs : List Int32) : mi_P xs 196 mG_196 := ck_m_ok2 (Ls := mK_12) (by decide +kernel) mO_196 (by decide +kernel) mD_196 rfl rfl mK_12_ok mi_hq
theorem mP_197 (xs : List Int32) : mi_P xs 197 mG_197 := ck_m_ok2 (Ls := mK_12) (by decide +kernel) mO_197 (by decide +kernel) mD_197 rfl rfl mK_12_ok mi_hq
theorem mP_198 (xs : List Int32) : mi_P xs 198 mG_198 := ck_m_ok2 (Ls := mK_12) (by decide +kernel) mO_198 (by decide +kernel) mD_198 rfl rfl mK_12_ok mi_hq
theorem mP_199 (xs : List Int32) : mi_P xs 199 mG_199 := ck_m_ok2 (Ls := mK_12) (by decide +kernel) mO_199 (by decide +kernel) mD_199 rfl rfl mK_12_ok mi_hq
theorem mP_200 (xs : List Int32) : mi_P xs 200 mG_200 := ck_m_ok2 (Ls := mK_12) (by decide +kernel) mO_200 (by decide +kernel) mD_200 rfl rfl mK_12_ok mi_hq
theorem mP_201 (xs : List Int32) : mi_P xs 201 mG_201 := ck_m_ok2 (Ls := mK_12) (by decide +kernel) mO_201 (by decide +kernel) mD_201 rfl rfl mK_12_ok mi_hq
theorem mP_202 (xs : List Int32) : mi_P xs 202 mG_202 := ck_m_ok2 (Ls := mK_12) (by decide +kernel) mO_202 (by decide +kernel) mD_202 rfl rfl mK_12_ok mi_hq
theorem mP_203 (xs : List Int32) : mi_P xs 203 mG_203 := ck_m_ok2 (Ls := mK_12) (by decide +kernel) mO_203 (by decide +kernel) mD_203 rfl rfl mK_12_ok mi_hq
theorem mP_204 (xs : List Int32) : mi_P xs 204 mG_204 := ck_m_ok2 (Ls := mK_12) (by decide +kernel) mO_204 (by decide +kernel) mD_204 rfl rfl mK_12_ok mi_hq
theorem mP_205 (xs : List Int32) : mi_P xs 205 mG_205 := ck_m_ok2 (Ls := mK_12) (by decide +kernel) mO_205 (by decide +kernel) mD_205 rfl rfl mK_12_ok mi_hq
theorem mP_206 (xs : List Int32) : mi_P xs 206 mG_206 := ck_m_ok2 (Ls := mK_12) (by decide +kernel) mO_206 (by decide +kernel) mD_206 rfl rfl mK_12_ok mi_hq
theorem mP_207 (xs : List Int32) : mi_P xs 207 mG_207 := ck_m_ok2 (Ls := mK_12) (by decide +kernel) mO_207 (by decide +kernel) mD_207 rfl rfl mK_12_ok mi_hq
theorem mP_208 (xs : List Int32) : mi_P xs 208 mG_208 := ck_m_ok2 (Ls := mK_12) (by decide +kernel) mO_208 (by decide +kernel) mD_208 rfl rfl mK_12_ok mi_hq
theorem mP_209 (xs : List Int32) : mi_P xs 209 mG_209 := ck_m_ok2 (Ls := mK_12) (by decide +kernel) mO_209 (by decide +kernel) mD_209 rfl rfl mK_12_ok mi_hq
theorem mP_210 (xs : List Int32) : mi_P xs 210 mG_210 := ck_m_ok2 (Ls := mK_12) (by decide +kernel) mO_210 (by decide +kernel) mD_210 rfl rfl mK_12_ok mi_hq
theorem mP_211 (xs : List Int32) : mi_P xs 211 mG_211 := ck_m_ok2 (Ls := mK_12) (by decide +kernel) mO_211 (by decide +kernel) mD_211 rfl rfl mK_12_ok mi_hq
theorem mP_212 (xs : List Int32) : mi_P xs 212 mG_212 := ck_m_ok2 (Ls := mK_12) (by decide +kernel) mO_212 (by decide +kernel) mD_212 rfl rfl mK_12_ok mi_hq
theorem mP_213 (xs : List Int32) : mi_P xs 213 mG_213 := ck_m_ok2 (Ls := mK_12) (by decide +kernel) mO_213 (by decide +kernel) mD_213 rfl rfl mK_12_ok mi_hq
theorem mP_214 (xs : List Int32) : mi_P xs 214 mG_214 := ck_m_ok2 (Ls := mK_12) (by decide +kernel) mO_214 (by decide +kernel) mD_214 rfl rfl mK_12_ok mi_hq
theorem mP_215 (xs : List Int32) : mi_P xs 215 mG_215 := ck_m_ok2 (Ls := mK_12) (by decide +kernel) mO_215 (by decide +kernel) mD_215 rfl rfl mK_12_ok mi_hq
theorem mP_216 (xs : List Int32) : mi_P xs 216 mG_216 := ck_m_ok2 (Ls := mK_12) (by decide +kernel) mO_216 (by decide +kernel) mD_216 rfl rfl mK_12_ok mi_hq
theorem mP_217 (xs : List Int32) : mi_P xs 217 mG_217 := ck_m_ok2 (Ls := mK_12) (by decide +kernel) mO_217 (by decide +kernel) mD_217 rfl rfl mK_12_ok mi_hq
theorem mP_218 (xs : List Int32) : mi_P xs 218 mG_218 := ck_m_ok2 (Ls := mK_12) (by decide +kernel) mO_218 (by decide +kernel) mD_218 rfl rfl mK_12_ok mi_hq
theorem mP_219 (xs : List Int32) : mi_P xs 219 mG_219 := ck_m_ok2 (Ls := mK_12) (by decide +kernel) mO_219 (by decide +kernel) mD_219 rfl rfl mK_12_ok mi_hq
theorem mP_220 (xs : List Int32) : mi_P xs 220 mG_220 := ck_m_ok2 (Ls := mK_12) (by decide +kernel) mO_220 (by decide +kernel) mD_220 rfl rfl mK_12_ok mi_hq
theorem mP_221 (xs : List Int32) : mi_P xs 221 mG_221 := ck_m_ok2 (Ls := mK_12) (by decide +kernel) mO_221 (by decide +kernel) mD_221 rfl rfl mK_12_ok mi_hq
theorem mP_222 (xs : List Int32) : mi_P xs 222 mG_222 := ck_m_ok2 (Ls := mK_12) (by decide +kernel) mO_222 (by decide +kernel) mD_222 rfl rfl mK_12_ok mi_hq
theorem mP_223 (xs : List Int32) : mi_P xs 223 mG_223 := ck_m_ok2 (Ls := mK_12) (by decide +kernel) mO_223 (by decide +kernel) mD_223 rfl rfl mK_12_ok mi_hq
theorem mP_224 (xs : List Int32) : mi_P xs 224 mG_224 := ck_m_ok2 (Ls := mK_12) (by decide +kernel) mO_224 (by decide +kernel) mD_224 rfl rfl mK_12_ok mi_hq
theorem mP_225 (xs : List Int32) : mi_P xs 225 mG_225 := ck_m_ok2 (Ls := mK_12) (by decide +kernel) mO_225 (by decide +kernel) mD_225 rfl rfl mK_12_ok mi_hq
theorem mP_226 (xs : List Int32) : mi_P xs 226 mG_226 := ck_m_ok2 (Ls := mK_12) (by decide +kernel) mO_226 (by decide +kernel) mD_226 rfl rfl mK_12_ok mi_hq
theorem mP_227 (xs : List Int32) : mi_P xs 227 mG_227 := ck_m_ok2 (Ls := mK_12) (by decide +kernel) mO_227 (by decide +kernel) mD_227 rfl rfl mK_12_ok mi_hq
theorem mP_228 (xs : List Int32) : mi_P xs 228 mG_228 := ck_m_ok2 (Ls := mK_12) (by decide +kernel) mO_228 (by decide +kernel) mD_228 rfl rfl mK_12_ok mi_hq
theorem mP_229 (xs : List Int32) : mi_P xs 229 mG_229 := ck_m_ok2 (Ls := mK_12) (by decide +kernel) mO_229 (by decide +kernel) mD_229 rfl rfl mK_12_ok mi_hq
theorem mP_230 (xs : List Int32) : mi_P xs 230 mG_230 := ck_m_ok2 (Ls := mK_12) (by decide +kernel) mO_230 (by decide +kernel) mD_230 rfl rfl mK_12_ok mi_hq
theorem mP_231 (xs : List Int32) : mi_P xs 231 mG_231 := ck_m_ok2 (Ls := mK_12) (by decide +kernel) mO_231 (by decide +kernel) mD_231 rfl rfl mK_12_ok mi_hq
theorem mP_232 (xs : List Int32) : mi_P xs 232 mG_232 := ck_m_ok2 (Ls := mK_12) (by decide +kernel) mO_232 (by decide +kernel) mD_232 rfl rfl mK_12_ok mi_hq
theorem mP_233 (xs : List Int32) : mi_P xs 233 mG_233 := ck_m_ok2 (Ls := mK_12) (by decide +kernel) mO_233 (by decide +kernel) mD_233 rfl rfl mK_12_ok mi_hq
theorem mP_234 (xs : List Int32) : mi_P xs 234 mG_234 := ck_m_ok2 (Ls := mK_12) (by decide +kernel) mO_234 (by decide +kernel) mD_234 rfl rfl mK_12_ok mi_hq
theorem mP_235 (xs : List Int32) : mi_P xs 235 mG_235 := ck_m_ok2 (Ls := mK_12) (by decide +kernel) mO_235 (by decide +kernel) mD_235 rfl rfl mK_12_ok mi_hq
theorem mP_236 (xs : List Int32) : mi_P xs 236 mG_236 := ck_m_ok2 (Ls := mK_12) (by decide +kernel) mO_236 (by decide +kernel) mD_236 rfl rfl mK_12_ok mi_hq
theorem mP_237 (xs : List Int32) : mi_P xs 237 mG_237 := ck_m_ok2 (Ls := mK_12) (by decide +kernel) mO_237 (by decide +kernel) mD_237 rfl rfl mK_12_ok mi_hq
theorem mP_238 (xs : List Int32) : mi_P xs 238 mG_238 := ck_m_ok2 (Ls := mK_12) (by decide +kernel) mO_238 (by decide +kernel) mD_238 rfl rfl mK_12_ok mi_hq
theorem mP_239 (xs : List Int32) : mi_P xs 239 mG_239 := ck_m_ok2 (Ls := mK_12) (by decide +kernel) mO_239 (by decide +kernel) mD_239 rfl rfl mK_12_ok mi_hq
theorem mP_240 (xs : List Int32) : mi_P xs 240 mG_240 := ck_m_ok2 (Ls := mK_12) (by decide +kernel) mO_240 (by decide +kernel) mD_240 rfl rfl mK_12_ok mi_hq
theorem mP_241 (xs : List Int32) : mi_P xs 241 mG_241 := ck_m_ok2 (Ls := mK_12) (by decide +kernel) mO_241 (by decide +kernel) mD_241 rfl rfl mK_12_ok mi_hq
theorem mP_242 (xs : List Int32) : mi_P xs 242 mG_242 := ck_m_ok2 (Ls := mK_12) (by decide +kernel) mO_242 (by decide +kernel) mD_242 rfl rfl mK_12_ok mi_hq
theorem mP_243 (xs : List Int32) : mi_P xs 243 mG_243 := ck_m_ok2 (Ls := mK_12) (by decide +kernel) mO_243 (by decide +kernel) mD_243 rfl rfl mK_12_ok mi_hq
theorem mP_244 (xs : List Int32) : mi_P xs 244 mG_244 := ck_m_ok2 (Ls := mK_12) (by decide +kernel) mO_244 (by decide +kernel) mD_244 rfl rfl mK_12_ok mi_hq
theorem mP_245 (xs : List Int32) : mi_P xs 245 mG_245 := ck_m_ok2 (Ls := mK_12) (by decide +kernel) mO_245 (by decide +kernel) mD_245 rfl rfl mK_12_ok mi_hq
theorem mP_246 (xs : List Int32) : mi_P xs 246 mG_246 := ck_m_ok2 (Ls := mK_12) (by decide +kernel) mO_246 (by decide +kernel) mD_246 rfl rfl mK_12_ok mi_hq
theorem mP_247 (xs : List Int32) : mi_P xs 247 mG_247 := ck_m_ok2 (Ls := mK_13) (by decide +kernel) mO_247 (by decide +kernel) mD_247 rfl rfl mK_13_ok mi_hq
theorem mP_248 (xs : List Int32) : mi_P xs 248 mG_248 := ck_m_ok2 (Ls := mK_13) (by decide +kernel) mO_248 (by decide +kernel) mD_248 rfl rfl mK_13_ok mi_hq
theorem mP_249 (xs : List Int32) : mi_P xs 249 mG_249 := ck_m_ok2 (Ls := mK_13) (by decide +kernel) mO_249 (by decide +kernel) mD_249 rfl rfl mK_13_ok mi_hq
theorem mP_250 (xs : List Int32) : mi_P xs 250 mG_250 := ck_m_ok2 (Ls := mK_13) (by decide +kernel) mO_250 (by decide +kernel) mD_250 rfl rfl mK_13_ok mi_hq
theorem mP_251 (xs : List Int32) : mi_P xs 251 mG_251 := ck_m_ok2 (Ls := mK_13) (by decide +kernel) mO_251 (by decide +kernel) mD_251 rfl rfl mK_13_ok mi_hq
theorem mP_252 (xs : List Int32) : mi_P xs 252 mG_252 := ck_m_ok2 (Ls := mK_13) (by decide +kernel) mO_252 (by decide +kernel) mD_252 rfl rfl mK_13_ok mi_hq
theorem mP_253 (xs : List Int32) : mi_P xs 253 mG_253 := ck_m_ok2 (Ls := mK_13i) (by decide +kernel) mO_253 (by decide +kernel) mD_253 rfl rfl mK_13i_ok mi_hq
theorem mP_254 (xs : List Int32) : mi_P xs 254 mG_254 := ck_m_ok2 (Ls := mK_13) (by decide +kernel) mO_254 (by decide +kernel) mD_254 rfl rfl mK_13_ok mi_hq
theorem mP_255 (xs : List Int32) : mi_P xs 255 mG_255 := ck_m_ok2 (Ls := mK_13) (by decide +kernel) mO_255 (by decide +kernel) mD_255 rfl rfl mK_13_ok mi_hq
theorem mP_256 (xs : List Int32) : mi_P xs 256 mG_256 := ck_m_ok2 (Ls := mK_13) (by decide +kernel) mO_256 (by decide +kernel) mD_256 rfl rfl mK_13_ok mi_hq
theorem mP_257 (xs : List Int32) : mi_P xs 257 mG_257 := ck_m_ok2 (Ls := mK_13) (by decide +kernel) mO_257 (by decide +kernel) mD_257 rfl rfl mK_13_ok mi_hq
theorem mP_258 (xs : List Int32) : mi_P xs 258 mG_258 := ck_m_ok2 (Ls := mK_13) (by decide +kernel) mO_258 (by decide +kernel) mD_258 rfl rfl mK_13_ok mi_hq
theorem mP_259 (xs : List Int32) : mi_P xs 259 mG_259 := ck_m_ok2 (Ls := mK_13) (by decide +kernel) mO_259 (by decide +kernel) mD_259 rfl rfl mK_13_ok mi_hq
theorem mP_260 (xs : List Int32) : mi_P xs 260 mG_260 := ck_m_ok2 (Ls := mK_13) (by decide +kernel) mO_260 (by decide +kernel) mD_260 rfl rfl mK_13_ok mi_hq
theorem mP_261 (xs : List Int32) : mi_P xs 261 mG_261 := ck_m_ok2 (Ls := mK_14) (by decide +kernel) mO_261 (by decide +kernel) mD_261 rfl rfl mK_14_ok mi_hq
theorem mP_262 (xs : List Int32) : mi_P xs 262 mG_262 := ck_m_ok2 (Ls := mK_14) (by decide +kernel) mO_262 (by decide +kernel) mD_262 rfl rfl mK_14_ok mi_hq
theorem mP_263 (xs : List Int32) : mi_P xs 263 mG_263 := ck_m_ok2 (Ls := mK_14) (by decide +kernel) mO_263 (by decide +kernel) mD_263 rfl rfl mK_14_ok mi_hq
theorem mP_264 (xs : List Int32) : mi_P xs 264 mG_264 := ck_m_ok2 (Ls := mK_14) (by decide +kernel) mO_264 (by decide +kernel) mD_264 rfl rfl mK_14_ok mi_hq
theorem mP_265 (xs : List Int32) : mi_P xs 265 mG_265 := ck_m_ok2 (Ls := mK_14) (by decide +kernel) mO_265 (by decide +kernel) mD_265 rfl rfl mK_14_ok mi_hq
theorem mP_266 (xs : List Int32) : mi_P xs 266 mG_266 := ck_m_ok2 (Ls := mK_14) (by decide +kernel) mO_266 (by decide +kernel) mD_266 rfl rfl mK_14_ok mi_hq
theorem mP_267 (xs : List Int32) : mi_P xs 267 mG_267 := ck_m_ok2 (Ls := mK_14) (by decide +kernel) mO_267 (by decide +kernel) mD_267 rfl rfl mK_14_ok mi_hq
theorem mP_268 (xs : List Int32) : mi_P xs 268 mG_268 := ck_m_ok2 (Ls := mK_14) (by decide +kernel) mO_268 (by decide +kernel) mD_268 rfl rfl mK_14_ok mi_hq
theorem mP_269 (xs : List Int32) : mi_P xs 269 mG_269 := ck_m_ok2 (Ls := mK_14) (by decide +kernel) mO_269 (by decide +kernel) mD_269 rfl rfl mK_14_ok mi_hq
theorem mP_270 (xs : List Int32) : mi_P xs 270 mG_270 := ck_m_ok2 (Ls := mK_14) (by decide +kernel) mO_270 (by decide +kernel) mD_270 rfl rfl mK_14_ok mi_hq
theorem mP_271 (xs : List Int32) : mi_P xs 271 mG_271 := ck_m_ok2 (Ls := mK_14) (by decide +kernel) mO_271 (by decide +kernel) mD_271 rfl rfl mK_14_ok mi_hq
theorem mP_272 (xs : List Int32) : mi_P xs 272 mG_272 := ck_m_ok2 (Ls := mK_14) (by decide +kernel) mO_272 (by decide +kernel) mD_272 rfl rfl mK_14_ok mi_hq
theorem mP_273 (xs : List Int32) : mi_P xs 273 mG_273 := ck_m_ok2 (Ls := mK_14i) (by decide +kernel) mO_273 (by decide +kernel) mD_273 rfl rfl mK_14i_ok mi_hq
theorem mP_274 (xs : List Int32) : mi_P xs 274 mG_274 := ck_m_ok2 (Ls := mK_14) (by decide +kernel) mO_274 (by decide +kernel) mD_274 rfl rfl mK_14_ok mi_hq
theorem mP_275 (xs : List Int32) : mi_P xs 275 mG_275 := ck_m_ok2 (Ls := mK_14) (by decide +kernel) mO_275 (by decide +kernel) mD_275 rfl rfl mK_14_ok mi_hq
theorem mP_276 (xs : List Int32) : mi_P xs 276 mG_276 := ck_m_ok2 (Ls := mK_14) (by decide +kernel) mO_276 (by decide +kernel) mD_276 rfl rfl mK_14_ok mi_hq
theorem mP_277 (xs : List Int32) : mi_P xs 277 mG_277 := ck_m_ok2 (Ls := mK_14) (by decide +kernel) mO_277 (by decide +kernel) mD_277 rfl rfl mK_14_ok mi_hq
theorem mP_278 (xs : List Int32) : mi_P xs 278 mG_278 := ck_m_ok2 (Ls := mK_14) (by decide +kernel) mO_278 (by decide +kernel) mD_278 rfl rfl mK_14_ok mi_hq
theorem mP_279 (xs : List Int32) : mi_P xs 279 mG_279 := ck_m_ok2 (Ls := mK_14) (by decide +kernel) mO_279 (by decide +kernel) mD_279 rfl rfl mK_14_ok mi_hq
theorem mP_280 (xs : List Int32) : mi_P xs 280 mG_280 := ck_m_ok2 (Ls := mK_14) (by decide +kernel) mO_280 (by decide +kernel) mD_280 rfl rfl mK_14_ok mi_hq
theorem mP_281 (xs : List Int32) : mi_P xs 281 mG_281 := ck_m_ok2 (Ls := mK_14) (by decide +kernel) mO_281 (by decide +kernel) mD_281 rfl rfl mK_14_ok mi_hq
theorem mP_282 (xs : List Int32) : mi_P xs 282 mG_282 := ck_m_ok2 (Ls := mK_14) (by decide +kernel) mO_282 (by decide +kernel) mD_282 rfl rfl mK_14_ok mi_hq
theorem mP_283 (xs : List Int32) : mi_P xs 283 mG_283 := ck_m_ok2 (Ls := mK_14) (by decide +kernel) mO_283 (by decide +kernel) mD_283 rfl rfl mK_14_ok mi_hq
theorem mP_284 (xs : List Int32) : mi_P xs 284 mG_284 := ck_m_ok2 (Ls := mK_14) (by decide +kernel) mO_284 (by decide +kernel) mD_284 rfl rfl mK_14_ok mi_hq
theorem mP_285 (xs : List Int32) : mi_P xs 285 mG_285 := ck_m_ok2 (Ls := mK_14) (by decide +kernel) mO_285 (by decide +kernel) mD_285 rfl rfl mK_14_ok mi_hq
theorem mP_286 (xs : List Int32) : mi_P xs 286 mG_286 := ck_m_ok2 (Ls := mK_14) (by decide +kernel) mO_286 (by decide +kernel) mD_286 rfl rfl mK_14_ok mi_hq
theorem mP_287 (xs : List Int32) : mi_P xs 287 mG_287 := ck_m_ok2 (Ls := mK_14) (by decide +kernel) mO_287 (by decide +kernel) mD_287 rfl rfl mK_14_ok mi_hq
theorem mP_288 (xs : List Int32) : mi_P xs 288 mG_288 := ck_m_ok2 (Ls := mK_14) (by decide +kernel) mO_288 (by decide +kernel) mD_288 rfl rfl mK_14_ok mi_hq
theorem mP_289 (xs : List Int32) : mi_P xs 289 mG_289 := ck_m_ok2 (Ls := mK_14) (by decide +kernel) mO_289 (by decide +kernel) mD_289 rfl rfl mK_14_ok mi_hq
theorem mP_290 (xs : List Int32) : mi_P xs 290 mG_290 := ck_m_ok2 (Ls := mK_14) (by decide +kernel) mO_290 (by decide +kernel) mD_290 rfl rfl mK_14_ok mi_hq
theorem mP_291 (xs : List Int32) : mi_P xs 291 mG_291 := ck_m_ok2 (Ls := mK_14) (by decide +kernel) mO_291 (by decide +kernel) mD_291 rfl rfl mK_14_ok mi_hq
theorem mP_292 (xs : List Int32) : mi_P xs 292 mG_292 := ck_m_ok2 (Ls := mK_14) (by decide +kernel) mO_292 (by decide +kernel) mD_292 rfl rfl mK_14_ok mi_hq
theorem mP_293 (xs : List Int32) : mi_P xs 293 mG_293 := ck_m_ok2 (Ls := mK_14) (by decide +kernel) mO_293 (by decide +kernel) mD_293 rfl rfl mK_14_ok mi_hq
theorem mP_294 (xs : List Int32) : mi_P xs 294 mG_294 := ck_m_ok2 (Ls := mK_14) (by decide +kernel) mO_294 (by decide +kernel) mD_294 rfl rfl mK_14_ok mi_hq
theorem mP_295 (xs : List Int32) : mi_P xs 295 mG_295 := ck_m_ok2 (Ls := mK_14) (by decide +kernel) mO_295 (by decide +kernel) mD_295 rfl rfl mK_14_ok mi_hq
theorem mP_296 (xs : List Int32) : mi_P xs 296 mG_296 := ck_m_ok2 (Ls := mK_14) (by decide +kernel) mO_296 (by decide +kernel) mD_296 rfl rfl mK_14_ok mi_hq
theorem mP_297 (xs : List Int32) : mi_P xs 297 mG_297 := ck_m_ok2 (Ls := mK_15) (by decide +kernel) mO_297 (by decide +kernel) mD_297 rfl rfl mK_15_ok mi_hq
theorem mP_298 (xs : List Int32) : mi_P xs 298 mG_298 := ck_m_ok2 (Ls := mK_15) (by decide +kernel) mO_298 (by decide +kernel) mD_298 rfl rfl mK_15_ok mi_hq
theorem mP_299 (xs : List Int32) : mi_P xs 299 mG_299 := ck_m_ok2 (Ls := mK_15) (by decide +kernel) mO_299 (by decide +kernel) mD_299 rfl rfl mK_15_ok mi_hq
theorem mP_300 (xs : List Int32) : mi_P xs 300 mG_300 := ck_m_ok2 (Ls := mK_15) (by decide +kernel) mO_300 (by decide +kernel) mD_300 rfl rfl mK_15_ok mi_hq
theorem mP_301 (xs : List Int32) : mi_P xs 301 mG_301 := ck_m_ok2 (Ls := mK_15) (by decide +kernel) mO_301 (by decide +kernel) mD_301 rfl rfl mK_15_ok mi_hq
theorem mP_302 (xs : List Int32) : mi_P xs 302 mG_302 := ck_m_ok2 (Ls := mK_15) (by decide +kernel) mO_302 (by decide +kernel) mD_302 rfl rfl mK_15_ok mi_hq
theorem mP_303 (xs : List Int32) : mi_P xs 303 mG_303 := ck_m_ok2 (Ls := mK_15) (by decide +kernel) mO_303 (by decide +kernel) mD_303 rfl rfl mK_15_ok mi_hq
theorem mP_304 (xs : List Int32) : mi_P xs 304 mG_304 := ck_m_ok2 (Ls := mK_15) (by decide +kernel) mO_304 (by decide +kernel) mD_304 rfl rfl mK_15_ok mi_hq
theorem mP_305 (xs : List Int32) : mi_P xs 305 mG_305 := ck_m_ok2 (Ls := mK_15i) (by decide +kernel) mO_305 (by decide +kernel) mD_305 rfl rfl mK_15i_ok mi_hq
theorem mP_306 (xs : List Int32) : mi_P xs 306 mG_306 := ck_m_ok2 (Ls := mK_15) (by decide +kernel) mO_306 (by decide +kernel) mD_306 rfl rfl mK_15_ok mi_hq
theorem mP_307 (xs : List Int32) : mi_P xs 307 mG_307 := ck_m_ok2 (Ls := mK_15) (by decide +kernel) mO_307 (by decide +kernel) mD_307 rfl rfl mK_15_ok mi_hq
theorem mP_308 (xs : List Int32) : mi_P xs 308 mG_308 := ck_m_ok2 (Ls := mK_15) (by decide +kernel) mO_308 (by decide +kernel) mD_308 rfl rfl mK_15_ok mi_hq
theorem mP_309 (xs : List Int32) : mi_P xs 309 mG_309 := ck_m_ok2 (Ls := mK_15) (by decide +kernel) mO_309 (by decide +kernel) mD_309 rfl rfl mK_15_ok mi_hq
theorem mP_310 (xs : List Int32) : mi_P xs 310 mG_310 := ck_m_ok2 (Ls := mK_16) (by decide +kernel) mO_310 (by decide +kernel) mD_310 rfl rfl mK_16_ok mi_hq
theorem mP_311 (xs : List Int32) : mi_P xs 311 mG_311 := ck_m_ok2 (Ls := mK_16) (by decide +kernel) mO_311 (by decide +kernel) mD_311 rfl rfl mK_16_ok mi_hq
theorem mP_312 (xs : List Int32) : mi_P xs 312 mG_312 := ck_m_ok2 (Ls := mK_16) (by decide +kernel) mO_312 (by decide +kernel) mD_312 rfl rfl mK_16_ok mi_hq
theorem mP_313 (xs : List Int32) : mi_P xs 313 mG_313 := ck_m_ok2 (Ls := mK_16) (by decide +kernel) mO_313 (by decide +kernel) mD_313 rfl rfl mK_16_ok mi_hq
theorem mP_314 (xs : List Int32) : mi_P xs 314 mG_314 := ck_m_ok2 (Ls := mK_16) (by decide +kernel) mO_314 (by decide +kernel) mD_314 rfl rfl mK_16_ok mi_hq
theorem mP_315 (xs : List Int32) : mi_P xs 315 mG_315 := ck_m_ok2 (Ls := mK_16) (by decide +kernel) mO_315 (by decide +kernel) mD_315 rfl rfl mK_16_ok mi_hq
theorem mP_316 (xs : List Int32) : mi_P xs 316 mG_316 := ck_m_ok2 (Ls := mK_16) (by decide +kernel) mO_316 (by decide +kernel) mD_316 rfl rfl mK_16_ok mi_hq
theorem mP_317 (xs : List Int32) : mi_P xs 317 mG_317 := ck_m_ok2 (Ls := mK_16) (by decide +kernel) mO_317 (by decide +kernel) mD_317 rfl rfl mK_16_ok mi_hq
theorem mP_318 (xs : List Int32) : mi_P xs 318 mG_318 := ck_m_ok2 (Ls := mK_16) (by decide +kernel) mO_318 (by decide +kernel) mD_318 rfl rfl mK_16_ok mi_hq
theorem mP_319 (xs : List Int32) : mi_P xs 319 mG_319 := ck_m_ok2 (Ls := mK_16) (by decide +kernel) mO_319 (by decide +kernel) mD_319 rfl rfl mK_16_ok mi_hq
theorem mP_320 (xs : List Int32) : mi_P xs 320 mG_320 := ck_m_ok2 (Ls := mK_16) (by decide +kernel) mO_320 (by decide +kernel) mD_320 rfl rfl mK_16_ok mi_hq
theorem mP_321 (xs : List Int32) : mi_P xs 321 mG_321 := ck_m_ok2 (Ls := mK_16) (by decide +kernel) mO_321 (by decide +kernel) mD_321 rfl rfl mK_16_ok mi_hq
theorem mP_322 (xs : List Int32) : mi_P xs 322 mG_322 := ck_m_ok2 (Ls := mK_16i) (by decide +kernel) mO_322 (by decide +kernel) mD_322 rfl rfl mK_16i_ok mi_hq
theorem mP_323 (xs : List Int32) : mi_P xs 323 mG_323 := ck_m_ok2 (Ls := mK_16) (by decide +kernel) mO_323 (by decide +kernel) mD_323 rfl rfl mK_16_ok mi_hq
theorem mP_324 (xs : List Int32) : mi_P xs 324 mG_324 := ck_m_ok2 (Ls := mK_16) (by decide +kernel) mO_324 (by decide +kernel) mD_324 rfl rfl mK_16_ok mi_hq
theorem mP_325 (xs : List Int32) : mi_P xs 325 mG_325 := ck_m_ok2 (Ls := mK_16) (by decide +kernel) mO_325 (by decide +kernel) mD_325 rfl rfl mK_16_ok mi_hq
theorem mP_326 (xs : List Int32) : mi_P xs 326 mG_326 := ck_m_ok2 (Ls := mK_16) (by decide +kernel) mO_326 (by decide +kernel) mD_326 rfl rfl mK_16_ok mi_hq
theorem mP_327 (xs : List Int32) : mi_P xs 327 mG_327 := ck_m_ok2 (Ls := mK_16) (by decide +kernel) mO_327 (by decide +kernel) mD_327 rfl rfl mK_16_ok mi_hq
theorem mP_328 (xs : List Int32) : mi_P xs 328 mG_328 := ck_m_ok2 (Ls := mK_16) (by decide +kernel) mO_328 (by decide +kernel) mD_328 rfl rfl mK_16_ok mi_hq
theorem mP_329 (xs : List Int32) : mi_P xs 329 mG_329 := ck_m_ok2 (Ls := mK_16) (by decide +kernel) mO_329 (by decide +kernel) mD_329 rfl rfl mK_16_ok mi_hq
theorem mP_330 (xs : List Int32) : mi_P xs 330 mG_330 := ck_m_ok2 (Ls := mK_16) (by decide +kernel) mO_330 (by decide +kernel) mD_330 rfl rfl mK_16_ok mi_hq
theorem mP_331 (xs : List Int32) : mi_P xs 331 mG_331 := ck_m_ok2 (Ls := mK_16) (by decide +kernel) mO_331 (by decide +kernel) mD_331 rfl rfl mK_16_ok mi_hq
theorem mP_332 (xs : List Int32) : mi_P xs 332 mG_332 := ck_m_ok2 (Ls := mK_16) (by decide +kernel) mO_332 (by decide +kernel) mD_332 rfl rfl mK_16_ok mi_hq
theorem mP_333 (xs : List Int32) : mi_P xs 333 mG_333 := ck_m_ok2 (Ls := mK_16) (by decide +kernel) mO_333 (by decide +kernel) mD_333 rfl rfl mK_16_ok mi_hq
theorem mP_334 (xs : List Int32) : mi_P xs 334 mG_334 := ck_m_ok2 (Ls := mK_16) (by decide +kernel) mO_334 (by decide +kernel) mD_334 rfl rfl mK_16_ok mi_hq
theorem mP_335 (xs : List Int32) : mi_P xs 335 mG_335 := ck_m_ok2 (Ls := mK_16) (by decide +kernel) mO_335 (by decide +kernel) mD_335 rfl rfl mK_16_ok mi_hq
theorem mP_336 (xs : List Int32) : mi_P xs 336 mG_336 := ck_m_ok2 (Ls := mK_16) (by decide +kernel) mO_336 (by decide +kernel) mD_336 rfl rfl mK_16_ok mi_hq
theorem mP_337 (xs : List Int32) : mi_P xs 337 mG_337 := ck_m_ok2 (Ls := mK_16) (by decide +kernel) mO_337 (by decide +kernel) mD_337 rfl rfl mK_16_ok mi_hq
theorem mP_338 (xs : List Int32) : mi_P xs 338 mG_338 := ck_m_ok2 (Ls := mK_16) (by decide +kernel) mO_338 (by decide +kernel) mD_338 rfl rfl mK_16_ok mi_hq
theorem mP_339 (xs : List Int32) : mi_P xs 339 mG_339 := ck_m_ok2 (Ls := mK_16) (by decide +kernel) mO_339 (by decide +kernel) mD_339 rfl rfl mK_16_ok mi_hq
theorem mP_340 (xs : List Int32) : mi_P xs 340 mG_340 := ck_m_ok2 (Ls := mK_16) (by decide +kernel) mO_340 (by decide +kernel) mD_340 rfl rfl mK_16_ok mi_hq
theorem mP_341 (xs : List Int32) : mi_P xs 341 mG_341 := ck_m_ok2 (Ls := mK_16) (by decide +kernel) mO_341 (by decide +kernel) mD_341 rfl rfl mK_16_ok mi_hq
theorem mP_342 (xs : List Int32) : mi_P xs 342 mG_342 := ck_m_ok2 (Ls := mK_16) (by decide +kernel) mO_342 (by decide +kernel) mD_342 rfl rfl mK_16_ok mi_hq
theorem mP_343 (xs : List Int32) : mi_P xs 343 mG_343 := ck_m_ok2 (Ls := mK_16) (by decide +kernel) mO_343 (by decide +kernel) mD_343 rfl rfl mK_16_ok mi_hq
theorem mP_344 (xs : List Int32) : mi_P xs 344 mG_344 := ck_m_ok2 (Ls := mK_16) (by decide +kernel) mO_344 (by decide +kernel) mD_344 rfl rfl mK_16_ok mi_hq
theorem mP_345 (xs : List Int32) : mi_P xs 345 mG_345 := ck_m_ok2 (Ls := mK_16) (by decide +kernel) mO_345 (by decide +kernel) mD_345 rfl rfl mK_16_ok mi_hq
theorem mP_346 (xs : List Int32) : mi_P xs 346 mG_346 := ck_m_ok2 (Ls := mK_16) (by decide +kernel) mO_346 (by decide +kernel) mD_346 rfl rfl mK_16_ok mi_hq
theorem mP_347 (xs : List Int32) : mi_P xs 347 mG_347 := ck_m_ok2 (Ls := mK_16) (by decide +kernel) mO_347 (by decide +kernel) mD_347 rfl rfl mK_16_ok mi_hq
theorem mP_348 (xs : List Int32) : mi_P xs 348 mG_348 := ck_m_ok2 (Ls := mK_16) (by decide +kernel) mO_348 (by decide +kernel) mD_348 rfl rfl mK_16_ok mi_hq
theorem mP_349 (xs : List Int32) : mi_P xs 349 mG_349 := ck_m_ok2 (Ls := mK_17) (by decide +kernel) mO_349 (by decide +kernel) mD_349 rfl rfl mK_17_ok mi_hq
theorem mP_350 (xs : List Int32) : mi_P xs 350 mG_350 := ck_m_ok2 (Ls := mK_17) (by decide +kernel) mO_350 (by decide +kernel) mD_350 rfl rfl mK_17_ok mi_hq
theorem mP_351 (xs : List Int32) : mi_P xs 351 mG_351 := ck_m_ok2 (Ls := mK_17) (by decide +kernel) mO_351 (by decide +kernel) mD_351 rfl rfl mK_17_ok mi_hq
theorem mP_352 (xs : List Int32) : mi_P xs 352 mG_352 := ck_m_ok2 (Ls := mK_17) (by decide +kernel) mO_352 (by decide +kernel) mD_352 rfl rfl mK_17_ok mi_hq
theorem mP_353 (xs : List Int32) : mi_P xs 353 mG_353 := ck_m_ok2 (Ls := mK_17) (by decide +kernel) mO_353 (by decide +kernel) mD_353 rfl rfl mK_17_ok mi_hq
theorem mP_354 (xs : List Int32) : mi_P xs 354 mG_354 := ck_m_ok2 (Ls := mK_17) (by decide +kernel) mO_354 (by decide +kernel) mD_354 rfl rfl mK_17_ok mi_hq
theorem mP_355 (xs : List Int32) : mi_P xs 355 mG_355 := ck_m_ok2 (Ls := mK_17) (by decide +kernel) mO_355 (by decide +kernel) mD_355 rfl rfl mK_17_ok mi_hq
theorem mP_356 (xs : List Int32) : mi_P xs 356 mG_356 := ck_m_ok2 (Ls := mK_17) (by decide +kernel) mO_356 (by decide +kernel) mD_356 rfl rfl mK_17_ok mi_hq
theorem mP_357 (xs : List Int32) : mi_P xs 357 mG_357 := ck_m_ok2 (Ls := mK_17) (by decide +kernel) mO_357 (by decide +kernel) mD_357 rfl rfl mK_17_ok mi_hq
theorem mP_358 (xs : List Int32) : mi_P xs 358 mG_358 := ck_m_ok2 (Ls := mK_17) (by decide +kernel) mO_358 (by decide +kernel) mD_358 rfl rfl mK_17_ok mi_hq
theorem mP_359 (xs : List Int32) : mi_P xs 359 mG_359 := ck_m_ok2 (Ls := mK_17i) (by decide +kernel) mO_359 (by decide +kernel) mD_359 rfl rfl mK_17i_ok mi_hq
theorem mP_360 (xs : List Int32) : mi_P xs 360 mG_360 := ck_m_ok2 (Ls := mK_17) (by decide +kernel) mO_360 (by decide +kernel) mD_360 rfl rfl mK_17_ok mi_hq
theorem mP_361 (xs : List Int32) : mi_P xs 361 mG_361 := ck_m_ok2 (Ls := mK_17) (by decide +kernel) mO_361 (by decide +kernel) mD_361 rfl rfl mK_17_ok mi_hq
theorem mP_362 (xs : List Int32) : mi_P xs 362 mG_362 := ck_m_ok2 (Ls := mK_17) (by decide +kernel) mO_362 (by decide +kernel) mD_362 rfl rfl mK_17_ok mi_hq
theorem mP_363 (xs : List Int32) : mi_P xs 363 mG_363 := ck_m_ok2 (Ls := mK_17) (by decide +kernel) mO_363 (by decide +kernel) mD_363 rfl rfl mK_17_ok mi_hq
theorem mP_364 (xs : List Int32) : mi_P xs 364 mG_364 := ck_m_ok2 (Ls := mK_17) (by decide +kernel) mO_364 (by decide +kernel) mD_364 rfl rfl mK_17_ok mi_hq
theorem mP_365 (xs : List Int32) : mi_P xs 365 mG_365 := ck_m_ok2 (Ls := mK_17) (by decide +kernel) mO_365 (by decide +kernel) mD_365 rfl rfl mK_17_ok mi_hq
theorem mP_366 (xs : List Int32) : mi_P xs 366 mG_366 := ck_m_ok2 (Ls := mK_17) (by decide +kernel) mO_366 (by decide +kernel) mD_366 rfl rfl mK_17_ok mi_hq
theorem mP_367 (xs : List Int32) : mi_P xs 367 mG_367 := ck_m_ok2 (Ls := mK_17) (by decide +kernel) mO_367 (by decide +kernel) mD_367 rfl rfl mK_17_ok mi_hq
theorem mP_368 (xs : List Int32) : mi_P xs 368 mG_368 := ck_m_ok2 (Ls := mK_17) (by decide +kernel) mO_368 (by decide +kernel) mD_368 rfl rfl mK_17_ok mi_hq
theorem mP_369 (xs : List Int32) : mi_P xs 369 mG_369 := ck_m_ok2 (Ls := mK_17) (by decide +kernel) mO_369 (by decide +kernel) mD_369 rfl rfl mK_17_ok mi_hq
theorem mP_370 (xs : List Int32) : mi_P xs 370 mG_370 := ck_m_ok2 (Ls := mK_17) (by decide +kernel) mO_370 (by decide +kernel) mD_370 rfl rfl mK_17_ok mi_hq
theorem mP_371 (xs : List Int32) : mi_P xs 371 mG_371 := ck_m_ok2 (Ls := mK_17) (by decide +kernel) mO_371 (by decide +kernel) mD_371 rfl rfl mK_17_ok mi_hq
theorem mP_372 (xs : List Int32) : mi_P xs 372 mG_372 := ck_m_ok2 (Ls := mK_17) (by decide +kernel) mO_372 (by decide +kernel) mD_372 rfl rfl mK_17_ok mi_hq
theorem mP_373 (xs : List Int32) : mi_P xs 373 mG_373 := ck_m_ok2 (Ls := mK_18) (by decide +kernel) mO_373 (by decide +kernel) mD_373 rfl rfl mK_18_ok mi_hq
theorem mP_374 (xs : List Int32) : mi_P xs 374 mG_374 := ck_m_ok2 (Ls := mK_18i) (by decide +kernel) mO_374 (by decide +kernel) mD_374 rfl rfl mK_18i_ok mi_hq
theorem mP_375 (xs : List Int32) : mi_P xs 375 mG_375 := ck_m_ok2 (Ls := mK_18) (by decide +kernel) mO_375 (by decide +kernel) mD_375 rfl rfl mK_18_ok mi_hq
theorem mP_376 (xs : List Int32) : mi_P xs 376 mG_376 := ck_m_ok2 (Ls := mK_18) (by decide +kernel) mO_376 (by decide +kernel) mD_376 rfl rfl mK_18_ok mi_hq
theorem mP_377 (xs : List Int32) : mi_P xs 377 mG_377 := ck_m_ok2 (Ls := mK_18) (by decide +kernel) mO_377 (by decide +kernel) mD_377 rfl rfl mK_18_ok mi_hq
theorem mP_378 (xs : List Int32) : mi_P xs 378 mG_378 := ck_m_ok2 (Ls := mK_18) (by decide +kernel) mO_378 (by decide +kernel) mD_378 rfl rfl mK_18_ok mi_hq
theorem mP_379 (xs : List Int32) : mi_P xs 379 mG_379 := ck_m_ok2 (Ls := mK_18) (by decide +kernel) mO_379 (by decide +kernel) mD_379 rfl rfl mK_18_ok mi_hq
theorem mP_380 (xs : List Int32) : mi_P xs 380 mG_380 := ck_m_ok2 (Ls := mK_18) (by decide +kernel) mO_380 (by decide +kernel) mD_380 rfl rfl mK_18_ok mi_hq
theorem mP_381 (xs : List Int32) : mi_P xs 381 mG_381 := ck_m_ok2 (Ls := mK_18) (by decide +kernel) mO_381 (by decide +kernel) mD_381 rfl rfl mK_18_ok mi_hq
theorem mP_382 (xs : List Int32) : mi_P xs 382 mG_382 := ck_m_ok2 (Ls := mK_18) (by decide +kernel) mO_382 (by decide +kernel) mD_382 rfl rfl mK_18_ok mi_hq
theorem mP_383 (xs : List Int32) : mi_P xs 383 mG_383 := ck_m_ok2 (Ls := mK_18) (by decide +kernel) mO_383 (by decide +kernel) mD_383 rfl rfl mK_18_ok mi_hq
theorem mP_384 (xs : List Int32) : mi_P xs 384 mG_384 := ck_m_ok2 (Ls := mK_18) (by decide +kernel) mO_384 (by decide +kernel) mD_384 rfl rfl mK_18_ok mi_hq
theorem mP_385 (xs : List Int32) : mi_P xs 385 mG_385 := ck_m_ok2 (Ls := mK_18) (by decide +kernel) mO_385 (by decide +kernel) mD_385 rfl rfl mK_18_ok mi_hq
theorem mP_386 (xs : List Int32) : mi_P xs 386 mG_386 := ck_m_ok2 (Ls := mK_18) (by decide +kernel) mO_386 (by decide +kernel) mD_386 rfl rfl mK_18_ok mi_hq
theorem mP_387 (xs : List Int32) : mi_P xs 387 mG_387 := ck_m_ok2 (Ls := mK_18) (by decide +kernel) mO_387 (by decide +kernel) mD_387 rfl rfl mK_18_ok mi_hq
theorem mP_388 (xs : List Int32) : mi_P xs 388 mG_388 := ck_m_ok2 (Ls := mK_18) (by decide +kernel) mO_388 (by decide +kernel) mD_388 rfl rfl mK_18_ok mi_hq
theorem mP_389 (xs : List Int32) : mi_P xs 389 mG_389 := ck_m_ok2 (Ls := mK_18) (by decide +kernel) mO_389 (by decide +kernel) mD_389 rfl rfl mK_18_ok mi_hq
theorem mP_390 (xs : List Int32) : mi_P xs 390 mG_390 := ck_m_ok2 (Ls := mK_18) (by decide +kernel) mO_390 (by decide +kernel) mD_390 rfl rfl mK_18_ok mi_hq
theorem mP_391 (xs : List Int32) : mi_P xs 391 mG_391 := ck_m_ok2 (Ls := mK_18) (by decide +kernel) mO_391 (by decide +kernel) mD_391 rfl rfl mK_18_ok mi_hq
theorem mP_392 (xs : List Int32) : mi_P xs 392 mG_392 := ck_m_ok2 (Ls := mK_18) (by decide +kernel) mO_392 (by decide +kernel) mD_392 rfl rfl mK_18_ok mi_hq
theorem mP_393 (xs : List Int32) : mi_P xs 393 mG_393 := ck_m_ok2 (Ls := mK_18) (by decide +kernel) mO_393 (by decide +kernel) mD_393 rfl rfl mK_18_ok mi_hq
theorem mP_394 (xs : List Int32) : mi_P xs 394 mG_394 := ck_m_ok2 (Ls := mK_18) (by decide +kernel) mO_394 (by decide +kernel) mD_394 rfl rfl mK_18_ok mi_hq
theorem mP_395 (xs : List Int32) : mi_P xs 395 mG_395 := ck_m_ok2 (Ls := mK_18) (by decide +kernel) mO_395 (by decide +kernel) mD_395 rfl rfl mK_18_ok mi_hq
theorem mP_396 (xs : List Int32) : mi_P xs 396 mG_396 := ck_m_ok2 (Ls := mK_19) (by decide +kernel) mO_396 (by decide +kernel) mD_396 rfl rfl mK_19_ok mi_hq
theorem mP_397 (xs : List Int32) : mi_P xs 397 mG_397 := ck_m_ok2 (Ls := mK_19) (by decide +kernel) mO_397 (by decide +kernel) mD_397 rfl rfl mK_19_ok mi_hq
theorem mP_398 (xs : List Int32) : mi_P xs 398 mG_398 := ck_m_ok2 (Ls := mK_19) (by decide +kernel) mO_398 (by decide +kernel) mD_398 rfl rfl mK_19_ok mi_hq
theorem mP_399 (xs : List Int32) : mi_P xs 399 mG_399 := ck_m_ok2 (Ls := mK_19) (by decide +kernel) mO_399 (by decide +kernel) mD_399 rfl rfl mK_19_ok mi_hq
theorem mP_400 (xs : List Int32) : mi_P xs 400 mG_400 := ck_m_ok2 (Ls := mK_19) (by decide +kernel) mO_400 (by decide +kernel) mD_400 rfl rfl mK_19_ok mi_hq
theorem mP_401 (xs : List Int32) : mi_P xs 401 mG_401 := ck_m_ok2 (Ls := mK_19) (by decide +kernel) mO_401 (by decide +kernel) mD_401 rfl rfl mK_19_ok mi_hq
theorem mP_402 (xs : List Int32) : mi_P xs 402 mG_402 := ck_m_ok2 (Ls := mK_19) (by decide +kernel) mO_402 (by decide +kernel) mD_402 rfl rfl mK_19_ok mi_hq
theorem mP_403 (xs : List Int32) : mi_P xs 403 mG_403 := ck_m_ok2 (Ls := mK_19) (by decide +kernel) mO_403 (by decide +kernel) mD_403 rfl rfl mK_19_ok mi_hq
theorem mP_404 (xs : List Int32) : mi_P xs 404 mG_404 := ck_m_ok2 (Ls := mK_19i) (by decide +kernel) mO_404 (by decide +kernel) mD_404 rfl rfl mK_19i_ok mi_hq
theorem mP_405 (xs : List Int32) : mi_P xs 405 mG_405 := ck_m_ok2 (Ls := mK_19) (by decide +kernel) mO_405 (by decide +kernel) mD_405 rfl rfl mK_19_ok mi_hq
theorem mP_406 (xs : List Int32) : mi_P xs 406 mG_406 := ck_m_ok2 (Ls := mK_19) (by decide +kernel) mO_406 (by decide +kernel) mD_406 rfl rfl mK_19_ok mi_hq
theorem mP_407 (xs : List Int32) : mi_P xs 407 mG_407 := ck_m_ok2 (Ls := mK_19) (by decide +kernel) mO_407 (by decide +kernel) mD_407 rfl rfl mK_19_ok mi_hq
theorem mP_408 (xs : List Int32) : mi_P xs 408 mG_408 := ck_m_ok2 (Ls := mK_19) (by decide +kernel) mO_408 (by decide +kernel) mD_408 rfl rfl mK_19_ok mi_hq
theorem mP_409 (xs : List Int32) : mi_P xs 409 mG_409 := ck_m_ok2 (Ls := mK_19) (by decide +kernel) mO_409 (by decide +kernel) mD_409 rfl rfl mK_19_ok mi_hq
theorem mP_410 (xs : List Int32) : mi_P xs 410 mG_410 := ck_m_ok2 (Ls := mK_19) (by decide +kernel) mO_410 (by decide +kernel) mD_410 rfl rfl mK_19_ok mi_hq
theorem mP_411 (xs : List Int32) : mi_P xs 411 mG_411 := ck_m_ok2 (Ls := mK_19) (by decide +kernel) mO_411 (by decide +kernel) mD_411 rfl rfl mK_19_ok mi_hq
theorem mP_412 (xs : List Int32) : mi_P xs 412 mG_412 := ck_m_ok2 (Ls := mK_19) (by decide +kernel) mO_412 (by decide +kernel) mD_412 rfl rfl mK_19_ok mi_hq
theorem mP_413 (xs : List Int32) : mi_P xs 413 mG_413 := ck_m_ok2 (Ls := mK_20) (by decide +kernel) mO_413 (by decide +kernel) mD_413 rfl rfl mK_20_ok mi_hq
theorem mP_414 (xs : List Int32) : mi_P xs 414 mG_414 := ck_m_ok2 (Ls := mK_20) (by decide +kernel) mO_414 (by decide +kernel) mD_414 rfl rfl mK_20_ok mi_hq
theorem mP_415 (xs : List Int32) : mi_P xs 415 mG_415 := ck_m_ok2 (Ls := mK_20) (by decide +kernel) mO_415 (by decide +kernel) mD_415 rfl rfl mK_20_ok mi_hq
theorem mP_416 (xs : List Int32) : mi_P xs 416 mG_416 := ck_m_ok2 (Ls := mK_20) (by decide +kernel) mO_416 (by decide +kernel) mD_416 rfl rfl mK_20_ok mi_hq
theorem mP_417 (xs : List Int32) : mi_P xs 417 mG_417 := ck_m_ok2 (Ls := mK_20) (by decide +kernel) mO_417 (by decide +kernel) mD_417 rfl rfl mK_20_ok mi_hq
theorem mP_418 (xs : List Int32) : mi_P xs 418 mG_418 := ck_m_ok2 (Ls := mK_20) (by decide +kernel) mO_418 (by decide +kernel) mD_418 rfl rfl mK_20_ok mi_hq
theorem mP_419 (xs : List Int32) : mi_P xs 419 mG_419 := ck_m_ok2 (Ls := mK_20i) (by decide +kernel) mO_419 (by decide +kernel) mD_419 rfl rfl mK_20i_ok mi_hq
theorem mP_420 (xs : List Int32) : mi_P xs 420 mG_420 := ck_m_ok2 (Ls := mK_20) (by decide +kernel) mO_420 (by decide +kernel) mD_420 rfl rfl mK_20_ok mi_hq
theorem mP_421 (xs : List Int32) : mi_P xs 421 mG_421 := ck_m_ok2 (Ls := mK_20) (by decide +kernel) mO_421 (by decide +kernel) mD_421 rfl rfl mK_20_ok mi_hq
theorem mP_422 (xs : List Int32) : mi_P xs 422 mG_422 := ck_m_ok2 (Ls := mK_21) (by decide +kernel) mO_422 (by decide +kernel) mD_422 rfl rfl mK_21_ok mi_hq
theorem mP_423 (xs : List Int32) : mi_P xs 423 mG_423 := ck_m_ok2 (Ls := mK_21) (by decide +kernel) mO_423 (by decide +kernel) mD_423 rfl rfl mK_21_ok mi_hq
theorem mP_424 (xs : List Int32) : mi_P xs 424 mG_424 := ck_m_ok2 (Ls := mK_21) (by decide +kernel) mO_424 (by decide +kernel) mD_424 rfl rfl mK_21_ok mi_hq
theorem mP_425 (xs : List Int32) : mi_P xs 425 mG_425 := ck_m_ok2 (Ls := mK_21) (by decide +kernel) mO_425 (by decide +kernel) mD_425 rfl rfl mK_21_ok mi_hq
theorem mP_426 (xs : List Int32) : mi_P xs 426 mG_426 := ck_m_ok2 (Ls := mK_21) (by decide +kernel) mO_426 (by decide +kernel) mD_426 rfl rfl mK_21_ok mi_hq
theorem mP_427 (xs : List Int32) : mi_P xs 427 mG_427 := ck_m_ok2 (Ls := mK_21i) (by decide +kernel) mO_427 (by decide +kernel) mD_427 rfl rfl mK_21i_ok mi_hq
theorem mP_428 (xs : List Int32) : mi_P xs 428 mG_428 := ck_m_ok2 (Ls := mK_21) (by decide +kernel) mO_428 (by decide +kernel) mD_428 rfl rfl mK_21_ok mi_hq
theorem mP_429 (xs : List Int32) : mi_P xs 429 mG_429 := ck_m_ok2 (Ls := mK_21) (by decide +kernel) mO_429 (by decide +kernel) mD_429 rfl rfl mK_21_ok mi_hq
theorem mP_430 (xs : List Int32) : mi_P xs 430 mG_430 := ck_m_ok2 (Ls := mK_21) (by decide +kernel) mO_430 (by decide +kernel) mD_430 rfl rfl mK_21_ok mi_hq
theorem mP_431 (xs : List Int32) : mi_P xs 431 mG_431 := ck_m_ok2 (Ls := mK_21) (by decide +kernel) mO_431 (by decide +kernel) mD_431 rfl rfl mK_21_ok mi_hq
theorem mP_432 (xs : List Int32) : mi_P xs 432 mG_432 := ck_m_ok2 (Ls := mK_21) (by decide +kernel) mO_432 (by decide +kernel) mD_432 rfl rfl mK_21_ok mi_hq
theorem mP_433 (xs : List Int32) : mi_P xs 433 mG_433 := ck_m_ok2 (Ls := mK_21) (by decide +kernel) mO_433 (by decide +kernel) mD_433 rfl rfl mK_21_ok mi_hq
theorem mP_434 (xs : List Int32) : mi_P xs 434 mG_434 := ck_m_ok2 (Ls := mK_21) (by decide +kernel) mO_434 (by decide +kernel) mD_434 rfl rfl mK_21_ok mi_hq
theorem mP_435 (xs : List Int32) : mi_P xs 435 mG_435 := ck_m_ok2 (Ls := mK_21) (by decide +kernel) mO_435 (by decide +kernel) mD_435 rfl rfl mK_21_ok mi_hq
theorem mi_tok (xs : List Int32) : mi_Tok2 (fun j => mi_Gs[j]?) (lw_tbl.filter goodWord) mi_cl (mi_ev xs) mi_fr mi_lo := by
  refine ⟨mi_goodT lw_tbl, ck_C_ok mi_cl_ok, ?_, ?_⟩
  · intro w hw
    simp only [mi_ev, mi_e5, List.mem_cons, List.not_mem_nil, or_false] at hw
    rcases hw with rfl | rfl | rfl | rfl | rfl | rfl | rfl | rfl | rfl | rfl | rfl | rfl | rfl | rfl | rfl
    · exact Or.inl ⟨_, _, _, _, rfl⟩
    · exact Or.inl ⟨_, _, _, _, rfl⟩
    · exact Or.inl ⟨_, _, _, _, rfl⟩
    · exact Or.inl ⟨_, _, _, _, rfl⟩
    · exact Or.inl ⟨_, _, _, _, rfl⟩
    · exact Or.inl ⟨_, _, _, _, rfl⟩
    · exact Or.inl ⟨_, _, _, _, rfl⟩
    · exact Or.inr (Or.inl ⟨_, _, rfl⟩)
    · exact Or.inr (Or.inr ⟨_, _, _, _, _, _, rfl⟩)
    · exact Or.inr (Or.inr ⟨_, _, _, _, _, _, rfl⟩)
    · exact Or.inr (Or.inr ⟨_, _, _, _, _, _, rfl⟩)
    · exact Or.inr (Or.inr ⟨_, _, _, _, _, _, rfl⟩)
    · exact Or.inr (Or.inr ⟨_, _, _, _, _, _, rfl⟩)
    · exact Or.inr (Or.inr ⟨_, _, _, _, _, _, rfl⟩)
    · exact Or.inr (Or.inr ⟨_, _, _, _, _, _, rfl⟩)
  · intro j M h
    match j, h with
    | 0, h => cases h; exact mP_0 xs
    | 1, h => cases h; exact mP_1 xs
    | 2, h => cases h; exact mP_2 xs
    | 3, h => cases h; exact mP_3 xs
    | 4, h => cases h; exact mP_4 xs
    | 5, h => cases h; exact mP_5 xs
    | 6, h => cases h; exact mP_6 xs
    | 7, h => cases h; exact mP_7 xs
    | 8, h => cases h; exact mP_8 xs
    | 9, h => cases h; exact mP_9 xs
    | 10, h => cases h; exact mP_10 xs
    | 11, h => cases h; exact mP_11 xs
    | 12, h => cases h; exact mP_12 xs
    | 13, h => cases h; exact mP_13 xs
    | 14, h => cases h; exact mP_14 xs
    | 15, h => cases h; exact mP_15 xs
    | 16, h => cases h; exact mP_16 xs
    | 17, h => cases h; exact mP_17 xs
    | 18, h => cases h; exact mP_18 xs
    | 19, h => cases h; exact mP_19 xs
    | 20, h => cases h; exact mP_20 xs
    | 21, h => cases h; exact mP_21 xs
    | 22, h => cases h; exact mP_22 xs
    | 23, h => cases h; exact mP_23 xs
    | 24, h => cases h; exact mP_24 xs
    | 25, h => cases h; exact mP_25 xs
    | 26, h => cases h; exact mP_26 xs
    | 27, h => cases h; exact mP_27 xs
    | 28, h => cases h; exact mP_28 xs
    | 29, h => cases h; exact mP_29 xs
    | 30, h => cases h; exact mP_30 xs
    | 31, h => cases h; exact mP_31 xs
    | 32, h => cases h; exact mP_32 xs
    | 33, h => cases h; exact mP_33 xs
    | 34, h => cases h; exact mP_34 xs
    | 35, h => cases h; exact mP_35 xs
    | 36, h => cases h; exact mP_36 xs
    | 37, h => cases h; exact mP_37 xs
    | 38, h => cases h; exact mP_38 xs
    | 39, h => cases h; exact mP_39 xs
    | 40, h => cases h; exact mP_40 xs
    | 41, h => cases h; exact mP_41 xs
    | 42, h => cases h; exact mP_42 xs
    | 43, h => cases h; exact mP_43 xs
    | 44, h => cases h; exact mP_44 xs
    | 45, h => cases h; exact mP_45 xs
    | 46, h => cases h; exact mP_46 xs
    | 47, h => cases h; exact mP_47 xs
    | 48, h => cases h; exact mP_48 xs
    | 49, h => cases h; exact mP_49 xs
    | 50, h => cases h; exact mP_50 xs
    | 51, h => cases h; exact mP_51 xs
    | 52, h => cases h; exact mP_52 xs
    | 53, h => cases h; exact mP_53 xs
    | 54, h => cases h; exact mP_54 xs
    | 55, h => cases h; exact mP_55 xs
    | 56, h => cases h; exact mP_56 xs
    | 57, h => cases h; exact mP_57 xs
    | 58, h => cases h; exact mP_58 xs
    | 59, h => cases h; exact mP_59 xs
    | 60, h => cases h; exact mP_60 xs
    | 61, h => cases h; exact mP_61 xs
    | 62, h => cases h; exact mP_62 xs
    | 63, h => cases h; exact mP_63 xs
    | 64, h => cases h; exact mP_64 xs
    | 65, h => cases h; exact mP_65 xs
    | 66, h => cases h; exact mP_66 xs
    | 67, h => cases h; exact mP_67 xs
    | 68, h => cases h; exact mP_68 xs
    | 69, h => cases h; exact mP_69 xs
    | 70, h => cases h; exact mP_70 xs
    | 71, h => cases h; exact mP_71 xs
    | 72, h => cases h; exact mP_72 xs
    | 73, h => cases h; exact mP_73 xs
    | 74, h => cases h; exact mP_74 xs
    | 75, h => cases h; exact mP_75 xs
    | 76, h => cases h; exact mP_76 xs
    | 77, h => cases h; exact mP_77 xs
    | 78, h => cases h; exact mP_78 xs
    | 79, h => cases h; exact mP_79 xs
    | 80, h => cases h; exact mP_80 xs
    | 81, h => cases h; exact mP_81 xs
    | 82, h => cases h; exact mP_82 xs
    | 83, h => cases h; exact mP_83 xs
    | 84, h => cases h; exact mP_84 xs
    | 85, h => cases h; exact mP_85 xs
    | 86, h => cases h; exact mP_86 xs
    | 87, h => cases h; exact mP_87 xs
    | 88, h => cases h; exact mP_88 xs
    | 89, h => cases h; exact mP_89 xs
    | 90, h => cases h; exact mP_90 xs
    | 91, h => cases h; exact mP_91 xs
    | 92, h => cases h; exact mP_92 xs
    | 93, h => cases h; exact mP_93 xs
    | 94, h => cases h; exact mP_94 xs
    | 95, h => cases h; exact mP_95 xs
    | 96, h => cases h; exact mP_96 xs
    | 97, h => cases h; exact mP_97 xs
    | 98, h => cases h; exact mP_98 xs
    | 99, h => cases h; exact mP_99 xs
    | 100, h => cases h; exact mP_100 xs
    | 101, h => cases h; exact mP_101 xs
    | 102, h => cases h; exact mP_102 xs
    | 103, h => cases h; exact mP_103 xs
    | 104, h => cases h; exact mP_104 xs
    | 105, h => cases h; exact mP_105 xs
    | 106, h => cases h; exact mP_106 xs
    | 107, h => cases h; exact mP_107 xs
    | 108, h => cases h; exact mP_108 xs
    | 109, h => cases h; exact mP_109 xs
    | 110, h => cases h; exact mP_110 xs
    | 111, h => cases h; exact mP_111 xs
    | 112, h => cases h; exact mP_112 xs
    | 113, h => cases h; exact mP_113 xs
    | 114, h => cases h; exact mP_114 xs
    | 115, h => cases h; exact mP_115 xs
    | 116, h => cases h; exact mP_116 xs
    | 117, h => cases h; exact mP_117 xs
    | 118, h => cases h; exact mP_118 xs
    | 119, h => cases h; exact mP_119 xs
    | 120, h => cases h; exact mP_120 xs
    | 121, h => cases h; exact mP_121 xs
    | 122, h => cases h; exact mP_122 xs
    | 123, h => cases h; exact mP_123 xs
    | 124, h => cases h; exact mP_124 xs
    | 125, h => cases h; exact mP_125 xs
    | 126, h => cases h; exact mP_126 xs
    | 127, h => cases h; exact mP_127 xs
    | 128, h => cases h; exact mP_128 xs
    | 129, h => cases h; exact mP_129 xs
    | 130, h => cases h; exact mP_130 xs
    | 131, h => cases h; exact mP_131 xs
    | 132, h => cases h; exact mP_132 xs
    | 133, h => cases h; exact mP_133 xs
    | 134, h => cases h; exact mP_134 xs
    | 135, h => cases h; exact mP_135 xs
    | 136, h => cases h; exact mP_136 xs
    | 137, h => cases h; exact mP_137 xs
    | 138, h => cases h; exact mP_138 xs
    | 139, h => cases h; exact mP_139 xs
    | 140, h => cases h; exact mP_140 xs
    | 141, h => cases h; exact mP_141 xs
    | 142, h => cases h; exact mP_142 xs
    | 143, h => cases h; exact mP_143 xs
    | 144, h => cases h; exact mP_144 xs
    | 145, h => cases h; exact mP_145 xs
    | 146, h => cases h; exact mP_146 xs
    | 147, h => cases h; exact mP_147 xs
    | 148, h => cases h; exact mP_148 xs
    | 149, h => cases h; exact mP_149 xs
    | 150, h => cases h; exact mP_150 xs
    | 151, h => cases h; exact mP_151 xs
    | 152, h => cases h; exact mP_152 xs
    | 153, h => cases h; exact mP_153 xs
    | 154, h => cases h; exact mP_154 xs
    | 155, h => cases h; exact mP_155 xs
    | 156, h => cases h; exact mP_156 xs
    | 157, h => cases h; exact mP_157 xs
    | 158, h => cases h; exact mP_158 xs
    | 159, h => cases h; exact mP_159 xs
    | 160, h => cases h; exact mP_160 xs
    | 161, h => cases h; exact mP_161 xs
    | 162, h => cases h; exact mP_162 xs
    | 163, h => cases h; exact mP_163 xs
    | 164, h => cases h; exact mP_164 xs
    | 165, h => cases h; exact mP_165 xs
    | 166, h => cases h; exact mP_166 xs
    | 167, h => cases h; exact mP_167 xs
    | 168, h => cases h; exact mP_168 xs
    | 169, h => cases h; exact mP_169 xs
    | 170, h => cases h; exact mP_170 xs
    | 171, h => cases h; exact mP_171 xs
    | 172, h => cases h; exact mP_172 xs
    | 173, h => cases h; exact mP_173 xs
    | 174, h => cases h; exact mP_174 xs
    | 175, h => cases h; exact mP_175 xs
    | 176, h => cases h; exact mP_176 xs
    | 177, h => cases h; exact mP_177 xs
    | 178, h => cases h; exact mP_178 xs
    | 179, h => cases h; exact mP_179 xs
    | 180, h => cases h; exact mP_180 xs
    | 181, h => cases h; exact mP_181 xs
    | 182, h => cases h; exact mP_182 xs
    | 183, h => cases h; exact mP_183 xs
    | 184, h => cases h; exact mP_184 xs
    | 185, h => cases h; exact mP_185 xs
    | 186, h => cases h; exact mP_186 xs
    | 187, h => cases h; exact mP_187 xs
    | 188, h => cases h; exact mP_188 xs
    | 189, h => cases h; exact mP_189 xs
    | 190, h => cases h; exact mP_190 xs
    | 191, h => cases h; exact mP_191 xs
    | 192, h => cases h; exact mP_192 xs
    | 193, h => cases h; exact mP_193 xs
    | 194, h => cases h; exact mP_194 xs
    | 195, h => cases h; exact mP_195 xs
    | 196, h => cases h; exact mP_196 xs
    | 197, h => cases h; exact mP_197 xs
    | 198, h => cases h; exact mP_198 xs
    | 199, h => cases h; exact mP_199 xs
    | 200, h => cases h; exact mP_200 xs
    | 201, h => cases h; exact mP_201 xs
    | 202, h => cases h; exact mP_202 xs
    | 203, h => cases h; exact mP_203 xs
    | 204, h => cases h; exact mP_204 xs
    | 205, h => cases h; exact mP_205 xs
    | 206, h => cases h; exact mP_206 xs
    | 207, h => cases h; exact mP_207 xs
    | 208, h => cases h; exact mP_208 xs
    | 209, h => cases h; exact mP_209 xs
    | 210, h => cases h; exact mP_210 xs
    | 211, h => cases h; exact mP_211 xs
    | 212, h => cases h; exact mP_212 xs
    | 213, h => cases h; exact mP_213 xs
    | 214, h => cases h; exact mP_214 xs
    | 215, h => cases h; exact mP_215 xs
    | 216, h => cases h; exact mP_216 xs
    | 217, h => cases h; exact mP_217 xs
    | 218, h => cases h; exact mP_218 xs
    | 219, h => cases h; exact mP_219 xs
    | 220, h => cases h; exact mP_220 xs
    | 221, h => cases h; exact mP_221 xs
    | 222, h => cases h; exact mP_222 xs
    | 223, h => cases h; exact mP_223 xs
    | 224, h => cases h; exact mP_224 xs
    | 225, h => cases h; exact mP_225 xs
    | 226, h => cases h; exact mP_226 xs
    | 227, h => cases h; exact mP_227 xs
    | 228, h => cases h; exact mP_228 xs
    | 229, h => cases h; exact mP_229 xs
    | 230, h => cases h; exact mP_230 xs
    | 231, h => cases h; exact mP_231 xs
    | 232, h => cases h; exact mP_232 xs
    | 233, h => cases h; exact mP_233 xs
    | 234, h => cases h; exact mP_234 xs
    | 235, h => cases h; exact mP_235 xs
    | 236, h => cases h; exact mP_236 xs
    | 237, h => cases h; exact mP_237 xs
    | 238, h => cases h; exact mP_238 xs
    | 239, h => cases h; exact mP_239 xs
    | 240, h => cases h; exact mP_240 xs
    | 241, h => cases h; exact mP_241 xs
    | 242, h => cases h; exact mP_242 xs
    | 243, h => cases h; exact mP_243 xs
    | 244, h => cases h; exact mP_244 xs
    | 245, h => cases h; exact mP_245 xs
    | 246, h => cases h; exact mP_246 xs
    | 247, h => cases h; exact mP_247 xs
    | 248, h => cases h; exact mP_248 xs
    | 249, h => cases h; exact mP_249 xs
    | 250, h => cases h; exact mP_250 xs
    | 251, h => cases h; exact mP_251 xs
    | 252, h => cases h; exact mP_252 xs
    | 253, h => cases h; exact mP_253 xs
    | 254, h => cases h; exact mP_254 xs
    | 255, h => cases h; exact mP_255 xs
    | 256, h => cases h; exact mP_256 xs
    | 257, h => cases h; exact mP_257 xs
    | 258, h => cases h; exact mP_258 xs
    | 259, h => cases h; exact mP_259 xs
    | 260, h => cases h; exact mP_260 xs
    | 261, h => cases h; exact mP_261 xs
    | 262, h => cases h; exact mP_262 xs
    | 263, h => cases h; exact mP_263 xs
    | 264, h => cases h; exact mP_264 xs
    | 265, h => cases h; exact mP_265 xs
    | 266, h => cases h; exact mP_266 xs
    | 267, h => cases h; exact mP_267 xs
    | 268, h => cases h; exact mP_268 xs
    | 269, h => cases h; exact mP_269 xs
    | 270, h => cases h; exact mP_270 xs
    | 271, h => cases h; exact mP_271 xs
    | 272, h => cases h; exact mP_272 xs
    | 273, h => cases h; exact mP_273 xs
    | 274, h => cases h; exact mP_274 xs
    | 275, h => cases h; exact mP_275 xs
    | 276, h => cases h; exact mP_276 xs
    | 277, h => cases h; exact mP_277 xs
    | 278, h => cases h; exact mP_278 xs
    | 279, h => cases h; exact mP_279 xs
    | 280, h => cases h; exact mP_280 xs
    | 281, h => cases h; exact mP_281 xs
    | 282, h => cases h; exact mP_282 xs
    | 283, h => cases h; exact mP_283 xs
    | 284, h => cases h; exact mP_284 xs
    | 285, h => cases h; exact mP_285 xs
    | 286, h => cases h; exact mP_286 xs
    | 287, h => cases h; exact mP_287 xs
    | 288, h => cases h; exact mP_288 xs
    | 289, h => cases h; exact mP_289 xs
    | 290, h => cases h; exact mP_290 xs
    | 291, h => cases h; exact mP_291 xs
    | 292, h => cases h; exact mP_292 xs
    | 293, h => cases h; exact mP_293 xs
    | 294, h => cases h; exact mP_294 xs
    | 295, h => cases h; exact mP_295 xs
    | 296, h => cases h; exact mP_296 xs
    | 297, h => cases h; exact mP_297 xs
    | 298, h => cases h; exact mP_298 xs
    | 299, h => cases h; exact mP_299 xs
    | 300, h => cases h; exact mP_300 xs
    | 301, h => cases h; exact mP_301 xs
    | 302, h => cases h; exact mP_302 xs
    | 303, h => cases h; exact mP_303 xs
    | 304, h => cases h; exact mP_304 xs
    | 305, h => cases h; exact mP_305 xs
    | 306, h => cases h; exact mP_306 xs
    | 307, h => cases h; exact mP_307 xs
    | 308, h => cases h; exact mP_308 xs
    | 309, h => cases h; exact mP_309 xs
    | 310, h => cases h; exact mP_310 xs
    | 311, h => cases h; exact mP_311 xs
    | 312, h => cases h; exact mP_312 xs
    | 313, h => cases h; exact mP_313 xs
    | 314, h => cases h; exact mP_314 xs
    | 315, h => cases h; exact mP_315 xs
    | 316, h => cases h; exact mP_316 xs
    | 317, h => cases h; exact mP_317 xs
    | 318, h => cases h; exact mP_318 xs
    | 319, h => cases h; exact mP_319 xs
    | 320, h => cases h; exact mP_320 xs
    | 321, h => cases h; exact mP_321 xs
    | 322, h => cases h; exact mP_322 xs
    | 323, h => cases h; exact mP_323 xs
    | 324, h => cases h; exact mP_324 xs
    | 325, h => cases h; exact mP_325 xs
    | 326, h => cases h; exact mP_326 xs
    | 327, h => cases h; exact mP_327 xs
    | 328, h => cases h; exact mP_328 xs
    | 329, h => cases h; exact mP_329 xs
    | 330, h => cases h; exact mP_330 xs
    | 331, h => cases h; exact mP_331 xs
    | 332, h => cases h; exact mP_332 xs
    | 333, h => cases h; exact mP_333 xs
    | 334, h => cases h; exact mP_334 xs
    | 335, h => cases h; exact mP_335 xs
    | 336, h => cases h; exact mP_336 xs
    | 337, h => cases h; exact mP_337 xs
    | 338, h => cases h; exact mP_338 xs
    | 339, h => cases h; exact mP_339 xs
    | 340, h => cases h; exact mP_340 xs
    | 341, h => cases h; exact mP_341 xs
    | 342, h => cases h; exact mP_342 xs
    | 343, h => cases h; exact mP_343 xs
    | 344, h => cases h; exact mP_344 xs
    | 345, h => cases h; exact mP_345 xs
    | 346, h => cases h; exact mP_346 xs
    | 347, h => cases h; exact mP_347 xs
    | 348, h => cases h; exact mP_348 xs
    | 349, h => cases h; exact mP_349 xs
    | 350, h => cases h; exact mP_350 xs
    | 351, h => cases h; exact mP_351 xs
    | 352, h => cases h; exact mP_352 xs
    | 353, h => cases h; exact mP_353 xs
    | 354, h => cases h; exact mP_354 xs
    | 355, h => cases h; exact mP_355 xs
    | 356, h => cases h; exact mP_356 xs
    | 357, h => cases h; exact mP_357 xs
    | 358, h => cases h; exact mP_358 xs
    | 359, h => cases h; exact mP_359 xs
    | 360, h => cases h; exact mP_360 xs
    | 361, h => cases h; exact mP_361 xs
    | 362, h => cases h; exact mP_362 xs
    | 363, h => cases h; exact mP_363 xs
    | 364, h => cases h; exact mP_364 xs
    | 365, h => cases h; exact mP_365 xs
    | 366, h => cases h; exact mP_366 xs
    | 367, h => cases h; exact mP_367 xs
    | 368, h => cases h; exact mP_368 xs
    | 369, h => cases h; exact mP_369 xs
    | 370, h => cases h; exact mP_370 xs
    | 371, h => cases h; exact mP_371 xs
    | 372, h => cases h; exact mP_372 xs
    | 373, h => cases h; exact mP_373 xs
    | 374, h => cases h; exact mP_374 xs
    | 375, h => cases h; exact mP_375 xs
    | 376, h => cases h; exact mP_376 xs
    | 377, h => cases h; exact mP_377 xs
    | 378, h => cases h; exact mP_378 xs
    | 379, h => cases h; exact mP_379 xs
    | 380, h => cases h; exact mP_380 xs
    | 381, h => cases h; exact mP_381 xs
    | 382, h => cases h; exact mP_382 xs
    | 383, h => cases h; exact mP_383 xs
    | 384, h => cases h; exact mP_384 xs
    | 385, h => cases h; exact mP_385 xs
    | 386, h => cases h; exact mP_386 xs
    | 387, h => cases h; exact mP_387 xs
    | 388, h => cases h; exact mP_388 xs
    | 389, h => cases h; exact mP_389 xs
    | 390, h => cases h; exact mP_390 xs
    | 391, h => cases h; exact mP_391 xs
    | 392, h => cases h; exact mP_392 xs
    | 393, h => cases h; exact mP_393 xs
    | 394, h => cases h; exact mP_394 xs
    | 395, h => cases h; exact mP_395 xs
    | 396, h => cases h; exact mP_396 xs
    | 397, h => cases h; exact mP_397 xs
    | 398, h => cases h; exact mP_398 xs
    | 399, h => cases h; exact mP_399 xs
    | 400, h => cases h; exact mP_400 xs
    | 401, h => cases h; exact mP_401 xs
    | 402, h => cases h; exact mP_402 xs
    | 403, h => cases h; exact mP_403 xs
    | 404, h => cases h; exact mP_404 xs
    | 405, h => cases h; exact mP_405 xs
    | 406, h => cases h; exact mP_406 xs
    | 407, h => cases h; exact mP_407 xs
    | 408, h => cases h; exact mP_408 xs
    | 409, h => cases h; exact mP_409 xs
    | 410, h => cases h; exact mP_410 xs
    | 411, h => cases h; exact mP_411 xs
    | 412, h => cases h; exact mP_412 xs
    | 413, h => cases h; exact mP_413 xs
    | 414, h => cases h; exact mP_414 xs
    | 415, h => cases h; exact mP_415 xs
    | 416, h => cases h; exact mP_416 xs
    | 417, h => cases h; exact mP_417 xs
    | 418, h => cases h; exact mP_418 xs
    | 419, h => cases h; exact mP_419 xs
    | 420, h => cases h; exact mP_420 xs
    | 421, h => cases h; exact mP_421 xs
    | 422, h => cases h; exact mP_422 xs
    | 423, h => cases h; exact mP_423 xs
    | 424, h => cases h; exact mP_424 xs
    | 425, h => cases h; exact mP_425 xs
    | 426, h => cases h; exact mP_426 xs
    | 427, h => cases h; exact mP_427 xs
    | 428, h => cases h; exact mP_428 xs
    | 429, h => cases h; exact mP_429 xs
    | 430, h => cases h; exact mP_430 xs
    | 431, h => cases h; exact mP_431 xs
    | 432, h => cases h; exact mP_432 xs
    | 433, h => cases h; exact mP_433 xs
    | 434, h => cases h; exact mP_434 xs
    | 435, h => cases h; exact mP_435 xs
    | n + 436, h => cases h
