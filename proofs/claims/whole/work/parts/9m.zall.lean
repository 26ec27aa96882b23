/-! EVERY METHOD of the table is as the tables say (written by wip/whole/src/zall.py) -/
theorem z_lk {mi : Nat → zI} {NM : Nat} {own : String} {isI : Bool} {rt : Option FieldType} {cc : ByteArray} : ∀ (l : List (Nat × zO)), l.all (fun q => z_opok mi NM own isI rt cc q.1 q.2) = true → ∀ pc, z_opok mi NM own isI rt cc pc (z_look l pc) = true
  | [], _, pc => rfl
  | q :: l, h, pc => by
    rw [List.all_cons, Bool.and_eq_true] at h
    show z_opok mi NM own isI rt cc pc (if q.1 = pc then q.2 else z_look l pc) = true
    split
    · rename_i e; rw [← e]; exact h.1
    · exact z_lk l h.2 pc
def z_P (k : Nat) : Prop := z_mok (z_mi k) (z_ml k) = true ∧ ∀ pc, z_opok z_mi z_NM (z_mi k).1.cls (decide ((z_mi k).1.name = "<init>")) (z_mi k).2.2.1 (z_mi k).2.1 pc (z_cd k pc) = true
theorem z_one {k : Nat} {l : List (Nat × zO)} {own : String} {isI : Bool} {rt : Option FieldType} {cc : ByteArray} (h1 : z_mok (z_mi k) (z_ml k) = true) (h2 : l.all (fun q => z_opok z_mi z_NM own isI rt cc q.1 q.2) = true) (e1 : zc_all.getD k [] = l) (e2 : (z_mi k).1.cls = own) (e3 : decide ((z_mi k).1.name = "<init>") = isI) (e4 : (z_mi k).2.2.1 = rt) (e5 : (z_mi k).2.1 = cc) : z_P k := by
  refine ⟨h1, fun pc => ?_⟩
  rw [e2, e3, e4, e5]
  show z_opok z_mi z_NM own isI rt cc pc (z_look (zc_all.getD k []) pc) = true
  rw [e1]
  exact z_lk l h2 pc
theorem za_0 : z_P 0 := z_one zm_0 zk_0 rfl rfl (by decide +kernel) rfl rfl
theorem za_1 : z_P 1 := z_one zm_1 zk_1 rfl rfl (by decide +kernel) rfl rfl
theorem za_2 : z_P 2 := z_one zm_2 zk_2 rfl rfl (by decide +kernel) rfl rfl
theorem za_3 : z_P 3 := z_one zm_3 zk_3 rfl rfl (by decide +kernel) rfl rfl
theorem za_4 : z_P 4 := z_one zm_4 zk_4 rfl rfl (by decide +kernel) rfl rfl
theorem za_5 : z_P 5 := z_one zm_5 zk_5 rfl rfl (by decide +kernel) rfl rfl
theorem za_6 : z_P 6 := z_one zm_6 zk_6 rfl rfl (by decide +kernel) rfl rfl
theorem za_7 : z_P 7 := z_one zm_7 zk_7 rfl rfl (by decide +kernel) rfl rfl
theorem za_8 : z_P 8 := z_one zm_8 zk_8 rfl rfl (by decide +kernel) rfl rfl
theorem za_9 : z_P 9 := z_one zm_9 zk_9 rfl rfl (by decide +kernel) rfl rfl
theorem za_10 : z_P 10 := z_one zm_10 zk_10 rfl rfl (by decide +kernel) rfl rfl
theorem za_11 : z_P 11 := z_one zm_11 zk_11 rfl rfl (by decide +kernel) rfl rfl
theorem za_12 : z_P 12 := z_one zm_12 zk_12 rfl rfl (by decide +kernel) rfl rfl
theorem za_13 : z_P 13 := z_one zm_13 zk_13 rfl rfl (by decide +kernel) rfl rfl
theorem za_14 : z_P 14 := z_one zm_14 zk_14 rfl rfl (by decide +kernel) rfl rfl
theorem za_15 : z_P 15 := z_one zm_15 zk_15 rfl rfl (by decide +kernel) rfl rfl
theorem za_16 : z_P 16 := z_one zm_16 zk_16 rfl rfl (by decide +kernel) rfl rfl
theorem za_17 : z_P 17 := z_one zm_17 zk_17 rfl rfl (by decide +kernel) rfl rfl
theorem za_18 : z_P 18 := z_one zm_18 zk_18 rfl rfl (by decide +kernel) rfl rfl
theorem za_19 : z_P 19 := z_one zm_19 zk_19 rfl rfl (by decide +kernel) rfl rfl
theorem za_20 : z_P 20 := z_one zm_20 zk_20 rfl rfl (by decide +kernel) rfl rfl
theorem za_21 : z_P 21 := z_one zm_21 zk_21 rfl rfl (by decide +kernel) rfl rfl
theorem za_22 : z_P 22 := z_one zm_22 zk_22 rfl rfl (by decide +kernel) rfl rfl
theorem za_23 : z_P 23 := z_one zm_23 zk_23 rfl rfl (by decide +kernel) rfl rfl
theorem za_24 : z_P 24 := z_one zm_24 zk_24 rfl rfl (by decide +kernel) rfl rfl
theorem za_25 : z_P 25 := z_one zm_25 zk_25 rfl rfl (by decide +kernel) rfl rfl
theorem za_26 : z_P 26 := z_one zm_26 zk_26 rfl rfl (by decide +kernel) rfl rfl
theorem za_27 : z_P 27 := z_one zm_27 zk_27 rfl rfl (by decide +kernel) rfl rfl
theorem za_28 : z_P 28 := z_one zm_28 zk_28 rfl rfl (by decide +kernel) rfl rfl
theorem za_29 : z_P 29 := z_one zm_29 zk_29 rfl rfl (by decide +kernel) rfl rfl
theorem za_30 : z_P 30 := z_one zm_30 zk_30 rfl rfl (by decide +kernel) rfl rfl
theorem za_31 : z_P 31 := z_one zm_31 zk_31 rfl rfl (by decide +kernel) rfl rfl
theorem za_32 : z_P 32 := z_one zm_32 zk_32 rfl rfl (by decide +kernel) rfl rfl
theorem za_33 : z_P 33 := z_one zm_33 zk_33 rfl rfl (by decide +kernel) rfl rfl
theorem za_34 : z_P 34 := z_one zm_34 zk_34 rfl rfl (by decide +kernel) rfl rfl
theorem za_35 : z_P 35 := z_one zm_35 zk_35 rfl rfl (by decide +kernel) rfl rfl
theorem za_36 : z_P 36 := z_one zm_36 zk_36 rfl rfl (by decide +kernel) rfl rfl
theorem za_37 : z_P 37 := z_one zm_37 zk_37 rfl rfl (by decide +kernel) rfl rfl
theorem za_38 : z_P 38 := z_one zm_38 zk_38 rfl rfl (by decide +kernel) rfl rfl
theorem za_39 : z_P 39 := z_one zm_39 zk_39 rfl rfl (by decide +kernel) rfl rfl
theorem za_40 : z_P 40 := z_one zm_40 zk_40 rfl rfl (by decide +kernel) rfl rfl
theorem za_41 : z_P 41 := z_one zm_41 zk_41 rfl rfl (by decide +kernel) rfl rfl
theorem za_42 : z_P 42 := z_one zm_42 zk_42 rfl rfl (by decide +kernel) rfl rfl
theorem za_43 : z_P 43 := z_one zm_43 zk_43 rfl rfl (by decide +kernel) rfl rfl
theorem za_44 : z_P 44 := z_one zm_44 zk_44 rfl rfl (by decide +kernel) rfl rfl
theorem za_45 : z_P 45 := z_one zm_45 zk_45 rfl rfl (by decide +kernel) rfl rfl
theorem za_46 : z_P 46 := z_one zm_46 zk_46 rfl rfl (by decide +kernel) rfl rfl
theorem za_47 : z_P 47 := z_one zm_47 zk_47 rfl rfl (by decide +kernel) rfl rfl
theorem za_48 : z_P 48 := z_one zm_48 zk_48 rfl rfl (by decide +kernel) rfl rfl
theorem za_49 : z_P 49 := z_one zm_49 zk_49 rfl rfl (by decide +kernel) rfl rfl
theorem za_50 : z_P 50 := z_one zm_50 zk_50 rfl rfl (by decide +kernel) rfl rfl
theorem za_51 : z_P 51 := z_one zm_51 zk_51 rfl rfl (by decide +kernel) rfl rfl
theorem za_52 : z_P 52 := z_one zm_52 zk_52 rfl rfl (by decide +kernel) rfl rfl
theorem za_53 : z_P 53 := z_one zm_53 zk_53 rfl rfl (by decide +kernel) rfl rfl
theorem za_54 : z_P 54 := z_one zm_54 zk_54 rfl rfl (by decide +kernel) rfl rfl
theorem za_55 : z_P 55 := z_one zm_55 zk_55 rfl rfl (by decide +kernel) rfl rfl
theorem za_56 : z_P 56 := z_one zm_56 zk_56 rfl rfl (by decide +kernel) rfl rfl
theorem za_57 : z_P 57 := z_one zm_57 zk_57 rfl rfl (by decide +kernel) rfl rfl
theorem za_58 : z_P 58 := z_one zm_58 zk_58 rfl rfl (by decide +kernel) rfl rfl
theorem za_59 : z_P 59 := z_one zm_59 zk_59 rfl rfl (by decide +kernel) rfl rfl
theorem za_60 : z_P 60 := z_one zm_60 zk_60 rfl rfl (by decide +kernel) rfl rfl
theorem za_61 : z_P 61 := z_one zm_61 zk_61 rfl rfl (by decide +kernel) rfl rfl
theorem za_62 : z_P 62 := z_one zm_62 zk_62 rfl rfl (by decide +kernel) rfl rfl
theorem za_63 : z_P 63 := z_one zm_63 zk_63 rfl rfl (by decide +kernel) rfl rfl
theorem za_64 : z_P 64 := z_one zm_64 zk_64 rfl rfl (by decide +kernel) rfl rfl
theorem za_65 : z_P 65 := z_one zm_65 zk_65 rfl rfl (by decide +kernel) rfl rfl
theorem za_66 : z_P 66 := z_one zm_66 zk_66 rfl rfl (by decide +kernel) rfl rfl
theorem za_67 : z_P 67 := z_one zm_67 zk_67 rfl rfl (by decide +kernel) rfl rfl
theorem za_68 : z_P 68 := z_one zm_68 zk_68 rfl rfl (by decide +kernel) rfl rfl
theorem za_69 : z_P 69 := z_one zm_69 zk_69 rfl rfl (by decide +kernel) rfl rfl
theorem za_70 : z_P 70 := z_one zm_70 zk_70 rfl rfl (by decide +kernel) rfl rfl
theorem za_71 : z_P 71 := z_one zm_71 zk_71 rfl rfl (by decide +kernel) rfl rfl
theorem za_72 : z_P 72 := z_one zm_72 zk_72 rfl rfl (by decide +kernel) rfl rfl
theorem za_73 : z_P 73 := z_one zm_73 zk_73 rfl rfl (by decide +kernel) rfl rfl
theorem za_74 : z_P 74 := z_one zm_74 zk_74 rfl rfl (by decide +kernel) rfl rfl
theorem za_75 : z_P 75 := z_one zm_75 zk_75 rfl rfl (by decide +kernel) rfl rfl
theorem za_76 : z_P 76 := z_one zm_76 zk_76 rfl rfl (by decide +kernel) rfl rfl
theorem za_77 : z_P 77 := z_one zm_77 zk_77 rfl rfl (by decide +kernel) rfl rfl
theorem za_78 : z_P 78 := z_one zm_78 zk_78 rfl rfl (by decide +kernel) rfl rfl
theorem za_79 : z_P 79 := z_one zm_79 zk_79 rfl rfl (by decide +kernel) rfl rfl
theorem za_80 : z_P 80 := z_one zm_80 zk_80 rfl rfl (by decide +kernel) rfl rfl
theorem za_81 : z_P 81 := z_one zm_81 zk_81 rfl rfl (by decide +kernel) rfl rfl
theorem za_82 : z_P 82 := z_one zm_82 zk_82 rfl rfl (by decide +kernel) rfl rfl
theorem za_83 : z_P 83 := z_one zm_83 zk_83 rfl rfl (by decide +kernel) rfl rfl
theorem za_84 : z_P 84 := z_one zm_84 zk_84 rfl rfl (by decide +kernel) rfl rfl
theorem za_85 : z_P 85 := z_one zm_85 zk_85 rfl rfl (by decide +kernel) rfl rfl
theorem za_86 : z_P 86 := z_one zm_86 zk_86 rfl rfl (by decide +kernel) rfl rfl
theorem za_87 : z_P 87 := z_one zm_87 zk_87 rfl rfl (by decide +kernel) rfl rfl
theorem za_88 : z_P 88 := z_one zm_88 zk_88 rfl rfl (by decide +kernel) rfl rfl
theorem za_89 : z_P 89 := z_one zm_89 zk_89 rfl rfl (by decide +kernel) rfl rfl
theorem za_90 : z_P 90 := z_one zm_90 zk_90 rfl rfl (by decide +kernel) rfl rfl
theorem za_91 : z_P 91 := z_one zm_91 zk_91 rfl rfl (by decide +kernel) rfl rfl
theorem za_92 : z_P 92 := z_one zm_92 zk_92 rfl rfl (by decide +kernel) rfl rfl
theorem za_93 : z_P 93 := z_one zm_93 zk_93 rfl rfl (by decide +kernel) rfl rfl
theorem za_94 : z_P 94 := z_one zm_94 zk_94 rfl rfl (by decide +kernel) rfl rfl
theorem za_95 : z_P 95 := z_one zm_95 zk_95 rfl rfl (by decide +kernel) rfl rfl
theorem za_96 : z_P 96 := z_one zm_96 zk_96 rfl rfl (by decide +kernel) rfl rfl
theorem za_97 : z_P 97 := z_one zm_97 zk_97 rfl rfl (by decide +kernel) rfl rfl
theorem za_98 : z_P 98 := z_one zm_98 zk_98 rfl rfl (by decide +kernel) rfl rfl
theorem za_99 : z_P 99 := z_one zm_99 zk_99 rfl rfl (by decide +kernel) rfl rfl
theorem za_100 : z_P 100 := z_one zm_100 zk_100 rfl rfl (by decide +kernel) rfl rfl
theorem za_101 : z_P 101 := z_one zm_101 zk_101 rfl rfl (by decide +kernel) rfl rfl
theorem za_102 : z_P 102 := z_one zm_102 zk_102 rfl rfl (by decide +kernel) rfl rfl
theorem za_103 : z_P 103 := z_one zm_103 zk_103 rfl rfl (by decide +kernel) rfl rfl
theorem za_104 : z_P 104 := z_one zm_104 zk_104 rfl rfl (by decide +kernel) rfl rfl
theorem za_105 : z_P 105 := z_one zm_105 zk_105 rfl rfl (by decide +kernel) rfl rfl
theorem za_106 : z_P 106 := z_one zm_106 zk_106 rfl rfl (by decide +kernel) rfl rfl
theorem za_107 : z_P 107 := z_one zm_107 zk_107 rfl rfl (by decide +kernel) rfl rfl
theorem za_108 : z_P 108 := z_one zm_108 zk_108 rfl rfl (by decide +kernel) rfl rfl
theorem za_109 : z_P 109 := z_one zm_109 zk_109 rfl rfl (by decide +kernel) rfl rfl
theorem za_110 : z_P 110 := z_one zm_110 zk_110 rfl rfl (by decide +kernel) rfl rfl
theorem za_111 : z_P 111 := z_one zm_111 zk_111 rfl rfl (by decide +kernel) rfl rfl
theorem za_112 : z_P 112 := z_one zm_112 zk_112 rfl rfl (by decide +kernel) rfl rfl
theorem za_113 : z_P 113 := z_one zm_113 zk_113 rfl rfl (by decide +kernel) rfl rfl
theorem za_114 : z_P 114 := z_one zm_114 zk_114 rfl rfl (by decide +kernel) rfl rfl
theorem za_115 : z_P 115 := z_one zm_115 zk_115 rfl rfl (by decide +kernel) rfl rfl
theorem za_116 : z_P 116 := z_one zm_116 zk_116 rfl rfl (by decide +kernel) rfl rfl
theorem za_117 : z_P 117 := z_one zm_117 zk_117 rfl rfl (by decide +kernel) rfl rfl
theorem za_118 : z_P 118 := z_one zm_118 zk_118 rfl rfl (by decide +kernel) rfl rfl
theorem za_119 : z_P 119 := z_one zm_119 zk_119 rfl rfl (by decide +kernel) rfl rfl
theorem za_120 : z_P 120 := z_one zm_120 zk_120 rfl rfl (by decide +kernel) rfl rfl
theorem za_121 : z_P 121 := z_one zm_121 zk_121 rfl rfl (by decide +kernel) rfl rfl
theorem za_122 : z_P 122 := z_one zm_122 zk_122 rfl rfl (by decide +kernel) rfl rfl
theorem za_123 : z_P 123 := z_one zm_123 zk_123 rfl rfl (by decide +kernel) rfl rfl
theorem za_124 : z_P 124 := z_one zm_124 zk_124 rfl rfl (by decide +kernel) rfl rfl
theorem za_125 : z_P 125 := z_one zm_125 zk_125 rfl rfl (by decide +kernel) rfl rfl
theorem za_126 : z_P 126 := z_one zm_126 zk_126 rfl rfl (by decide +kernel) rfl rfl
theorem za_127 : z_P 127 := z_one zm_127 zk_127 rfl rfl (by decide +kernel) rfl rfl
theorem za_128 : z_P 128 := z_one zm_128 zk_128 rfl rfl (by decide +kernel) rfl rfl
theorem za_129 : z_P 129 := z_one zm_129 zk_129 rfl rfl (by decide +kernel) rfl rfl
theorem za_130 : z_P 130 := z_one zm_130 zk_130 rfl rfl (by decide +kernel) rfl rfl
theorem za_131 : z_P 131 := z_one zm_131 zk_131 rfl rfl (by decide +kernel) rfl rfl
theorem za_132 : z_P 132 := z_one zm_132 zk_132 rfl rfl (by decide +kernel) rfl rfl
theorem za_133 : z_P 133 := z_one zm_133 zk_133 rfl rfl (by decide +kernel) rfl rfl
theorem za_134 : z_P 134 := z_one zm_134 zk_134 rfl rfl (by decide +kernel) rfl rfl
theorem za_135 : z_P 135 := z_one zm_135 zk_135 rfl rfl (by decide +kernel) rfl rfl
theorem za_136 : z_P 136 := z_one zm_136 zk_136 rfl rfl (by decide +kernel) rfl rfl
theorem za_137 : z_P 137 := z_one zm_137 zk_137 rfl rfl (by decide +kernel) rfl rfl
theorem za_138 : z_P 138 := z_one zm_138 zk_138 rfl rfl (by decide +kernel) rfl rfl
theorem za_139 : z_P 139 := z_one zm_139 zk_139 rfl rfl (by decide +kernel) rfl rfl
theorem za_140 : z_P 140 := z_one zm_140 zk_140 rfl rfl (by decide +kernel) rfl rfl
theorem za_141 : z_P 141 := z_one zm_141 zk_141 rfl rfl (by decide +kernel) rfl rfl
theorem za_142 : z_P 142 := z_one zm_142 zk_142 rfl rfl (by decide +kernel) rfl rfl
theorem za_143 : z_P 143 := z_one zm_143 zk_143 rfl rfl (by decide +kernel) rfl rfl
theorem za_144 : z_P 144 := z_one zm_144 zk_144 rfl rfl (by decide +kernel) rfl rfl
theorem za_145 : z_P 145 := z_one zm_145 zk_145 rfl rfl (by decide +kernel) rfl rfl
theorem za_146 : z_P 146 := z_one zm_146 zk_146 rfl rfl (by decide +kernel) rfl rfl
theorem za_147 : z_P 147 := z_one zm_147 zk_147 rfl rfl (by decide +kernel) rfl rfl
theorem za_148 : z_P 148 := z_one zm_148 zk_148 rfl rfl (by decide +kernel) rfl rfl
theorem za_149 : z_P 149 := z_one zm_149 zk_149 rfl rfl (by decide +kernel) rfl rfl
theorem za_150 : z_P 150 := z_one zm_150 zk_150 rfl rfl (by decide +kernel) rfl rfl
theorem za_151 : z_P 151 := z_one zm_151 zk_151 rfl rfl (by decide +kernel) rfl rfl
theorem za_152 : z_P 152 := z_one zm_152 zk_152 rfl rfl (by decide +kernel) rfl rfl
theorem za_153 : z_P 153 := z_one zm_153 zk_153 rfl rfl (by decide +kernel) rfl rfl
theorem za_154 : z_P 154 := z_one zm_154 zk_154 rfl rfl (by decide +kernel) rfl rfl
theorem za_155 : z_P 155 := z_one zm_155 zk_155 rfl rfl (by decide +kernel) rfl rfl
theorem za_156 : z_P 156 := z_one zm_156 zk_156 rfl rfl (by decide +kernel) rfl rfl
theorem za_157 : z_P 157 := z_one zm_157 zk_157 rfl rfl (by decide +kernel) rfl rfl
theorem za_158 : z_P 158 := z_one zm_158 zk_158 rfl rfl (by decide +kernel) rfl rfl
theorem za_159 : z_P 159 := z_one zm_159 zk_159 rfl rfl (by decide +kernel) rfl rfl
theorem za_160 : z_P 160 := z_one zm_160 zk_160 rfl rfl (by decide +kernel) rfl rfl
theorem za_161 : z_P 161 := z_one zm_161 zk_161 rfl rfl (by decide +kernel) rfl rfl
theorem za_162 : z_P 162 := z_one zm_162 zk_162 rfl rfl (by decide +kernel) rfl rfl
theorem za_163 : z_P 163 := z_one zm_163 zk_163 rfl rfl (by decide +kernel) rfl rfl
theorem za_164 : z_P 164 := z_one zm_164 zk_164 rfl rfl (by decide +kernel) rfl rfl
theorem za_165 : z_P 165 := z_one zm_165 zk_165 rfl rfl (by decide +kernel) rfl rfl
theorem za_166 : z_P 166 := z_one zm_166 zk_166 rfl rfl (by decide +kernel) rfl rfl
theorem za_167 : z_P 167 := z_one zm_167 zk_167 rfl rfl (by decide +kernel) rfl rfl
theorem za_168 : z_P 168 := z_one zm_168 zk_168 rfl rfl (by decide +kernel) rfl rfl
theorem za_169 : z_P 169 := z_one zm_169 zk_169 rfl rfl (by decide +kernel) rfl rfl
theorem za_170 : z_P 170 := z_one zm_170 zk_170 rfl rfl (by decide +kernel) rfl rfl
theorem za_171 : z_P 171 := z_one zm_171 zk_171 rfl rfl (by decide +kernel) rfl rfl
theorem za_172 : z_P 172 := z_one zm_172 zk_172 rfl rfl (by decide +kernel) rfl rfl
theorem za_173 : z_P 173 := z_one zm_173 zk_173 rfl rfl (by decide +kernel) rfl rfl
theorem za_174 : z_P 174 := z_one zm_174 zk_174 rfl rfl (by decide +kernel) rfl rfl
theorem za_175 : z_P 175 := z_one zm_175 zk_175 rfl rfl (by decide +kernel) rfl rfl
theorem za_176 : z_P 176 := z_one zm_176 zk_176 rfl rfl (by decide +kernel) rfl rfl
theorem za_177 : z_P 177 := z_one zm_177 zk_177 rfl rfl (by decide +kernel) rfl rfl
theorem za_178 : z_P 178 := z_one zm_178 zk_178 rfl rfl (by decide +kernel) rfl rfl
theorem za_179 : z_P 179 := z_one zm_179 zk_179 rfl rfl (by decide +kernel) rfl rfl
theorem za_180 : z_P 180 := z_one zm_180 zk_180 rfl rfl (by decide +kernel) rfl rfl
theorem za_181 : z_P 181 := z_one zm_181 zk_181 rfl rfl (by decide +kernel) rfl rfl
theorem za_182 : z_P 182 := z_one zm_182 zk_182 rfl rfl (by decide +kernel) rfl rfl
theorem za_183 : z_P 183 := z_one zm_183 zk_183 rfl rfl (by decide +kernel) rfl rfl
theorem za_184 : z_P 184 := z_one zm_184 zk_184 rfl rfl (by decide +kernel) rfl rfl
theorem za_185 : z_P 185 := z_one zm_185 zk_185 rfl rfl (by decide +kernel) rfl rfl
theorem za_186 : z_P 186 := z_one zm_186 zk_186 rfl rfl (by decide +kernel) rfl rfl
theorem za_187 : z_P 187 := z_one zm_187 zk_187 rfl rfl (by decide +kernel) rfl rfl
theorem za_188 : z_P 188 := z_one zm_188 zk_188 rfl rfl (by decide +kernel) rfl rfl
theorem za_189 : z_P 189 := z_one zm_189 zk_189 rfl rfl (by decide +kernel) rfl rfl
theorem za_190 : z_P 190 := z_one zm_190 zk_190 rfl rfl (by decide +kernel) rfl rfl
theorem za_191 : z_P 191 := z_one zm_191 zk_191 rfl rfl (by decide +kernel) rfl rfl
theorem za_192 : z_P 192 := z_one zm_192 zk_192 rfl rfl (by decide +kernel) rfl rfl
theorem za_193 : z_P 193 := z_one zm_193 zk_193 rfl rfl (by decide +kernel) rfl rfl
theorem za_194 : z_P 194 := z_one zm_194 zk_194 rfl rfl (by decide +kernel) rfl rfl
theorem za_195 : z_P 195 := z_one zm_195 zk_195 rfl rfl (by decide +kernel) rfl rfl
theorem za_196 : z_P 196 := z_one zm_196 zk_196 rfl rfl (by decide +kernel) rfl rfl
theorem za_197 : z_P 197 := z_one zm_197 zk_197 rfl rfl (by decide +kernel) rfl rfl
theorem za_198 : z_P 198 := z_one zm_198 zk_198 rfl rfl (by decide +kernel) rfl rfl
theorem za_199 : z_P 199 := z_one zm_199 zk_199 rfl rfl (by decide +kernel) rfl rfl
theorem za_200 : z_P 200 := z_one zm_200 zk_200 rfl rfl (by decide +kernel) rfl rfl
theorem za_201 : z_P 201 := z_one zm_201 zk_201 rfl rfl (by decide +kernel) rfl rfl
theorem za_202 : z_P 202 := z_one zm_202 zk_202 rfl rfl (by decide +kernel) rfl rfl
theorem za_203 : z_P 203 := z_one zm_203 zk_203 rfl rfl (by decide +kernel) rfl rfl
theorem za_204 : z_P 204 := z_one zm_204 zk_204 rfl rfl (by decide +kernel) rfl rfl
theorem za_205 : z_P 205 := z_one zm_205 zk_205 rfl rfl (by decide +kernel) rfl rfl
theorem za_206 : z_P 206 := z_one zm_206 zk_206 rfl rfl (by decide +kernel) rfl rfl
theorem za_207 : z_P 207 := z_one zm_207 zk_207 rfl rfl (by decide +kernel) rfl rfl
theorem za_208 : z_P 208 := z_one zm_208 zk_208 rfl rfl (by decide +kernel) rfl rfl
theorem za_209 : z_P 209 := z_one zm_209 zk_209 rfl rfl (by decide +kernel) rfl rfl
theorem za_210 : z_P 210 := z_one zm_210 zk_210 rfl rfl (by decide +kernel) rfl rfl
theorem za_211 : z_P 211 := z_one zm_211 zk_211 rfl rfl (by decide +kernel) rfl rfl
theorem za_212 : z_P 212 := z_one zm_212 zk_212 rfl rfl (by decide +kernel) rfl rfl
theorem za_213 : z_P 213 := z_one zm_213 zk_213 rfl rfl (by decide +kernel) rfl rfl
theorem za_214 : z_P 214 := z_one zm_214 zk_214 rfl rfl (by decide +kernel) rfl rfl
theorem za_215 : z_P 215 := z_one zm_215 zk_215 rfl rfl (by decide +kernel) rfl rfl
theorem za_216 : z_P 216 := z_one zm_216 zk_216 rfl rfl (by decide +kernel) rfl rfl
theorem za_217 : z_P 217 := z_one zm_217 zk_217 rfl rfl (by decide +kernel) rfl rfl
theorem za_218 : z_P 218 := z_one zm_218 zk_218 rfl rfl (by decide +kernel) rfl rfl
theorem za_219 : z_P 219 := z_one zm_219 zk_219 rfl rfl (by decide +kernel) rfl rfl
theorem za_220 : z_P 220 := z_one zm_220 zk_220 rfl rfl (by decide +kernel) rfl rfl
theorem za_221 : z_P 221 := z_one zm_221 zk_221 rfl rfl (by decide +kernel) rfl rfl
theorem za_222 : z_P 222 := z_one zm_222 zk_222 rfl rfl (by decide +kernel) rfl rfl
theorem za_223 : z_P 223 := z_one zm_223 zk_223 rfl rfl (by decide +kernel) rfl rfl
theorem za_224 : z_P 224 := z_one zm_224 zk_224 rfl rfl (by decide +kernel) rfl rfl
theorem za_225 : z_P 225 := z_one zm_225 zk_225 rfl rfl (by decide +kernel) rfl rfl
theorem za_226 : z_P 226 := z_one zm_226 zk_226 rfl rfl (by decide +kernel) rfl rfl
theorem za_227 : z_P 227 := z_one zm_227 zk_227 rfl rfl (by decide +kernel) rfl rfl
theorem za_228 : z_P 228 := z_one zm_228 zk_228 rfl rfl (by decide +kernel) rfl rfl
theorem za_229 : z_P 229 := z_one zm_229 zk_229 rfl rfl (by decide +kernel) rfl rfl
theorem za_230 : z_P 230 := z_one zm_230 zk_230 rfl rfl (by decide +kernel) rfl rfl
theorem za_231 : z_P 231 := z_one zm_231 zk_231 rfl rfl (by decide +kernel) rfl rfl
theorem za_232 : z_P 232 := z_one zm_232 zk_232 rfl rfl (by decide +kernel) rfl rfl
theorem za_233 : z_P 233 := z_one zm_233 zk_233 rfl rfl (by decide +kernel) rfl rfl
theorem za_234 : z_P 234 := z_one zm_234 zk_234 rfl rfl (by decide +kernel) rfl rfl
theorem za_235 : z_P 235 := z_one zm_235 zk_235 rfl rfl (by decide +kernel) rfl rfl
theorem za_236 : z_P 236 := z_one zm_236 zk_236 rfl rfl (by decide +kernel) rfl rfl
theorem za_237 : z_P 237 := z_one zm_237 zk_237 rfl rfl (by decide +kernel) rfl rfl
theorem za_238 : z_P 238 := z_one zm_238 zk_238 rfl rfl (by decide +kernel) rfl rfl
theorem za_239 : z_P 239 := z_one zm_239 zk_239 rfl rfl (by decide +kernel) rfl rfl
theorem za_240 : z_P 240 := z_one zm_240 zk_240 rfl rfl (by decide +kernel) rfl rfl
theorem za_241 : z_P 241 := z_one zm_241 zk_241 rfl rfl (by decide +kernel) rfl rfl
theorem za_242 : z_P 242 := z_one zm_242 zk_242 rfl rfl (by decide +kernel) rfl rfl
theorem za_243 : z_P 243 := z_one zm_243 zk_243 rfl rfl (by decide +kernel) rfl rfl
theorem za_244 : z_P 244 := z_one zm_244 zk_244 rfl rfl (by decide +kernel) rfl rfl
theorem za_245 : z_P 245 := z_one zm_245 zk_245 rfl rfl (by decide +kernel) rfl rfl
theorem za_246 : z_P 246 := z_one zm_246 zk_246 rfl rfl (by decide +kernel) rfl rfl
theorem za_247 : z_P 247 := z_one zm_247 zk_247 rfl rfl (by decide +kernel) rfl rfl
theorem za_248 : z_P 248 := z_one zm_248 zk_248 rfl rfl (by decide +kernel) rfl rfl
theorem za_249 : z_P 249 := z_one zm_249 zk_249 rfl rfl (by decide +kernel) rfl rfl
theorem za_250 : z_P 250 := z_one zm_250 zk_250 rfl rfl (by decide +kernel) rfl rfl
theorem za_251 : z_P 251 := z_one zm_251 zk_251 rfl rfl (by decide +kernel) rfl rfl
theorem za_252 : z_P 252 := z_one zm_252 zk_252 rfl rfl (by decide +kernel) rfl rfl
theorem za_253 : z_P 253 := z_one zm_253 zk_253 rfl rfl (by decide +kernel) rfl rfl
theorem za_254 : z_P 254 := z_one zm_254 zk_254 rfl rfl (by decide +kernel) rfl rfl
theorem za_255 : z_P 255 := z_one zm_255 zk_255 rfl rfl (by decide +kernel) rfl rfl
theorem za_256 : z_P 256 := z_one zm_256 zk_256 rfl rfl (by decide +kernel) rfl rfl
theorem za_257 : z_P 257 := z_one zm_257 zk_257 rfl rfl (by decide +kernel) rfl rfl
theorem za_258 : z_P 258 := z_one zm_258 zk_258 rfl rfl (by decide +kernel) rfl rfl
theorem za_259 : z_P 259 := z_one zm_259 zk_259 rfl rfl (by decide +kernel) rfl rfl
theorem za_260 : z_P 260 := z_one zm_260 zk_260 rfl rfl (by decide +kernel) rfl rfl
theorem za_261 : z_P 261 := z_one zm_261 zk_261 rfl rfl (by decide +kernel) rfl rfl
theorem za_262 : z_P 262 := z_one zm_262 zk_262 rfl rfl (by decide +kernel) rfl rfl
theorem za_263 : z_P 263 := z_one zm_263 zk_263 rfl rfl (by decide +kernel) rfl rfl
theorem za_264 : z_P 264 := z_one zm_264 zk_264 rfl rfl (by decide +kernel) rfl rfl
theorem za_265 : z_P 265 := z_one zm_265 zk_265 rfl rfl (by decide +kernel) rfl rfl
theorem za_266 : z_P 266 := z_one zm_266 zk_266 rfl rfl (by decide +kernel) rfl rfl
theorem za_267 : z_P 267 := z_one zm_267 zk_267 rfl rfl (by decide +kernel) rfl rfl
theorem za_268 : z_P 268 := z_one zm_268 zk_268 rfl rfl (by decide +kernel) rfl rfl
theorem za_269 : z_P 269 := z_one zm_269 zk_269 rfl rfl (by decide +kernel) rfl rfl
theorem za_270 : z_P 270 := z_one zm_270 zk_270 rfl rfl (by decide +kernel) rfl rfl
theorem za_271 : z_P 271 := z_one zm_271 zk_271 rfl rfl (by decide +kernel) rfl rfl
theorem za_272 : z_P 272 := z_one zm_272 zk_272 rfl rfl (by decide +kernel) rfl rfl
theorem za_273 : z_P 273 := z_one zm_273 zk_273 rfl rfl (by decide +kernel) rfl rfl
theorem za_274 : z_P 274 := z_one zm_274 zk_274 rfl rfl (by decide +kernel) rfl rfl
theorem za_275 : z_P 275 := z_one zm_275 zk_275 rfl rfl (by decide +kernel) rfl rfl
theorem za_276 : z_P 276 := z_one zm_276 zk_276 rfl rfl (by decide +kernel) rfl rfl
theorem za_277 : z_P 277 := z_one zm_277 zk_277 rfl rfl (by decide +kernel) rfl rfl
theorem za_278 : z_P 278 := z_one zm_278 zk_278 rfl rfl (by decide +kernel) rfl rfl
theorem za_279 : z_P 279 := z_one zm_279 zk_279 rfl rfl (by decide +kernel) rfl rfl
theorem za_280 : z_P 280 := z_one zm_280 zk_280 rfl rfl (by decide +kernel) rfl rfl
theorem za_281 : z_P 281 := z_one zm_281 zk_281 rfl rfl (by decide +kernel) rfl rfl
theorem za_282 : z_P 282 := z_one zm_282 zk_282 rfl rfl (by decide +kernel) rfl rfl
theorem za_283 : z_P 283 := z_one zm_283 zk_283 rfl rfl (by decide +kernel) rfl rfl
theorem za_284 : z_P 284 := z_one zm_284 zk_284 rfl rfl (by decide +kernel) rfl rfl
theorem za_285 : z_P 285 := z_one zm_285 zk_285 rfl rfl (by decide +kernel) rfl rfl
theorem za_286 : z_P 286 := z_one zm_286 zk_286 rfl rfl (by decide +kernel) rfl rfl
theorem za_287 : z_P 287 := z_one zm_287 zk_287 rfl rfl (by decide +kernel) rfl rfl
theorem za_288 : z_P 288 := z_one zm_288 zk_288 rfl rfl (by decide +kernel) rfl rfl
theorem za_289 : z_P 289 := z_one zm_289 zk_289 rfl rfl (by decide +kernel) rfl rfl
theorem za_290 : z_P 290 := z_one zm_290 zk_290 rfl rfl (by decide +kernel) rfl rfl
theorem za_291 : z_P 291 := z_one zm_291 zk_291 rfl rfl (by decide +kernel) rfl rfl
theorem za_292 : z_P 292 := z_one zm_292 zk_292 rfl rfl (by decide +kernel) rfl rfl
theorem za_293 : z_P 293 := z_one zm_293 zk_293 rfl rfl (by decide +kernel) rfl rfl
theorem za_294 : z_P 294 := z_one zm_294 zk_294 rfl rfl (by decide +kernel) rfl rfl
theorem za_295 : z_P 295 := z_one zm_295 zk_295 rfl rfl (by decide +kernel) rfl rfl
theorem za_296 : z_P 296 := z_one zm_296 zk_296 rfl rfl (by decide +kernel) rfl rfl
theorem za_297 : z_P 297 := z_one zm_297 zk_297 rfl rfl (by decide +kernel) rfl rfl
theorem za_298 : z_P 298 := z_one zm_298 zk_298 rfl rfl (by decide +kernel) rfl rfl
theorem za_299 : z_P 299 := z_one zm_299 zk_299 rfl rfl (by decide +kernel) rfl rfl
theorem za_300 : z_P 300 := z_one zm_300 zk_300 rfl rfl (by decide +kernel) rfl rfl
theorem za_301 : z_P 301 := z_one zm_301 zk_301 rfl rfl (by decide +kernel) rfl rfl
theorem za_302 : z_P 302 := z_one zm_302 zk_302 rfl rfl (by decide +kernel) rfl rfl
theorem za_303 : z_P 303 := z_one zm_303 zk_303 rfl rfl (by decide +kernel) rfl rfl
theorem za_304 : z_P 304 := z_one zm_304 zk_304 rfl rfl (by decide +kernel) rfl rfl
theorem za_305 : z_P 305 := z_one zm_305 zk_305 rfl rfl (by decide +kernel) rfl rfl
theorem za_306 : z_P 306 := z_one zm_306 zk_306 rfl rfl (by decide +kernel) rfl rfl
theorem za_307 : z_P 307 := z_one zm_307 zk_307 rfl rfl (by decide +kernel) rfl rfl
theorem za_308 : z_P 308 := z_one zm_308 zk_308 rfl rfl (by decide +kernel) rfl rfl
theorem za_309 : z_P 309 := z_one zm_309 zk_309 rfl rfl (by decide +kernel) rfl rfl
theorem za_310 : z_P 310 := z_one zm_310 zk_310 rfl rfl (by decide +kernel) rfl rfl
theorem zg_0 (k : Nat) (h1 : 0 ≤ k) (h2 : k < 20) : z_P k := by
  have : k = 0 ∨ k = 1 ∨ k = 2 ∨ k = 3 ∨ k = 4 ∨ k = 5 ∨ k = 6 ∨ k = 7 ∨ k = 8 ∨ k = 9 ∨ k = 10 ∨ k = 11 ∨ k = 12 ∨ k = 13 ∨ k = 14 ∨ k = 15 ∨ k = 16 ∨ k = 17 ∨ k = 18 ∨ k = 19 := by omega
  rcases this with rfl | rfl | rfl | rfl | rfl | rfl | rfl | rfl | rfl | rfl | rfl | rfl | rfl | rfl | rfl | rfl | rfl | rfl | rfl | rfl
  · exact za_0
  · exact za_1
  · exact za_2
  · exact za_3
  · exact za_4
  · exact za_5
  · exact za_6
  · exact za_7
  · exact za_8
  · exact za_9
  · exact za_10
  · exact za_11
  · exact za_12
  · exact za_13
  · exact za_14
  · exact za_15
  · exact za_16
  · exact za_17
  · exact za_18
  · exact za_19
theorem zg_1 (k : Nat) (h1 : 20 ≤ k) (h2 : k < 40) : z_P k := by
  have : k = 20 ∨ k = 21 ∨ k = 22 ∨ k = 23 ∨ k = 24 ∨ k = 25 ∨ k = 26 ∨ k = 27 ∨ k = 28 ∨ k = 29 ∨ k = 30 ∨ k = 31 ∨ k = 32 ∨ k = 33 ∨ k = 34 ∨ k = 35 ∨ k = 36 ∨ k = 37 ∨ k = 38 ∨ k = 39 := by omega
  rcases this with rfl | rfl | rfl | rfl | rfl | rfl | rfl | rfl | rfl | rfl | rfl | rfl | rfl | rfl | rfl | rfl | rfl | rfl | rfl | rfl
  · exact za_20
  · exact za_21
  · exact za_22
  · exact za_23
  · exact za_24
  · exact za_25
  · exact za_26
  · exact za_27
  · exact za_28
  · exact za_29
  · exact za_30
  · exact za_31
  · exact za_32
  · exact za_33
  · exact za_34
  · exact za_35
  · exact za_36
  · exact za_37
  · exact za_38
  · exact za_39
theorem zg_2 (k : Nat) (h1 : 40 ≤ k) (h2 : k < 60) : z_P k := by
  have : k = 40 ∨ k = 41 ∨ k = 42 ∨ k = 43 ∨ k = 44 ∨ k = 45 ∨ k = 46 ∨ k = 47 ∨ k = 48 ∨ k = 49 ∨ k = 50 ∨ k = 51 ∨ k = 52 ∨ k = 53 ∨ k = 54 ∨ k = 55 ∨ k = 56 ∨ k = 57 ∨ k = 58 ∨ k = 59 := by omega
  rcases this with rfl | rfl | rfl | rfl | rfl | rfl | rfl | rfl | rfl | rfl | rfl | rfl | rfl | rfl | rfl | rfl | rfl | rfl | rfl | rfl
  · exact za_40
  · exact za_41
  · exact za_42
  · exact za_43
  · exact za_44
  · exact za_45
  · exact za_46
  · exact za_47
  · exact za_48
  · exact za_49
  · exact za_50
  · exact za_51
  · exact za_52
  · exact za_53
  · exact za_54
  · exact za_55
  · exact za_56
  · exact za_57
  · exact za_58
  · exact za_59
theorem zg_3 (k : Nat) (h1 : 60 ≤ k) (h2 : k < 80) : z_P k := by
  have : k = 60 ∨ k = 61 ∨ k = 62 ∨ k = 63 ∨ k = 64 ∨ k = 65 ∨ k = 66 ∨ k = 67 ∨ k = 68 ∨ k = 69 ∨ k = 70 ∨ k = 71 ∨ k = 72 ∨ k = 73 ∨ k = 74 ∨ k = 75 ∨ k = 76 ∨ k = 77 ∨ k = 78 ∨ k = 79 := by omega
  rcases this with rfl | rfl | rfl | rfl | rfl | rfl | rfl | rfl | rfl | rfl | rfl | rfl | rfl | rfl | rfl | rfl | rfl | rfl | rfl | rfl
  · exact za_60
  · exact za_61
  · exact za_62
  · exact za_63
  · exact za_64
  · exact za_65
  · exact za_66
  · exact za_67
  · exact za_68
  · exact za_69
  · exact za_70
  · exact za_71
  · exact za_72
  · exact za_73
  · exact za_74
  · exact za_75
  · exact za_76
  · exact za_77
  · exact za_78
  · exact za_79
theorem zg_4 (k : Nat) (h1 : 80 ≤ k) (h2 : k < 100) : z_P k := by
  have : k = 80 ∨ k = 81 ∨ k = 82 ∨ k = 83 ∨ k = 84 ∨ k = 85 ∨ k = 86 ∨ k = 87 ∨ k = 88 ∨ k = 89 ∨ k = 90 ∨ k = 91 ∨ k = 92 ∨ k = 93 ∨ k = 94 ∨ k = 95 ∨ k = 96 ∨ k = 97 ∨ k = 98 ∨ k = 99 := by omega
  rcases this with rfl | rfl | rfl | rfl | rfl | rfl | rfl | rfl | rfl | rfl | rfl | rfl | rfl | rfl | rfl | rfl | rfl | rfl | rfl | rfl
  · exact za_80
  · exact za_81
  · exact za_82
  · exact za_83
  · exact za_84
  · exact za_85
  · exact za_86
  · exact za_87
  · exact za_88
  · exact za_89
  · exact za_90
  · exact za_91
  · exact za_92
  · exact za_93
  · exact za_94
  · exact za_95
  · exact za_96
  · exact za_97
  · exact za_98
  · exact za_99
theorem zg_5 (k : Nat) (h1 : 100 ≤ k) (h2 : k < 120) : z_P k := by
  have : k = 100 ∨ k = 101 ∨ k = 102 ∨ k = 103 ∨ k = 104 ∨ k = 105 ∨ k = 106 ∨ k = 107 ∨ k = 108 ∨ k = 109 ∨ k = 110 ∨ k = 111 ∨ k = 112 ∨ k = 113 ∨ k = 114 ∨ k = 115 ∨ k = 116 ∨ k = 117 ∨ k = 118 ∨ k = 119 := by omega
  rcases this with rfl | rfl | rfl | rfl | rfl | rfl | rfl | rfl | rfl | rfl | rfl | rfl | rfl | rfl | rfl | rfl | rfl | rfl | rfl | rfl
  · exact za_100
  · exact za_101
  · exact za_102
  · exact za_103
  · exact za_104
  · exact za_105
  · exact za_106
  · exact za_107
  · exact za_108
  · exact za_109
  · exact za_110
  · exact za_111
  · exact za_112
  · exact za_113
  · exact za_114
  · exact za_115
  · exact za_116
  · exact za_117
  · exact za_118
  · exact za_119
theorem zg_6 (k : Nat) (h1 : 120 ≤ k) (h2 : k < 140) : z_P k := by
  have : k = 120 ∨ k = 121 ∨ k = 122 ∨ k = 123 ∨ k = 124 ∨ k = 125 ∨ k = 126 ∨ k = 127 ∨ k = 128 ∨ k = 129 ∨ k = 130 ∨ k = 131 ∨ k = 132 ∨ k = 133 ∨ k = 134 ∨ k = 135 ∨ k = 136 ∨ k = 137 ∨ k = 138 ∨ k = 139 := by omega
  rcases this with rfl | rfl | rfl | rfl | rfl | rfl | rfl | rfl | rfl | rfl | rfl | rfl | rfl | rfl | rfl | rfl | rfl | rfl | rfl | rfl
  · exact za_120
  · exact za_121
  · exact za_122
  · exact za_123
  · exact za_124
  · exact za_125
  · exact za_126
  · exact za_127
  · exact za_128
  · exact za_129
  · exact za_130
  · exact za_131
  · exact za_132
  · exact za_133
  · exact za_134
  · exact za_135
  · exact za_136
  · exact za_137
  · exact za_138
  · exact za_139
theorem zg_7 (k : Nat) (h1 : 140 ≤ k) (h2 : k < 160) : z_P k := by
  have : k = 140 ∨ k = 141 ∨ k = 142 ∨ k = 143 ∨ k = 144 ∨ k = 145 ∨ k = 146 ∨ k = 147 ∨ k = 148 ∨ k = 149 ∨ k = 150 ∨ k = 151 ∨ k = 152 ∨ k = 153 ∨ k = 154 ∨ k = 155 ∨ k = 156 ∨ k = 157 ∨ k = 158 ∨ k = 159 := by omega
  rcases this with rfl | rfl | rfl | rfl | rfl | rfl | rfl | rfl | rfl | rfl | rfl | rfl | rfl | rfl | rfl | rfl | rfl | rfl | rfl | rfl
  · exact za_140
  · exact za_141
  · exact za_142
  · exact za_143
  · exact za_144
  · exact za_145
  · exact za_146
  · exact za_147
  · exact za_148
  · exact za_149
  · exact za_150
  · exact za_151
  · exact za_152
  · exact za_153
  · exact za_154
  · exact za_155
  · exact za_156
  · exact za_157
  · exact za_158
  · exact za_159
theorem zg_8 (k : Nat) (h1 : 160 ≤ k) (h2 : k < 180) : z_P k := by
  have : k = 160 ∨ k = 161 ∨ k = 162 ∨ k = 163 ∨ k = 164 ∨ k = 165 ∨ k = 166 ∨ k = 167 ∨ k = 168 ∨ k = 169 ∨ k = 170 ∨ k = 171 ∨ k = 172 ∨ k = 173 ∨ k = 174 ∨ k = 175 ∨ k = 176 ∨ k = 177 ∨ k = 178 ∨ k = 179 := by omega
  rcases this with rfl | rfl | rfl | rfl | rfl | rfl | rfl | rfl | rfl | rfl | rfl | rfl | rfl | rfl | rfl | rfl | rfl | rfl | rfl | rfl
  · exact za_160
  · exact za_161
  · exact za_162
  · exact za_163
  · exact za_164
  · exact za_165
  · exact za_166
  · exact za_167
  · exact za_168
  · exact za_169
  · exact za_170
  · exact za_171
  · exact za_172
  · exact za_173
  · exact za_174
  · exact za_175
  · exact za_176
  · exact za_177
  · exact za_178
  · exact za_179
theorem zg_9 (k : Nat) (h1 : 180 ≤ k) (h2 : k < 200) : z_P k := by
  have : k = 180 ∨ k = 181 ∨ k = 182 ∨ k = 183 ∨ k = 184 ∨ k = 185 ∨ k = 186 ∨ k = 187 ∨ k = 188 ∨ k = 189 ∨ k = 190 ∨ k = 191 ∨ k = 192 ∨ k = 193 ∨ k = 194 ∨ k = 195 ∨ k = 196 ∨ k = 197 ∨ k = 198 ∨ k = 199 := by omega
  rcases this with rfl | rfl | rfl | rfl | rfl | rfl | rfl | rfl | rfl | rfl | rfl | rfl | rfl | rfl | rfl | rfl | rfl | rfl | rfl | rfl
  · exact za_180
  · exact za_181
  · exact za_182
  · exact za_183
  · exact za_184
  · exact za_185
  · exact za_186
  · exact za_187
  · exact za_188
  · exact za_189
  · exact za_190
  · exact za_191
  · exact za_192
  · exact za_193
  · exact za_194
  · exact za_195
  · exact za_196
  · exact za_197
  · exact za_198
  · exact za_199
theorem zg_10 (k : Nat) (h1 : 200 ≤ k) (h2 : k < 220) : z_P k := by
  have : k = 200 ∨ k = 201 ∨ k = 202 ∨ k = 203 ∨ k = 204 ∨ k = 205 ∨ k = 206 ∨ k = 207 ∨ k = 208 ∨ k = 209 ∨ k = 210 ∨ k = 211 ∨ k = 212 ∨ k = 213 ∨ k = 214 ∨ k = 215 ∨ k = 216 ∨ k = 217 ∨ k = 218 ∨ k = 219 := by omega
  rcases this with rfl | rfl | rfl | rfl | rfl | rfl | rfl | rfl | rfl | rfl | rfl | rfl | rfl | rfl | rfl | rfl | rfl | rfl | rfl | rfl
  · exact za_200
  · exact za_201
  · exact za_202
  · exact za_203
  · exact za_204
  · exact za_205
  · exact za_206
  · exact za_207
  · exact za_208
  · exact za_209
  · exact za_210
  · exact za_211
  · exact za_212
  · exact za_213
  · exact za_214
  · exact za_215
  · exact za_216
  · exact za_217
  · exact za_218
  · exact za_219
theorem zg_11 (k : Nat) (h1 : 220 ≤ k) (h2 : k < 240) : z_P k := by
  have : k = 220 ∨ k = 221 ∨ k = 222 ∨ k = 223 ∨ k = 224 ∨ k = 225 ∨ k = 226 ∨ k = 227 ∨ k = 228 ∨ k = 229 ∨ k = 230 ∨ k = 231 ∨ k = 232 ∨ k = 233 ∨ k = 234 ∨ k = 235 ∨ k = 236 ∨ k = 237 ∨ k = 238 ∨ k = 239 := by omega
  rcases this with rfl | rfl | rfl | rfl | rfl | rfl | rfl | rfl | rfl | rfl | rfl | rfl | rfl | rfl | rfl | rfl | rfl | rfl | rfl | rfl
  · exact za_220
  · exact za_221
  · exact za_222
  · exact za_223
  · exact za_224
  · exact za_225
  · exact za_226
  · exact za_227
  · exact za_228
  · exact za_229
  · exact za_230
  · exact za_231
  · exact za_232
  · exact za_233
  · exact za_234
  · exact za_235
  · exact za_236
  · exact za_237
  · exact za_238
  · exact za_239
theorem zg_12 (k : Nat) (h1 : 240 ≤ k) (h2 : k < 260) : z_P k := by
  have : k = 240 ∨ k = 241 ∨ k = 242 ∨ k = 243 ∨ k = 244 ∨ k = 245 ∨ k = 246 ∨ k = 247 ∨ k = 248 ∨ k = 249 ∨ k = 250 ∨ k = 251 ∨ k = 252 ∨ k = 253 ∨ k = 254 ∨ k = 255 ∨ k = 256 ∨ k = 257 ∨ k = 258 ∨ k = 259 := by omega
  rcases this with rfl | rfl | rfl | rfl | rfl | rfl | rfl | rfl | rfl | rfl | rfl | rfl | rfl | rfl | rfl | rfl | rfl | rfl | rfl | rfl
  · exact za_240
  · exact za_241
  · exact za_242
  · exact za_243
  · exact za_244
  · exact za_245
  · exact za_246
  · exact za_247
  · exact za_248
  · exact za_249
  · exact za_250
  · exact za_251
  · exact za_252
  · exact za_253
  · exact za_254
  · exact za_255
  · exact za_256
  · exact za_257
  · exact za_258
  · exact za_259
theorem zg_13 (k : Nat) (h1 : 260 ≤ k) (h2 : k < 280) : z_P k := by
  have : k = 260 ∨ k = 261 ∨ k = 262 ∨ k = 263 ∨ k = 264 ∨ k = 265 ∨ k = 266 ∨ k = 267 ∨ k = 268 ∨ k = 269 ∨ k = 270 ∨ k = 271 ∨ k = 272 ∨ k = 273 ∨ k = 274 ∨ k = 275 ∨ k = 276 ∨ k = 277 ∨ k = 278 ∨ k = 279 := by omega
  rcases this with rfl | rfl | rfl | rfl | rfl | rfl | rfl | rfl | rfl | rfl | rfl | rfl | rfl | rfl | rfl | rfl | rfl | rfl | rfl | rfl
  · exact za_260
  · exact za_261
  · exact za_262
  · exact za_263
  · exact za_264
  · exact za_265
  · exact za_266
  · exact za_267
  · exact za_268
  · exact za_269
  · exact za_270
  · exact za_271
  · exact za_272
  · exact za_273
  · exact za_274
  · exact za_275
  · exact za_276
  · exact za_277
  · exact za_278
  · exact za_279
theorem zg_14 (k : Nat) (h1 : 280 ≤ k) (h2 : k < 300) : z_P k := by
  have : k = 280 ∨ k = 281 ∨ k = 282 ∨ k = 283 ∨ k = 284 ∨ k = 285 ∨ k = 286 ∨ k = 287 ∨ k = 288 ∨ k = 289 ∨ k = 290 ∨ k = 291 ∨ k = 292 ∨ k = 293 ∨ k = 294 ∨ k = 295 ∨ k = 296 ∨ k = 297 ∨ k = 298 ∨ k = 299 := by omega
  rcases this with rfl | rfl | rfl | rfl | rfl | rfl | rfl | rfl | rfl | rfl | rfl | rfl | rfl | rfl | rfl | rfl | rfl | rfl | rfl | rfl
  · exact za_280
  · exact za_281
  · exact za_282
  · exact za_283
  · exact za_284
  · exact za_285
  · exact za_286
  · exact za_287
  · exact za_288
  · exact za_289
  · exact za_290
  · exact za_291
  · exact za_292
  · exact za_293
  · exact za_294
  · exact za_295
  · exact za_296
  · exact za_297
  · exact za_298
  · exact za_299
theorem zg_15 (k : Nat) (h1 : 300 ≤ k) (h2 : k < 311) : z_P k := by
  have : k = 300 ∨ k = 301 ∨ k = 302 ∨ k = 303 ∨ k = 304 ∨ k = 305 ∨ k = 306 ∨ k = 307 ∨ k = 308 ∨ k = 309 ∨ k = 310 := by omega
  rcases this with rfl | rfl | rfl | rfl | rfl | rfl | rfl | rfl | rfl | rfl | rfl
  · exact za_300
  · exact za_301
  · exact za_302
  · exact za_303
  · exact za_304
  · exact za_305
  · exact za_306
  · exact za_307
  · exact za_308
  · exact za_309
  · exact za_310
theorem z_all : z_All z_cd z_ml z_mi z_NM := fun k hk => by
  have hk : k < 311 := hk
  show z_P k
  by_cases c0 : k < 20
  · exact zg_0 k (by omega) c0
  by_cases c1 : k < 40
  · exact zg_1 k (by omega) c1
  by_cases c2 : k < 60
  · exact zg_2 k (by omega) c2
  by_cases c3 : k < 80
  · exact zg_3 k (by omega) c3
  by_cases c4 : k < 100
  · exact zg_4 k (by omega) c4
  by_cases c5 : k < 120
  · exact zg_5 k (by omega) c5
  by_cases c6 : k < 140
  · exact zg_6 k (by omega) c6
  by_cases c7 : k < 160
  · exact zg_7 k (by omega) c7
  by_cases c8 : k < 180
  · exact zg_8 k (by omega) c8
  by_cases c9 : k < 200
  · exact zg_9 k (by omega) c9
  by_cases c10 : k < 220
  · exact zg_10 k (by omega) c10
  by_cases c11 : k < 240
  · exact zg_11 k (by omega) c11
  by_cases c12 : k < 260
  · exact zg_12 k (by omega) c12
  by_cases c13 : k < 280
  · exact zg_13 k (by omega) c13
  by_cases c14 : k < 300
  · exact zg_14 k (by omega) c14
  exact zg_15 k (by omega) hk
