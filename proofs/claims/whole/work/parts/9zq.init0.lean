/-! ===== the constructors: their heaps (by gen_init.py) ===== -/
noncomputable def kK_0 : Nat → Nat := fun _ => 0
noncomputable def kL_0 : Nat → Nat := fun _ => 0
noncomputable def iI_0 : Nat → Nat → Int32 := fun _ _ => 0
noncomputable def jJ_0 : Nat → Nat → Int64 := fun _ _ => 0
noncomputable def rR_0 : Nat → Nat → Option Nat := fun _ _ => none
noncomputable def kK_1 : Nat → Nat := aRow kK_0 0 11
noncomputable def kL_1 : Nat → Nat := aRow kL_0 0 0
noncomputable def iI_1 : Nat → Nat → Int32 := aRow iI_0 0 (fun _ => 0)
noncomputable def jJ_1 : Nat → Nat → Int64 := aRow jJ_0 0 (fun _ => 0)
noncomputable def rR_1 : Nat → Nat → Option Nat := aRow rR_0 0 (fun _ => none)
noncomputable def kK_2 : Nat → Nat := aRow kK_1 1 8
noncomputable def kL_2 : Nat → Nat := aRow kL_1 1 0
noncomputable def iI_2 : Nat → Nat → Int32 := aRow iI_1 1 (fun _ => 0)
noncomputable def jJ_2 : Nat → Nat → Int64 := aRow jJ_1 1 (fun _ => 0)
noncomputable def rR_2 : Nat → Nat → Option Nat := aRow rR_1 1 (fun _ => none)
noncomputable def kK_3 : Nat → Nat := aRow kK_2 2 100
noncomputable def kL_3 : Nat → Nat := aRow kL_2 2 1600
noncomputable def iI_3 : Nat → Nat → Int32 := aRow iI_2 2 (fun _ => 0)
noncomputable def jJ_3 : Nat → Nat → Int64 := aRow jJ_2 2 (fun _ => 0)
noncomputable def rR_3 : Nat → Nat → Option Nat := aRow rR_2 2 (fun _ => none)
noncomputable def rR_4 : Nat → Nat → Option Nat := aU rR_3 1 0 (some 2)
noncomputable def kK_4 : Nat → Nat := aRow kK_3 3 100
noncomputable def kL_4 : Nat → Nat := aRow kL_3 3 6
noncomputable def iI_4 : Nat → Nat → Int32 := aRow iI_3 3 (fun _ => 0)
noncomputable def jJ_4 : Nat → Nat → Int64 := aRow jJ_3 3 (fun _ => 0)
noncomputable def rR_5 : Nat → Nat → Option Nat := aRow rR_4 3 (fun _ => none)
noncomputable def rR_6 : Nat → Nat → Option Nat := aU rR_5 1 1 (some 3)
noncomputable def iI_5 : Nat → Nat → Int32 := aU iI_4 1 2 (Int32.ofInt 0)
noncomputable def iI_6 : Nat → Nat → Int32 := aU iI_5 1 3 (Int32.ofInt 0)
noncomputable def iI_7 : Nat → Nat → Int32 := aU iI_6 1 4 (Int32.ofInt 0)
noncomputable def iI_8 : Nat → Nat → Int32 := aU iI_7 1 5 (Int32.ofInt 0)
noncomputable def iI_9 : Nat → Nat → Int32 := aU iI_8 1 6 (Int32.ofInt (-1))
noncomputable def kK_5 : Nat → Nat := aRow kK_4 4 100
noncomputable def kL_5 : Nat → Nat := aRow kL_4 4 256
noncomputable def iI_10 : Nat → Nat → Int32 := aRow iI_9 4 (fun _ => 0)
noncomputable def jJ_5 : Nat → Nat → Int64 := aRow jJ_4 4 (fun _ => 0)
noncomputable def rR_7 : Nat → Nat → Option Nat := aRow rR_6 4 (fun _ => none)
noncomputable def rR_8 : Nat → Nat → Option Nat := aU rR_7 1 7 (some 4)
noncomputable def iI_11 : Nat → Nat → Int32 := aU iI_10 1 8 (Int32.ofInt 0)
noncomputable def iI_12 : Nat → Nat → Int32 := aU iI_11 4 0 (Int32.ofInt 3)
noncomputable def iI_13 : Nat → Nat → Int32 := aU iI_12 4 1 (Int32.ofInt 3)
noncomputable def iI_14 : Nat → Nat → Int32 := aU iI_13 4 2 (Int32.ofInt 3)
noncomputable def iI_15 : Nat → Nat → Int32 := aU iI_14 4 3 (Int32.ofInt 3)
noncomputable def iI_16 : Nat → Nat → Int32 := aU iI_15 4 4 (Int32.ofInt 3)
noncomputable def iI_17 : Nat → Nat → Int32 := aU iI_16 4 5 (Int32.ofInt 3)
noncomputable def iI_18 : Nat → Nat → Int32 := aU iI_17 4 6 (Int32.ofInt 3)
noncomputable def iI_19 : Nat → Nat → Int32 := aU iI_18 4 7 (Int32.ofInt 3)
noncomputable def iI_20 : Nat → Nat → Int32 := aU iI_19 4 8 (Int32.ofInt 3)
noncomputable def iI_21 : Nat → Nat → Int32 := aU iI_20 4 9 (Int32.ofInt 3)
noncomputable def iI_22 : Nat → Nat → Int32 := aU iI_21 4 10 (Int32.ofInt 3)
noncomputable def iI_23 : Nat → Nat → Int32 := aU iI_22 4 11 (Int32.ofInt 3)
noncomputable def iI_24 : Nat → Nat → Int32 := aU iI_23 4 12 (Int32.ofInt 3)
noncomputable def iI_25 : Nat → Nat → Int32 := aU iI_24 4 13 (Int32.ofInt 3)
noncomputable def iI_26 : Nat → Nat → Int32 := aU iI_25 4 14 (Int32.ofInt 3)
noncomputable def iI_27 : Nat → Nat → Int32 := aU iI_26 4 15 (Int32.ofInt 3)
noncomputable def iI_28 : Nat → Nat → Int32 := aU iI_27 4 16 (Int32.ofInt 3)
noncomputable def iI_29 : Nat → Nat → Int32 := aU iI_28 4 17 (Int32.ofInt 3)
noncomputable def iI_30 : Nat → Nat → Int32 := aU iI_29 4 18 (Int32.ofInt 3)
noncomputable def iI_31 : Nat → Nat → Int32 := aU iI_30 4 19 (Int32.ofInt 3)
noncomputable def iI_32 : Nat → Nat → Int32 := aU iI_31 4 20 (Int32.ofInt 3)
noncomputable def iI_33 : Nat → Nat → Int32 := aU iI_32 4 21 (Int32.ofInt 3)
noncomputable def iI_34 : Nat → Nat → Int32 := aU iI_33 4 22 (Int32.ofInt 3)
noncomputable def iI_35 : Nat → Nat → Int32 := aU iI_34 4 23 (Int32.ofInt 3)
noncomputable def iI_36 : Nat → Nat → Int32 := aU iI_35 4 24 (Int32.ofInt 3)
noncomputable def iI_37 : Nat → Nat → Int32 := aU iI_36 4 25 (Int32.ofInt 3)
noncomputable def iI_38 : Nat → Nat → Int32 := aU iI_37 4 26 (Int32.ofInt 3)
noncomputable def iI_39 : Nat → Nat → Int32 := aU iI_38 4 27 (Int32.ofInt 3)
noncomputable def iI_40 : Nat → Nat → Int32 := aU iI_39 4 28 (Int32.ofInt 3)
noncomputable def iI_41 : Nat → Nat → Int32 := aU iI_40 4 29 (Int32.ofInt 3)
noncomputable def iI_42 : Nat → Nat → Int32 := aU iI_41 4 30 (Int32.ofInt 3)
noncomputable def iI_43 : Nat → Nat → Int32 := aU iI_42 4 31 (Int32.ofInt 3)
noncomputable def iI_44 : Nat → Nat → Int32 := aU iI_43 4 32 (Int32.ofInt 3)
noncomputable def iI_45 : Nat → Nat → Int32 := aU iI_44 4 33 (Int32.ofInt 3)
noncomputable def iI_46 : Nat → Nat → Int32 := aU iI_45 4 34 (Int32.ofInt 3)
noncomputable def iI_47 : Nat → Nat → Int32 := aU iI_46 4 35 (Int32.ofInt 3)
noncomputable def iI_48 : Nat → Nat → Int32 := aU iI_47 4 36 (Int32.ofInt 3)
noncomputable def iI_49 : Nat → Nat → Int32 := aU iI_48 4 37 (Int32.ofInt 3)
noncomputable def iI_50 : Nat → Nat → Int32 := aU iI_49 4 38 (Int32.ofInt 3)
noncomputable def iI_51 : Nat → Nat → Int32 := aU iI_50 4 39 (Int32.ofInt 3)
noncomputable def iI_52 : Nat → Nat → Int32 := aU iI_51 4 40 (Int32.ofInt 3)
noncomputable def iI_53 : Nat → Nat → Int32 := aU iI_52 4 41 (Int32.ofInt 3)
noncomputable def iI_54 : Nat → Nat → Int32 := aU iI_53 4 42 (Int32.ofInt 3)
noncomputable def iI_55 : Nat → Nat → Int32 := aU iI_54 4 43 (Int32.ofInt 3)
noncomputable def iI_56 : Nat → Nat → Int32 := aU iI_55 4 44 (Int32.ofInt 3)
noncomputable def iI_57 : Nat → Nat → Int32 := aU iI_56 4 45 (Int32.ofInt 3)
noncomputable def iI_58 : Nat → Nat → Int32 := aU iI_57 4 46 (Int32.ofInt 3)
noncomputable def iI_59 : Nat → Nat → Int32 := aU iI_58 4 47 (Int32.ofInt 3)
noncomputable def iI_60 : Nat → Nat → Int32 := aU iI_59 4 48 (Int32.ofInt 3)
noncomputable def iI_61 : Nat → Nat → Int32 := aU iI_60 4 49 (Int32.ofInt 3)
noncomputable def iI_62 : Nat → Nat → Int32 := aU iI_61 4 50 (Int32.ofInt 3)
noncomputable def iI_63 : Nat → Nat → Int32 := aU iI_62 4 51 (Int32.ofInt 3)
noncomputable def iI_64 : Nat → Nat → Int32 := aU iI_63 4 52 (Int32.ofInt 3)
noncomputable def iI_65 : Nat → Nat → Int32 := aU iI_64 4 53 (Int32.ofInt 3)
noncomputable def iI_66 : Nat → Nat → Int32 := aU iI_65 4 54 (Int32.ofInt 3)
noncomputable def iI_67 : Nat → Nat → Int32 := aU iI_66 4 55 (Int32.ofInt 3)
noncomputable def iI_68 : Nat → Nat → Int32 := aU iI_67 4 56 (Int32.ofInt 3)
noncomputable def iI_69 : Nat → Nat → Int32 := aU iI_68 4 57 (Int32.ofInt 3)
noncomputable def iI_70 : Nat → Nat → Int32 := aU iI_69 4 58 (Int32.ofInt 3)
noncomputable def iI_71 : Nat → Nat → Int32 := aU iI_70 4 59 (Int32.ofInt 3)
noncomputable def iI_72 : Nat → Nat → Int32 := aU iI_71 4 60 (Int32.ofInt 3)
noncomputable def iI_73 : Nat → Nat → Int32 := aU iI_72 4 61 (Int32.ofInt 3)
noncomputable def iI_74 : Nat → Nat → Int32 := aU iI_73 4 62 (Int32.ofInt 3)
noncomputable def iI_75 : Nat → Nat → Int32 := aU iI_74 4 63 (Int32.ofInt 3)
noncomputable def iI_76 : Nat → Nat → Int32 := aU iI_75 4 64 (Int32.ofInt 3)
noncomputable def iI_77 : Nat → Nat → Int32 := aU iI_76 4 65 (Int32.ofInt 3)
noncomputable def iI_78 : Nat → Nat → Int32 := aU iI_77 4 66 (Int32.ofInt 3)
noncomputable def iI_79 : Nat → Nat → Int32 := aU iI_78 4 67 (Int32.ofInt 3)
noncomputable def iI_80 : Nat → Nat → Int32 := aU iI_79 4 68 (Int32.ofInt 3)
noncomputable def iI_81 : Nat → Nat → Int32 := aU iI_80 4 69 (Int32.ofInt 3)
noncomputable def iI_82 : Nat → Nat → Int32 := aU iI_81 4 70 (Int32.ofInt 3)
noncomputable def iI_83 : Nat → Nat → Int32 := aU iI_82 4 71 (Int32.ofInt 3)
noncomputable def iI_84 : Nat → Nat → Int32 := aU iI_83 4 72 (Int32.ofInt 3)
noncomputable def iI_85 : Nat → Nat → Int32 := aU iI_84 4 73 (Int32.ofInt 3)
noncomputable def iI_86 : Nat → Nat → Int32 := aU iI_85 4 74 (Int32.ofInt 3)
noncomputable def iI_87 : Nat → Nat → Int32 := aU iI_86 4 75 (Int32.ofInt 3)
noncomputable def iI_88 : Nat → Nat → Int32 := aU iI_87 4 76 (Int32.ofInt 3)
noncomputable def iI_89 : Nat → Nat → Int32 := aU iI_88 4 77 (Int32.ofInt 3)
noncomputable def iI_90 : Nat → Nat → Int32 := aU iI_89 4 78 (Int32.ofInt 3)
noncomputable def iI_91 : Nat → Nat → Int32 := aU iI_90 4 79 (Int32.ofInt 3)
noncomputable def iI_92 : Nat → Nat → Int32 := aU iI_91 4 80 (Int32.ofInt 3)
noncomputable def iI_93 : Nat → Nat → Int32 := aU iI_92 4 81 (Int32.ofInt 3)
noncomputable def iI_94 : Nat → Nat → Int32 := aU iI_93 4 82 (Int32.ofInt 3)
noncomputable def iI_95 : Nat → Nat → Int32 := aU iI_94 4 83 (Int32.ofInt 3)
noncomputable def iI_96 : Nat → Nat → Int32 := aU iI_95 4 84 (Int32.ofInt 3)
noncomputable def iI_97 : Nat → Nat → Int32 := aU iI_96 4 85 (Int32.ofInt 3)
noncomputable def iI_98 : Nat → Nat → Int32 := aU iI_97 4 86 (Int32.ofInt 3)
noncomputable def iI_99 : Nat → Nat → Int32 := aU iI_98 4 87 (Int32.ofInt 3)
noncomputable def iI_100 : Nat → Nat → Int32 := aU iI_99 4 88 (Int32.ofInt 3)
noncomputable def iI_101 : Nat → Nat → Int32 := aU iI_100 4 89 (Int32.ofInt 3)
noncomputable def iI_102 : Nat → Nat → Int32 := aU iI_101 4 90 (Int32.ofInt 3)
noncomputable def iI_103 : Nat → Nat → Int32 := aU iI_102 4 91 (Int32.ofInt 3)
noncomputable def iI_104 : Nat → Nat → Int32 := aU iI_103 4 92 (Int32.ofInt 3)
noncomputable def iI_105 : Nat → Nat → Int32 := aU iI_104 4 93 (Int32.ofInt 3)
noncomputable def iI_106 : Nat → Nat → Int32 := aU iI_105 4 94 (Int32.ofInt 3)
noncomputable def iI_107 : Nat → Nat → Int32 := aU iI_106 4 95 (Int32.ofInt 3)
noncomputable def iI_108 : Nat → Nat → Int32 := aU iI_107 4 96 (Int32.ofInt 3)
noncomputable def iI_109 : Nat → Nat → Int32 := aU iI_108 4 97 (Int32.ofInt 3)
noncomputable def iI_110 : Nat → Nat → Int32 := aU iI_109 4 98 (Int32.ofInt 3)
noncomputable def iI_111 : Nat → Nat → Int32 := aU iI_110 4 99 (Int32.ofInt 3)
noncomputable def iI_112 : Nat → Nat → Int32 := aU iI_111 4 100 (Int32.ofInt 3)
noncomputable def iI_113 : Nat → Nat → Int32 := aU iI_112 4 101 (Int32.ofInt 3)
noncomputable def iI_114 : Nat → Nat → Int32 := aU iI_113 4 102 (Int32.ofInt 3)
noncomputable def iI_115 : Nat → Nat → Int32 := aU iI_114 4 103 (Int32.ofInt 3)
noncomputable def iI_116 : Nat → Nat → Int32 := aU iI_115 4 104 (Int32.ofInt 3)
noncomputable def iI_117 : Nat → Nat → Int32 := aU iI_116 4 105 (Int32.ofInt 3)
noncomputable def iI_118 : Nat → Nat → Int32 := aU iI_117 4 106 (Int32.ofInt 3)
noncomputable def iI_119 : Nat → Nat → Int32 := aU iI_118 4 107 (Int32.ofInt 3)
noncomputable def iI_120 : Nat → Nat → Int32 := aU iI_119 4 108 (Int32.ofInt 3)
noncomputable def iI_121 : Nat → Nat → Int32 := aU iI_120 4 109 (Int32.ofInt 3)
noncomputable def iI_122 : Nat → Nat → Int32 := aU iI_121 4 110 (Int32.ofInt 3)
noncomputable def iI_123 : Nat → Nat → Int32 := aU iI_122 4 111 (Int32.ofInt 3)
noncomputable def iI_124 : Nat → Nat → Int32 := aU iI_123 4 112 (Int32.ofInt 3)
noncomputable def iI_125 : Nat → Nat → Int32 := aU iI_124 4 113 (Int32.ofInt 3)
noncomputable def iI_126 : Nat → Nat → Int32 := aU iI_125 4 114 (Int32.ofInt 3)
noncomputable def iI_127 : Nat → Nat → Int32 := aU iI_126 4 115 (Int32.ofInt 3)
noncomputable def iI_128 : Nat → Nat → Int32 := aU iI_127 4 116 (Int32.ofInt 3)
noncomputable def iI_129 : Nat → Nat → Int32 := aU iI_128 4 117 (Int32.ofInt 3)
noncomputable def iI_130 : Nat → Nat → Int32 := aU iI_129 4 118 (Int32.ofInt 3)
noncomputable def iI_131 : Nat → Nat → Int32 := aU iI_130 4 119 (Int32.ofInt 3)
noncomputable def iI_132 : Nat → Nat → Int32 := aU iI_131 4 120 (Int32.ofInt 3)
noncomputable def iI_133 : Nat → Nat → Int32 := aU iI_132 4 121 (Int32.ofInt 3)
noncomputable def iI_134 : Nat → Nat → Int32 := aU iI_133 4 122 (Int32.ofInt 3)
noncomputable def iI_135 : Nat → Nat → Int32 := aU iI_134 4 123 (Int32.ofInt 3)
noncomputable def iI_136 : Nat → Nat → Int32 := aU iI_135 4 124 (Int32.ofInt 3)
noncomputable def iI_137 : Nat → Nat → Int32 := aU iI_136 4 125 (Int32.ofInt 3)
noncomputable def iI_138 : Nat → Nat → Int32 := aU iI_137 4 126 (Int32.ofInt 3)
noncomputable def iI_139 : Nat → Nat → Int32 := aU iI_138 4 127 (Int32.ofInt 3)
noncomputable def iI_140 : Nat → Nat → Int32 := aU iI_139 4 128 (Int32.ofInt 3)
noncomputable def iI_141 : Nat → Nat → Int32 := aU iI_140 4 129 (Int32.ofInt 3)
noncomputable def iI_142 : Nat → Nat → Int32 := aU iI_141 4 130 (Int32.ofInt 3)
noncomputable def iI_143 : Nat → Nat → Int32 := aU iI_142 4 131 (Int32.ofInt 3)
noncomputable def iI_144 : Nat → Nat → Int32 := aU iI_143 4 132 (Int32.ofInt 3)
noncomputable def iI_145 : Nat → Nat → Int32 := aU iI_144 4 133 (Int32.ofInt 3)
noncomputable def iI_146 : Nat → Nat → Int32 := aU iI_145 4 134 (Int32.ofInt 3)
noncomputable def iI_147 : Nat → Nat → Int32 := aU iI_146 4 135 (Int32.ofInt 3)
noncomputable def iI_148 : Nat → Nat → Int32 := aU iI_147 4 136 (Int32.ofInt 3)
noncomputable def iI_149 : Nat → Nat → Int32 := aU iI_148 4 137 (Int32.ofInt 3)
noncomputable def iI_150 : Nat → Nat → Int32 := aU iI_149 4 138 (Int32.ofInt 3)
noncomputable def iI_151 : Nat → Nat → Int32 := aU iI_150 4 139 (Int32.ofInt 3)
noncomputable def iI_152 : Nat → Nat → Int32 := aU iI_151 4 140 (Int32.ofInt 3)
noncomputable def iI_153 : Nat → Nat → Int32 := aU iI_152 4 141 (Int32.ofInt 3)
noncomputable def iI_154 : Nat → Nat → Int32 := aU iI_153 4 142 (Int32.ofInt 3)
noncomputable def iI_155 : Nat → Nat → Int32 := aU iI_154 4 143 (Int32.ofInt 3)
noncomputable def iI_156 : Nat → Nat → Int32 := aU iI_155 4 144 (Int32.ofInt 3)
noncomputable def iI_157 : Nat → Nat → Int32 := aU iI_156 4 145 (Int32.ofInt 3)
noncomputable def iI_158 : Nat → Nat → Int32 := aU iI_157 4 146 (Int32.ofInt 3)
noncomputable def iI_159 : Nat → Nat → Int32 := aU iI_158 4 147 (Int32.ofInt 3)
noncomputable def iI_160 : Nat → Nat → Int32 := aU iI_159 4 148 (Int32.ofInt 3)
noncomputable def iI_161 : Nat → Nat → Int32 := aU iI_160 4 149 (Int32.ofInt 3)
noncomputable def iI_162 : Nat → Nat → Int32 := aU iI_161 4 150 (Int32.ofInt 3)
noncomputable def iI_163 : Nat → Nat → Int32 := aU iI_162 4 151 (Int32.ofInt 3)
noncomputable def iI_164 : Nat → Nat → Int32 := aU iI_163 4 152 (Int32.ofInt 3)
noncomputable def iI_165 : Nat → Nat → Int32 := aU iI_164 4 153 (Int32.ofInt 3)
noncomputable def iI_166 : Nat → Nat → Int32 := aU iI_165 4 154 (Int32.ofInt 3)
noncomputable def iI_167 : Nat → Nat → Int32 := aU iI_166 4 155 (Int32.ofInt 3)
noncomputable def iI_168 : Nat → Nat → Int32 := aU iI_167 4 156 (Int32.ofInt 3)
noncomputable def iI_169 : Nat → Nat → Int32 := aU iI_168 4 157 (Int32.ofInt 3)
noncomputable def iI_170 : Nat → Nat → Int32 := aU iI_169 4 158 (Int32.ofInt 3)
noncomputable def iI_171 : Nat → Nat → Int32 := aU iI_170 4 159 (Int32.ofInt 3)
noncomputable def iI_172 : Nat → Nat → Int32 := aU iI_171 4 160 (Int32.ofInt 3)
noncomputable def iI_173 : Nat → Nat → Int32 := aU iI_172 4 161 (Int32.ofInt 3)
noncomputable def iI_174 : Nat → Nat → Int32 := aU iI_173 4 162 (Int32.ofInt 3)
noncomputable def iI_175 : Nat → Nat → Int32 := aU iI_174 4 163 (Int32.ofInt 3)
noncomputable def iI_176 : Nat → Nat → Int32 := aU iI_175 4 164 (Int32.ofInt 3)
noncomputable def iI_177 : Nat → Nat → Int32 := aU iI_176 4 165 (Int32.ofInt 3)
noncomputable def iI_178 : Nat → Nat → Int32 := aU iI_177 4 166 (Int32.ofInt 3)
noncomputable def iI_179 : Nat → Nat → Int32 := aU iI_178 4 167 (Int32.ofInt 3)
noncomputable def iI_180 : Nat → Nat → Int32 := aU iI_179 4 168 (Int32.ofInt 3)
noncomputable def iI_181 : Nat → Nat → Int32 := aU iI_180 4 169 (Int32.ofInt 3)
noncomputable def iI_182 : Nat → Nat → Int32 := aU iI_181 4 170 (Int32.ofInt 3)
noncomputable def iI_183 : Nat → Nat → Int32 := aU iI_182 4 171 (Int32.ofInt 3)
noncomputable def iI_184 : Nat → Nat → Int32 := aU iI_183 4 172 (Int32.ofInt 3)
noncomputable def iI_185 : Nat → Nat → Int32 := aU iI_184 4 173 (Int32.ofInt 3)
noncomputable def iI_186 : Nat → Nat → Int32 := aU iI_185 4 174 (Int32.ofInt 3)
noncomputable def iI_187 : Nat → Nat → Int32 := aU iI_186 4 175 (Int32.ofInt 3)
noncomputable def iI_188 : Nat → Nat → Int32 := aU iI_187 4 176 (Int32.ofInt 3)
noncomputable def iI_189 : Nat → Nat → Int32 := aU iI_188 4 177 (Int32.ofInt 3)
noncomputable def iI_190 : Nat → Nat → Int32 := aU iI_189 4 178 (Int32.ofInt 3)
noncomputable def iI_191 : Nat → Nat → Int32 := aU iI_190 4 179 (Int32.ofInt 3)
noncomputable def iI_192 : Nat → Nat → Int32 := aU iI_191 4 180 (Int32.ofInt 3)
noncomputable def iI_193 : Nat → Nat → Int32 := aU iI_192 4 181 (Int32.ofInt 3)
noncomputable def iI_194 : Nat → Nat → Int32 := aU iI_193 4 182 (Int32.ofInt 3)
noncomputable def iI_195 : Nat → Nat → Int32 := aU iI_194 4 183 (Int32.ofInt 3)
noncomputable def iI_196 : Nat → Nat → Int32 := aU iI_195 4 184 (Int32.ofInt 3)
noncomputable def iI_197 : Nat → Nat → Int32 := aU iI_196 4 185 (Int32.ofInt 3)
noncomputable def iI_198 : Nat → Nat → Int32 := aU iI_197 4 186 (Int32.ofInt 3)
noncomputable def iI_199 : Nat → Nat → Int32 := aU iI_198 4 187 (Int32.ofInt 3)
noncomputable def iI_200 : Nat → Nat → Int32 := aU iI_199 4 188 (Int32.ofInt 3)
noncomputable def iI_201 : Nat → Nat → Int32 := aU iI_200 4 189 (Int32.ofInt 3)
noncomputable def iI_202 : Nat → Nat → Int32 := aU iI_201 4 190 (Int32.ofInt 3)
noncomputable def iI_203 : Nat → Nat → Int32 := aU iI_202 4 191 (Int32.ofInt 3)
noncomputable def iI_204 : Nat → Nat → Int32 := aU iI_203 4 192 (Int32.ofInt 3)
noncomputable def iI_205 : Nat → Nat → Int32 := aU iI_204 4 193 (Int32.ofInt 3)
noncomputable def iI_206 : Nat → Nat → Int32 := aU iI_205 4 194 (Int32.ofInt 3)
noncomputable def iI_207 : Nat → Nat → Int32 := aU iI_206 4 195 (Int32.ofInt 3)
noncomputable def iI_208 : Nat → Nat → Int32 := aU iI_207 4 196 (Int32.ofInt 3)
noncomputable def iI_209 : Nat → Nat → Int32 := aU iI_208 4 197 (Int32.ofInt 3)
noncomputable def iI_210 : Nat → Nat → Int32 := aU iI_209 4 198 (Int32.ofInt 3)
noncomputable def iI_211 : Nat → Nat → Int32 := aU iI_210 4 199 (Int32.ofInt 3)
noncomputable def iI_212 : Nat → Nat → Int32 := aU iI_211 4 200 (Int32.ofInt 3)
noncomputable def iI_213 : Nat → Nat → Int32 := aU iI_212 4 201 (Int32.ofInt 3)
noncomputable def iI_214 : Nat → Nat → Int32 := aU iI_213 4 202 (Int32.ofInt 3)
noncomputable def iI_215 : Nat → Nat → Int32 := aU iI_214 4 203 (Int32.ofInt 3)
noncomputable def iI_216 : Nat → Nat → Int32 := aU iI_215 4 204 (Int32.ofInt 3)
noncomputable def iI_217 : Nat → Nat → Int32 := aU iI_216 4 205 (Int32.ofInt 3)
noncomputable def iI_218 : Nat → Nat → Int32 := aU iI_217 4 206 (Int32.ofInt 3)
noncomputable def iI_219 : Nat → Nat → Int32 := aU iI_218 4 207 (Int32.ofInt 3)
noncomputable def iI_220 : Nat → Nat → Int32 := aU iI_219 4 208 (Int32.ofInt 3)
noncomputable def iI_221 : Nat → Nat → Int32 := aU iI_220 4 209 (Int32.ofInt 3)
noncomputable def iI_222 : Nat → Nat → Int32 := aU iI_221 4 210 (Int32.ofInt 3)
noncomputable def iI_223 : Nat → Nat → Int32 := aU iI_222 4 211 (Int32.ofInt 3)
noncomputable def iI_224 : Nat → Nat → Int32 := aU iI_223 4 212 (Int32.ofInt 3)
noncomputable def iI_225 : Nat → Nat → Int32 := aU iI_224 4 213 (Int32.ofInt 3)
noncomputable def iI_226 : Nat → Nat → Int32 := aU iI_225 4 214 (Int32.ofInt 3)
noncomputable def iI_227 : Nat → Nat → Int32 := aU iI_226 4 215 (Int32.ofInt 3)
noncomputable def iI_228 : Nat → Nat → Int32 := aU iI_227 4 216 (Int32.ofInt 3)
noncomputable def iI_229 : Nat → Nat → Int32 := aU iI_228 4 217 (Int32.ofInt 3)
noncomputable def iI_230 : Nat → Nat → Int32 := aU iI_229 4 218 (Int32.ofInt 3)
noncomputable def iI_231 : Nat → Nat → Int32 := aU iI_230 4 219 (Int32.ofInt 3)
noncomputable def iI_232 : Nat → Nat → Int32 := aU iI_231 4 220 (Int32.ofInt 3)
noncomputable def iI_233 : Nat → Nat → Int32 := aU iI_232 4 221 (Int32.ofInt 3)
noncomputable def iI_234 : Nat → Nat → Int32 := aU iI_233 4 222 (Int32.ofInt 3)
noncomputable def iI_235 : Nat → Nat → Int32 := aU iI_234 4 223 (Int32.ofInt 3)
noncomputable def iI_236 : Nat → Nat → Int32 := aU iI_235 4 224 (Int32.ofInt 3)
noncomputable def iI_237 : Nat → Nat → Int32 := aU iI_236 4 225 (Int32.ofInt 3)
noncomputable def iI_238 : Nat → Nat → Int32 := aU iI_237 4 226 (Int32.ofInt 3)
noncomputable def iI_239 : Nat → Nat → Int32 := aU iI_238 4 227 (Int32.ofInt 3)
noncomputable def iI_240 : Nat → Nat → Int32 := aU iI_239 4 228 (Int32.ofInt 3)
noncomputable def iI_241 : Nat → Nat → Int32 := aU iI_240 4 229 (Int32.ofInt 3)
noncomputable def iI_242 : Nat → Nat → Int32 := aU iI_241 4 230 (Int32.ofInt 3)
noncomputable def iI_243 : Nat → Nat → Int32 := aU iI_242 4 231 (Int32.ofInt 3)
noncomputable def iI_244 : Nat → Nat → Int32 := aU iI_243 4 232 (Int32.ofInt 3)
noncomputable def iI_245 : Nat → Nat → Int32 := aU iI_244 4 233 (Int32.ofInt 3)
noncomputable def iI_246 : Nat → Nat → Int32 := aU iI_245 4 234 (Int32.ofInt 3)
noncomputable def iI_247 : Nat → Nat → Int32 := aU iI_246 4 235 (Int32.ofInt 3)
noncomputable def iI_248 : Nat → Nat → Int32 := aU iI_247 4 236 (Int32.ofInt 3)
noncomputable def iI_249 : Nat → Nat → Int32 := aU iI_248 4 237 (Int32.ofInt 3)
noncomputable def iI_250 : Nat → Nat → Int32 := aU iI_249 4 238 (Int32.ofInt 3)
noncomputable def iI_251 : Nat → Nat → Int32 := aU iI_250 4 239 (Int32.ofInt 3)
noncomputable def iI_252 : Nat → Nat → Int32 := aU iI_251 4 240 (Int32.ofInt 3)
noncomputable def iI_253 : Nat → Nat → Int32 := aU iI_252 4 241 (Int32.ofInt 3)
noncomputable def iI_254 : Nat → Nat → Int32 := aU iI_253 4 242 (Int32.ofInt 3)
noncomputable def iI_255 : Nat → Nat → Int32 := aU iI_254 4 243 (Int32.ofInt 3)
noncomputable def iI_256 : Nat → Nat → Int32 := aU iI_255 4 244 (Int32.ofInt 3)
noncomputable def iI_257 : Nat → Nat → Int32 := aU iI_256 4 245 (Int32.ofInt 3)
noncomputable def iI_258 : Nat → Nat → Int32 := aU iI_257 4 246 (Int32.ofInt 3)
noncomputable def iI_259 : Nat → Nat → Int32 := aU iI_258 4 247 (Int32.ofInt 3)
noncomputable def iI_260 : Nat → Nat → Int32 := aU iI_259 4 248 (Int32.ofInt 3)
noncomputable def iI_261 : Nat → Nat → Int32 := aU iI_260 4 249 (Int32.ofInt 3)
noncomputable def iI_262 : Nat → Nat → Int32 := aU iI_261 4 250 (Int32.ofInt 3)
noncomputable def iI_263 : Nat → Nat → Int32 := aU iI_262 4 251 (Int32.ofInt 3)
noncomputable def iI_264 : Nat → Nat → Int32 := aU iI_263 4 252 (Int32.ofInt 3)
noncomputable def iI_265 : Nat → Nat → Int32 := aU iI_264 4 253 (Int32.ofInt 3)
noncomputable def iI_266 : Nat → Nat → Int32 := aU iI_265 4 254 (Int32.ofInt 3)
noncomputable def iI_267 : Nat → Nat → Int32 := aU iI_266 4 255 (Int32.ofInt 3)
noncomputable def iI_268 : Nat → Nat → Int32 := aU iI_267 4 97 (Int32.ofInt 1)
noncomputable def iI_269 : Nat → Nat → Int32 := aU iI_268 4 98 (Int32.ofInt 1)
noncomputable def iI_270 : Nat → Nat → Int32 := aU iI_269 4 99 (Int32.ofInt 1)
noncomputable def iI_271 : Nat → Nat → Int32 := aU iI_270 4 100 (Int32.ofInt 1)
noncomputable def iI_272 : Nat → Nat → Int32 := aU iI_271 4 101 (Int32.ofInt 1)
noncomputable def iI_273 : Nat → Nat → Int32 := aU iI_272 4 102 (Int32.ofInt 1)
noncomputable def iI_274 : Nat → Nat → Int32 := aU iI_273 4 103 (Int32.ofInt 1)
noncomputable def iI_275 : Nat → Nat → Int32 := aU iI_274 4 104 (Int32.ofInt 1)
noncomputable def iI_276 : Nat → Nat → Int32 := aU iI_275 4 105 (Int32.ofInt 1)
noncomputable def iI_277 : Nat → Nat → Int32 := aU iI_276 4 106 (Int32.ofInt 1)
noncomputable def iI_278 : Nat → Nat → Int32 := aU iI_277 4 107 (Int32.ofInt 1)
noncomputable def iI_279 : Nat → Nat → Int32 := aU iI_278 4 108 (Int32.ofInt 1)
noncomputable def iI_280 : Nat → Nat → Int32 := aU iI_279 4 109 (Int32.ofInt 1)
noncomputable def iI_281 : Nat → Nat → Int32 := aU iI_280 4 110 (Int32.ofInt 1)
noncomputable def iI_282 : Nat → Nat → Int32 := aU iI_281 4 111 (Int32.ofInt 1)
noncomputable def iI_283 : Nat → Nat → Int32 := aU iI_282 4 112 (Int32.ofInt 1)
noncomputable def iI_284 : Nat → Nat → Int32 := aU iI_283 4 113 (Int32.ofInt 1)
noncomputable def iI_285 : Nat → Nat → Int32 := aU iI_284 4 114 (Int32.ofInt 1)
noncomputable def iI_286 : Nat → Nat → Int32 := aU iI_285 4 115 (Int32.ofInt 1)
noncomputable def iI_287 : Nat → Nat → Int32 := aU iI_286 4 116 (Int32.ofInt 1)
noncomputable def iI_288 : Nat → Nat → Int32 := aU iI_287 4 117 (Int32.ofInt 1)
noncomputable def iI_289 : Nat → Nat → Int32 := aU iI_288 4 118 (Int32.ofInt 1)
noncomputable def iI_290 : Nat → Nat → Int32 := aU iI_289 4 119 (Int32.ofInt 1)
noncomputable def iI_291 : Nat → Nat → Int32 := aU iI_290 4 120 (Int32.ofInt 1)
noncomputable def iI_292 : Nat → Nat → Int32 := aU iI_291 4 121 (Int32.ofInt 1)
noncomputable def iI_293 : Nat → Nat → Int32 := aU iI_292 4 122 (Int32.ofInt 1)
noncomputable def iI_294 : Nat → Nat → Int32 := aU iI_293 4 48 (Int32.ofInt 2)
noncomputable def iI_295 : Nat → Nat → Int32 := aU iI_294 4 49 (Int32.ofInt 2)
noncomputable def iI_296 : Nat → Nat → Int32 := aU iI_295 4 50 (Int32.ofInt 2)
noncomputable def iI_297 : Nat → Nat → Int32 := aU iI_296 4 51 (Int32.ofInt 2)
noncomputable def iI_298 : Nat → Nat → Int32 := aU iI_297 4 52 (Int32.ofInt 2)
noncomputable def iI_299 : Nat → Nat → Int32 := aU iI_298 4 53 (Int32.ofInt 2)
noncomputable def iI_300 : Nat → Nat → Int32 := aU iI_299 4 54 (Int32.ofInt 2)
noncomputable def iI_301 : Nat → Nat → Int32 := aU iI_300 4 55 (Int32.ofInt 2)
noncomputable def iI_302 : Nat → Nat → Int32 := aU iI_301 4 56 (Int32.ofInt 2)
noncomputable def iI_303 : Nat → Nat → Int32 := aU iI_302 4 57 (Int32.ofInt 2)
noncomputable def iI_304 : Nat → Nat → Int32 := aU iI_303 4 10 (Int32.ofInt 4)
noncomputable def iI_305 : Nat → Nat → Int32 := aU iI_304 4 32 (Int32.ofInt 4)
noncomputable def rR_9 : Nat → Nat → Option Nat := aU rR_8 0 0 (some 1)
noncomputable def kK_6 : Nat → Nat := aRow kK_5 5 3
noncomputable def kL_6 : Nat → Nat := aRow kL_5 5 0
noncomputable def iI_306 : Nat → Nat → Int32 := aRow iI_305 5 (fun _ => 0)
noncomputable def jJ_6 : Nat → Nat → Int64 := aRow jJ_5 5 (fun _ => 0)
noncomputable def rR_10 : Nat → Nat → Option Nat := aRow rR_9 5 (fun _ => none)
noncomputable def kK_7 : Nat → Nat := aRow kK_6 6 100
noncomputable def kL_7 : Nat → Nat := aRow kL_6 6 1600
noncomputable def iI_307 : Nat → Nat → Int32 := aRow iI_306 6 (fun _ => 0)
noncomputable def jJ_7 : Nat → Nat → Int64 := aRow jJ_6 6 (fun _ => 0)
noncomputable def rR_11 : Nat → Nat → Option Nat := aRow rR_10 6 (fun _ => none)
noncomputable def rR_12 : Nat → Nat → Option Nat := aU rR_11 5 0 (some 6)
noncomputable def kK_8 : Nat → Nat := aRow kK_7 7 100
noncomputable def kL_8 : Nat → Nat := aRow kL_7 7 64
noncomputable def iI_308 : Nat → Nat → Int32 := aRow iI_307 7 (fun _ => 0)
noncomputable def jJ_8 : Nat → Nat → Int64 := aRow jJ_7 7 (fun _ => 0)
noncomputable def rR_13 : Nat → Nat → Option Nat := aRow rR_12 7 (fun _ => none)
noncomputable def rR_14 : Nat → Nat → Option Nat := aU rR_13 5 1 (some 7)
noncomputable def iI_309 : Nat → Nat → Int32 := aU iI_308 5 2 (Int32.ofInt 0)
noncomputable def rR_15 : Nat → Nat → Option Nat := aU rR_14 0 1 (some 5)
noncomputable def kK_9 : Nat → Nat := aRow kK_8 8 4
noncomputable def kL_9 : Nat → Nat := aRow kL_8 8 0
noncomputable def iI_310 : Nat → Nat → Int32 := aRow iI_309 8 (fun _ => 0)
noncomputable def jJ_9 : Nat → Nat → Int64 := aRow jJ_8 8 (fun _ => 0)
noncomputable def rR_16 : Nat → Nat → Option Nat := aRow rR_15 8 (fun _ => none)
noncomputable def rR_17 : Nat → Nat → Option Nat := aU rR_16 8 1 none
noncomputable def iI_311 : Nat → Nat → Int32 := aU iI_310 8 2 (Int32.ofInt 0)
noncomputable def rR_18 : Nat → Nat → Option Nat := aU rR_17 8 0 (some 1)
noncomputable def rR_19 : Nat → Nat → Option Nat := aU rR_18 0 2 (some 8)
noncomputable def kK_10 : Nat → Nat := aRow kK_9 9 9
noncomputable def kL_10 : Nat → Nat := aRow kL_9 9 0
noncomputable def iI_312 : Nat → Nat → Int32 := aRow iI_311 9 (fun _ => 0)
noncomputable def jJ_10 : Nat → Nat → Int64 := aRow jJ_9 9 (fun _ => 0)
noncomputable def rR_20 : Nat → Nat → Option Nat := aRow rR_19 9 (fun _ => none)
noncomputable def rR_21 : Nat → Nat → Option Nat := aU rR_20 9 0 (some 1)
noncomputable def rR_22 : Nat → Nat → Option Nat := aU rR_21 9 1 (some 8)
noncomputable def rR_23 : Nat → Nat → Option Nat := aU rR_22 0 3 (some 9)
noncomputable def kK_11 : Nat → Nat := aRow kK_10 10 1
noncomputable def kL_11 : Nat → Nat := aRow kL_10 10 0
noncomputable def iI_313 : Nat → Nat → Int32 := aRow iI_312 10 (fun _ => 0)
noncomputable def jJ_11 : Nat → Nat → Int64 := aRow jJ_10 10 (fun _ => 0)
noncomputable def rR_24 : Nat → Nat → Option Nat := aRow rR_23 10 (fun _ => none)
noncomputable def kK_12 : Nat → Nat := aRow kK_11 11 100
noncomputable def kL_12 : Nat → Nat := aRow kL_11 11 10
noncomputable def iI_314 : Nat → Nat → Int32 := aRow iI_313 11 (fun _ => 0)
noncomputable def jJ_12 : Nat → Nat → Int64 := aRow jJ_11 11 (fun _ => 0)
noncomputable def rR_25 : Nat → Nat → Option Nat := aRow rR_24 11 (fun _ => none)
noncomputable def rR_26 : Nat → Nat → Option Nat := aU rR_25 10 0 (some 11)
noncomputable def rR_27 : Nat → Nat → Option Nat := aU rR_26 10 1 none
noncomputable def rR_28 : Nat → Nat → Option Nat := aU rR_27 0 4 (some 10)
noncomputable def kK_13 : Nat → Nat := aRow kK_12 12 10
noncomputable def kL_13 : Nat → Nat := aRow kL_12 12 0
noncomputable def iI_315 : Nat → Nat → Int32 := aRow iI_314 12 (fun _ => 0)
noncomputable def jJ_13 : Nat → Nat → Int64 := aRow jJ_12 12 (fun _ => 0)
noncomputable def rR_29 : Nat → Nat → Option Nat := aRow rR_28 12 (fun _ => none)
noncomputable def kK_14 : Nat → Nat := aRow kK_13 13 100
noncomputable def kL_14 : Nat → Nat := aRow kL_13 13 31
noncomputable def iI_316 : Nat → Nat → Int32 := aRow iI_315 13 (fun _ => 0)
noncomputable def jJ_14 : Nat → Nat → Int64 := aRow jJ_13 13 (fun _ => 0)
noncomputable def rR_30 : Nat → Nat → Option Nat := aRow rR_29 13 (fun _ => none)
noncomputable def rR_31 : Nat → Nat → Option Nat := aU rR_30 12 0 (some 13)
noncomputable def kK_15 : Nat → Nat := aRow kK_14 14 7
noncomputable def kL_15 : Nat → Nat := aRow kL_14 14 0
noncomputable def iI_317 : Nat → Nat → Int32 := aRow iI_316 14 (fun _ => 0)
noncomputable def jJ_15 : Nat → Nat → Int64 := aRow jJ_14 14 (fun _ => 0)
noncomputable def rR_32 : Nat → Nat → Option Nat := aRow rR_31 14 (fun _ => none)
noncomputable def kK_16 : Nat → Nat := aRow kK_15 15 100
noncomputable def kL_16 : Nat → Nat := aRow kL_15 15 8
noncomputable def iI_318 : Nat → Nat → Int32 := aRow iI_317 15 (fun _ => 0)
noncomputable def jJ_16 : Nat → Nat → Int64 := aRow jJ_15 15 (fun _ => 0)
noncomputable def rR_33 : Nat → Nat → Option Nat := aRow rR_32 15 (fun _ => none)
noncomputable def rR_34 : Nat → Nat → Option Nat := aU rR_33 14 0 (some 15)
noncomputable def kK_17 : Nat → Nat := aRow kK_16 16 100
noncomputable def kL_17 : Nat → Nat := aRow kL_16 16 6
noncomputable def iI_319 : Nat → Nat → Int32 := aRow iI_318 16 (fun _ => 0)
noncomputable def jJ_17 : Nat → Nat → Int64 := aRow jJ_16 16 (fun _ => 0)
noncomputable def rR_35 : Nat → Nat → Option Nat := aRow rR_34 16 (fun _ => none)
noncomputable def rR_36 : Nat → Nat → Option Nat := aU rR_35 14 1 (some 16)
noncomputable def kK_18 : Nat → Nat := aRow kK_17 17 100
noncomputable def kL_18 : Nat → Nat := aRow kL_17 17 6
noncomputable def iI_320 : Nat → Nat → Int32 := aRow iI_319 17 (fun _ => 0)
noncomputable def jJ_18 : Nat → Nat → Int64 := aRow jJ_17 17 (fun _ => 0)
noncomputable def rR_37 : Nat → Nat → Option Nat := aRow rR_36 17 (fun _ => none)
noncomputable def rR_38 : Nat → Nat → Option Nat := aU rR_37 14 2 (some 17)
noncomputable def kK_19 : Nat → Nat := aRow kK_18 18 100
noncomputable def kL_19 : Nat → Nat := aRow kL_18 18 6
noncomputable def iI_321 : Nat → Nat → Int32 := aRow iI_320 18 (fun _ => 0)
noncomputable def jJ_19 : Nat → Nat → Int64 := aRow jJ_18 18 (fun _ => 0)
noncomputable def rR_39 : Nat → Nat → Option Nat := aRow rR_38 18 (fun _ => none)
noncomputable def rR_40 : Nat → Nat → Option Nat := aU rR_39 14 3 (some 18)
noncomputable def kK_20 : Nat → Nat := aRow kK_19 19 100
noncomputable def kL_20 : Nat → Nat := aRow kL_19 19 8
noncomputable def iI_322 : Nat → Nat → Int32 := aRow iI_321 19 (fun _ => 0)
noncomputable def jJ_20 : Nat → Nat → Int64 := aRow jJ_19 19 (fun _ => 0)
noncomputable def rR_41 : Nat → Nat → Option Nat := aRow rR_40 19 (fun _ => none)
noncomputable def rR_42 : Nat → Nat → Option Nat := aU rR_41 14 4 (some 19)
noncomputable def iI_323 : Nat → Nat → Int32 := aU iI_322 14 5 (Int32.ofInt 0)
noncomputable def iI_324 : Nat → Nat → Int32 := aU iI_323 14 6 (Int32.ofInt 0)
noncomputable def iI_325 : Nat → Nat → Int32 := aU iI_324 14 7 (Int32.ofInt 0)
noncomputable def rR_43 : Nat → Nat → Option Nat := aU rR_42 12 1 (some 14)
noncomputable def rR_44 : Nat → Nat → Option Nat := aU rR_43 12 2 (some 10)
noncomputable def rR_45 : Nat → Nat → Option Nat := aU rR_44 0 5 (some 12)
noncomputable def kK_21 : Nat → Nat := aRow kK_20 20 0
noncomputable def kL_21 : Nat → Nat := aRow kL_20 20 0
noncomputable def iI_326 : Nat → Nat → Int32 := aRow iI_325 20 (fun _ => 0)
noncomputable def jJ_21 : Nat → Nat → Int64 := aRow jJ_20 20 (fun _ => 0)
noncomputable def rR_46 : Nat → Nat → Option Nat := aRow rR_45 20 (fun _ => none)
noncomputable def kK_22 : Nat → Nat := aRow kK_21 21 100
noncomputable def kL_22 : Nat → Nat := aRow kL_21 21 6
noncomputable def iI_327 : Nat → Nat → Int32 := aRow iI_326 21 (fun _ => 0)
noncomputable def jJ_22 : Nat → Nat → Int64 := aRow jJ_21 21 (fun _ => 0)
noncomputable def rR_47 : Nat → Nat → Option Nat := aRow rR_46 21 (fun _ => none)
noncomputable def rR_48 : Nat → Nat → Option Nat := aU rR_47 20 0 (some 21)
noncomputable def iI_328 : Nat → Nat → Int32 := aU iI_327 20 1 (Int32.ofInt 0)
noncomputable def kK_23 : Nat → Nat := aRow kK_22 22 100
noncomputable def kL_23 : Nat → Nat := aRow kL_22 22 6
noncomputable def iI_329 : Nat → Nat → Int32 := aRow iI_328 22 (fun _ => 0)
noncomputable def jJ_23 : Nat → Nat → Int64 := aRow jJ_22 22 (fun _ => 0)
noncomputable def rR_49 : Nat → Nat → Option Nat := aRow rR_48 22 (fun _ => none)
noncomputable def rR_50 : Nat → Nat → Option Nat := aU rR_49 20 2 (some 22)
noncomputable def kK_24 : Nat → Nat := aRow kK_23 23 100
noncomputable def kL_24 : Nat → Nat := aRow kL_23 23 48
noncomputable def iI_330 : Nat → Nat → Int32 := aRow iI_329 23 (fun _ => 0)
noncomputable def jJ_24 : Nat → Nat → Int64 := aRow jJ_23 23 (fun _ => 0)
noncomputable def rR_51 : Nat → Nat → Option Nat := aRow rR_50 23 (fun _ => none)
noncomputable def rR_52 : Nat → Nat → Option Nat := aU rR_51 20 3 (some 23)
noncomputable def iI_331 : Nat → Nat → Int32 := aU iI_330 20 4 (Int32.ofInt 0)
noncomputable def iI_332 : Nat → Nat → Int32 := aU iI_331 20 5 (Int32.ofInt 0)
noncomputable def rR_53 : Nat → Nat → Option Nat := aU rR_52 0 6 (some 20)
noncomputable def kK_25 : Nat → Nat := aRow kK_24 24 2
noncomputable def kL_25 : Nat → Nat := aRow kL_24 24 0
noncomputable def iI_333 : Nat → Nat → Int32 := aRow iI_332 24 (fun _ => 0)
noncomputable def jJ_25 : Nat → Nat → Int64 := aRow jJ_24 24 (fun _ => 0)
noncomputable def rR_54 : Nat → Nat → Option Nat := aRow rR_53 24 (fun _ => none)
noncomputable def iI_334 : Nat → Nat → Int32 := aU iI_333 24 0 (Int32.ofInt 0)
noncomputable def iI_335 : Nat → Nat → Int32 := aU iI_334 24 1 (Int32.ofInt 0)
noncomputable def iI_336 : Nat → Nat → Int32 := aU iI_335 24 2 (Int32.ofInt 0)
noncomputable def iI_337 : Nat → Nat → Int32 := aU iI_336 24 3 (Int32.ofInt 0)
noncomputable def kK_26 : Nat → Nat := aRow kK_25 25 100
noncomputable def kL_26 : Nat → Nat := aRow kL_25 25 16
noncomputable def iI_338 : Nat → Nat → Int32 := aRow iI_337 25 (fun _ => 0)
noncomputable def jJ_26 : Nat → Nat → Int64 := aRow jJ_25 25 (fun _ => 0)
noncomputable def rR_55 : Nat → Nat → Option Nat := aRow rR_54 25 (fun _ => none)
noncomputable def rR_56 : Nat → Nat → Option Nat := aU rR_55 24 4 (some 25)
noncomputable def kK_27 : Nat → Nat := aRow kK_26 26 100
noncomputable def kL_27 : Nat → Nat := aRow kL_26 26 16
noncomputable def iI_339 : Nat → Nat → Int32 := aRow iI_338 26 (fun _ => 0)
noncomputable def jJ_27 : Nat → Nat → Int64 := aRow jJ_26 26 (fun _ => 0)
noncomputable def rR_57 : Nat → Nat → Option Nat := aRow rR_56 26 (fun _ => none)
noncomputable def rR_58 : Nat → Nat → Option Nat := aU rR_57 24 5 (some 26)
noncomputable def kK_28 : Nat → Nat := aRow kK_27 27 100
noncomputable def kL_28 : Nat → Nat := aRow kL_27 27 217
noncomputable def iI_340 : Nat → Nat → Int32 := aRow iI_339 27 (fun _ => 0)
noncomputable def jJ_28 : Nat → Nat → Int64 := aRow jJ_27 27 (fun _ => 0)
noncomputable def rR_59 : Nat → Nat → Option Nat := aRow rR_58 27 (fun _ => none)
noncomputable def rR_60 : Nat → Nat → Option Nat := aU rR_59 24 6 (some 27)
noncomputable def rR_61 : Nat → Nat → Option Nat := aU rR_60 0 7 (some 24)
noncomputable def kK_29 : Nat → Nat := aRow kK_28 28 7
noncomputable def kL_29 : Nat → Nat := aRow kL_28 28 0
noncomputable def iI_341 : Nat → Nat → Int32 := aRow iI_340 28 (fun _ => 0)
noncomputable def jJ_29 : Nat → Nat → Int64 := aRow jJ_28 28 (fun _ => 0)
noncomputable def rR_62 : Nat → Nat → Option Nat := aRow rR_61 28 (fun _ => none)
noncomputable def kK_30 : Nat → Nat := aRow kK_29 29 100
noncomputable def kL_30 : Nat → Nat := aRow kL_29 29 8
noncomputable def iI_342 : Nat → Nat → Int32 := aRow iI_341 29 (fun _ => 0)
noncomputable def jJ_30 : Nat → Nat → Int64 := aRow jJ_29 29 (fun _ => 0)
noncomputable def rR_63 : Nat → Nat → Option Nat := aRow rR_62 29 (fun _ => none)
noncomputable def rR_64 : Nat → Nat → Option Nat := aU rR_63 28 0 (some 29)
noncomputable def kK_31 : Nat → Nat := aRow kK_30 30 100
noncomputable def kL_31 : Nat → Nat := aRow kL_30 30 6
noncomputable def iI_343 : Nat → Nat → Int32 := aRow iI_342 30 (fun _ => 0)
noncomputable def jJ_31 : Nat → Nat → Int64 := aRow jJ_30 30 (fun _ => 0)
noncomputable def rR_65 : Nat → Nat → Option Nat := aRow rR_64 30 (fun _ => none)
noncomputable def rR_66 : Nat → Nat → Option Nat := aU rR_65 28 1 (some 30)
noncomputable def kK_32 : Nat → Nat := aRow kK_31 31 100
noncomputable def kL_32 : Nat → Nat := aRow kL_31 31 6
noncomputable def iI_344 : Nat → Nat → Int32 := aRow iI_343 31 (fun _ => 0)
noncomputable def jJ_32 : Nat → Nat → Int64 := aRow jJ_31 31 (fun _ => 0)
noncomputable def rR_67 : Nat → Nat → Option Nat := aRow rR_66 31 (fun _ => none)
noncomputable def rR_68 : Nat → Nat → Option Nat := aU rR_67 28 2 (some 31)
noncomputable def kK_33 : Nat → Nat := aRow kK_32 32 100
noncomputable def kL_33 : Nat → Nat := aRow kL_32 32 6
noncomputable def iI_345 : Nat → Nat → Int32 := aRow iI_344 32 (fun _ => 0)
noncomputable def jJ_33 : Nat → Nat → Int64 := aRow jJ_32 32 (fun _ => 0)
noncomputable def rR_69 : Nat → Nat → Option Nat := aRow rR_68 32 (fun _ => none)
noncomputable def rR_70 : Nat → Nat → Option Nat := aU rR_69 28 3 (some 32)
noncomputable def kK_34 : Nat → Nat := aRow kK_33 33 100
noncomputable def kL_34 : Nat → Nat := aRow kL_33 33 8
noncomputable def iI_346 : Nat → Nat → Int32 := aRow iI_345 33 (fun _ => 0)
noncomputable def jJ_34 : Nat → Nat → Int64 := aRow jJ_33 33 (fun _ => 0)
noncomputable def rR_71 : Nat → Nat → Option Nat := aRow rR_70 33 (fun _ => none)
noncomputable def rR_72 : Nat → Nat → Option Nat := aU rR_71 28 4 (some 33)
noncomputable def iI_347 : Nat → Nat → Int32 := aU iI_346 28 5 (Int32.ofInt 0)
noncomputable def iI_348 : Nat → Nat → Int32 := aU iI_347 28 6 (Int32.ofInt 0)
noncomputable def iI_349 : Nat → Nat → Int32 := aU iI_348 28 7 (Int32.ofInt 0)
noncomputable def rR_73 : Nat → Nat → Option Nat := aU rR_72 0 8 (some 28)
noncomputable def kK_35 : Nat → Nat := aRow kK_34 34 7
noncomputable def kL_35 : Nat → Nat := aRow kL_34 34 0
noncomputable def iI_350 : Nat → Nat → Int32 := aRow iI_349 34 (fun _ => 0)
noncomputable def jJ_35 : Nat → Nat → Int64 := aRow jJ_34 34 (fun _ => 0)
noncomputable def rR_74 : Nat → Nat → Option Nat := aRow rR_73 34 (fun _ => none)
noncomputable def kK_36 : Nat → Nat := aRow kK_35 35 100
noncomputable def kL_36 : Nat → Nat := aRow kL_35 35 8
noncomputable def iI_351 : Nat → Nat → Int32 := aRow iI_350 35 (fun _ => 0)
noncomputable def jJ_36 : Nat → Nat → Int64 := aRow jJ_35 35 (fun _ => 0)
noncomputable def rR_75 : Nat → Nat → Option Nat := aRow rR_74 35 (fun _ => none)
noncomputable def rR_76 : Nat → Nat → Option Nat := aU rR_75 34 0 (some 35)
noncomputable def kK_37 : Nat → Nat := aRow kK_36 36 100
noncomputable def kL_37 : Nat → Nat := aRow kL_36 36 6
noncomputable def iI_352 : Nat → Nat → Int32 := aRow iI_351 36 (fun _ => 0)
noncomputable def jJ_37 : Nat → Nat → Int64 := aRow jJ_36 36 (fun _ => 0)
noncomputable def rR_77 : Nat → Nat → Option Nat := aRow rR_76 36 (fun _ => none)
noncomputable def rR_78 : Nat → Nat → Option Nat := aU rR_77 34 1 (some 36)
noncomputable def kK_38 : Nat → Nat := aRow kK_37 37 100
noncomputable def kL_38 : Nat → Nat := aRow kL_37 37 6
noncomputable def iI_353 : Nat → Nat → Int32 := aRow iI_352 37 (fun _ => 0)
noncomputable def jJ_38 : Nat → Nat → Int64 := aRow jJ_37 37 (fun _ => 0)
noncomputable def rR_79 : Nat → Nat → Option Nat := aRow rR_78 37 (fun _ => none)
noncomputable def rR_80 : Nat → Nat → Option Nat := aU rR_79 34 2 (some 37)
noncomputable def kK_39 : Nat → Nat := aRow kK_38 38 100
noncomputable def kL_39 : Nat → Nat := aRow kL_38 38 6
noncomputable def iI_354 : Nat → Nat → Int32 := aRow iI_353 38 (fun _ => 0)
noncomputable def jJ_39 : Nat → Nat → Int64 := aRow jJ_38 38 (fun _ => 0)
noncomputable def rR_81 : Nat → Nat → Option Nat := aRow rR_80 38 (fun _ => none)
noncomputable def rR_82 : Nat → Nat → Option Nat := aU rR_81 34 3 (some 38)
noncomputable def kK_40 : Nat → Nat := aRow kK_39 39 100
noncomputable def kL_40 : Nat → Nat := aRow kL_39 39 8
noncomputable def iI_355 : Nat → Nat → Int32 := aRow iI_354 39 (fun _ => 0)
noncomputable def jJ_40 : Nat → Nat → Int64 := aRow jJ_39 39 (fun _ => 0)
noncomputable def rR_83 : Nat → Nat → Option Nat := aRow rR_82 39 (fun _ => none)
noncomputable def rR_84 : Nat → Nat → Option Nat := aU rR_83 34 4 (some 39)
noncomputable def iI_356 : Nat → Nat → Int32 := aU iI_355 34 5 (Int32.ofInt 0)
noncomputable def iI_357 : Nat → Nat → Int32 := aU iI_356 34 6 (Int32.ofInt 0)
noncomputable def iI_358 : Nat → Nat → Int32 := aU iI_357 34 7 (Int32.ofInt 0)
noncomputable def rR_85 : Nat → Nat → Option Nat := aU rR_84 0 9 (some 34)
noncomputable def kK_41 : Nat → Nat := aRow kK_40 40 103
noncomputable def kL_41 : Nat → Nat := aRow kL_40 40 20
noncomputable def iI_359 : Nat → Nat → Int32 := aRow iI_358 40 (fun _ => 0)
noncomputable def jJ_41 : Nat → Nat → Int64 := aRow jJ_40 40 (fun _ => 0)
noncomputable def rR_86 : Nat → Nat → Option Nat := aRow rR_85 40 (fun _ => none)
noncomputable def rR_87 : Nat → Nat → Option Nat := aU rR_86 0 10 (some 40)
noncomputable def kK_42 : Nat → Nat := aRow kK_41 41 100
noncomputable def kL_42 : Nat → Nat := aRow kL_41 41 6
noncomputable def iI_360 : Nat → Nat → Int32 := aRow iI_359 41 (fun _ => 0)
noncomputable def jJ_42 : Nat → Nat → Int64 := aRow jJ_41 41 (fun _ => 0)
noncomputable def rR_88 : Nat → Nat → Option Nat := aRow rR_87 41 (fun _ => none)
noncomputable def rR_89 : Nat → Nat → Option Nat := aU rR_88 0 11 (some 41)
noncomputable def kK_43 : Nat → Nat := aRow kK_42 42 100
noncomputable def kL_43 : Nat → Nat := aRow kL_42 42 64
noncomputable def iI_361 : Nat → Nat → Int32 := aRow iI_360 42 (fun _ => 0)
noncomputable def jJ_43 : Nat → Nat → Int64 := aRow jJ_42 42 (fun _ => 0)
noncomputable def rR_90 : Nat → Nat → Option Nat := aRow rR_89 42 (fun _ => none)
noncomputable def rR_91 : Nat → Nat → Option Nat := aU rR_90 0 12 (some 42)
noncomputable def kK_44 : Nat → Nat := aRow kK_43 43 5
noncomputable def kL_44 : Nat → Nat := aRow kL_43 43 0
noncomputable def iI_362 : Nat → Nat → Int32 := aRow iI_361 43 (fun _ => 0)
noncomputable def jJ_44 : Nat → Nat → Int64 := aRow jJ_43 43 (fun _ => 0)
noncomputable def rR_92 : Nat → Nat → Option Nat := aRow rR_91 43 (fun _ => none)
noncomputable def kK_45 : Nat → Nat := aRow kK_44 44 6
noncomputable def kL_45 : Nat → Nat := aRow kL_44 44 0
noncomputable def iI_363 : Nat → Nat → Int32 := aRow iI_362 44 (fun _ => 0)
noncomputable def jJ_45 : Nat → Nat → Int64 := aRow jJ_44 44 (fun _ => 0)
noncomputable def rR_93 : Nat → Nat → Option Nat := aRow rR_92 44 (fun _ => none)
noncomputable def iI_364 : Nat → Nat → Int32 := aU iI_363 44 0 (Int32.ofInt 0)
noncomputable def iI_365 : Nat → Nat → Int32 := aU iI_364 44 1 (Int32.ofInt 7)
noncomputable def kK_46 : Nat → Nat := aRow kK_45 45 100
noncomputable def kL_46 : Nat → Nat := aRow kL_45 45 42
noncomputable def iI_366 : Nat → Nat → Int32 := aRow iI_365 45 (fun _ => 0)
noncomputable def jJ_46 : Nat → Nat → Int64 := aRow jJ_45 45 (fun _ => 0)
noncomputable def rR_94 : Nat → Nat → Option Nat := aRow rR_93 45 (fun _ => none)
noncomputable def rR_95 : Nat → Nat → Option Nat := aU rR_94 44 2 (some 45)
noncomputable def rR_96 : Nat → Nat → Option Nat := aU rR_95 43 0 (some 44)
noncomputable def kK_47 : Nat → Nat := aRow kK_46 46 6
noncomputable def kL_47 : Nat → Nat := aRow kL_46 46 0
noncomputable def iI_367 : Nat → Nat → Int32 := aRow iI_366 46 (fun _ => 0)
noncomputable def jJ_47 : Nat → Nat → Int64 := aRow jJ_46 46 (fun _ => 0)
noncomputable def rR_97 : Nat → Nat → Option Nat := aRow rR_96 46 (fun _ => none)
noncomputable def iI_368 : Nat → Nat → Int32 := aU iI_367 46 0 (Int32.ofInt 0)
noncomputable def iI_369 : Nat → Nat → Int32 := aU iI_368 46 1 (Int32.ofInt 8)
noncomputable def kK_48 : Nat → Nat := aRow kK_47 47 100
noncomputable def kL_48 : Nat → Nat := aRow kL_47 47 48
noncomputable def iI_370 : Nat → Nat → Int32 := aRow iI_369 47 (fun _ => 0)
noncomputable def jJ_48 : Nat → Nat → Int64 := aRow jJ_47 47 (fun _ => 0)
noncomputable def rR_98 : Nat → Nat → Option Nat := aRow rR_97 47 (fun _ => none)
noncomputable def rR_99 : Nat → Nat → Option Nat := aU rR_98 46 2 (some 47)
noncomputable def rR_100 : Nat → Nat → Option Nat := aU rR_99 43 1 (some 46)
noncomputable def kK_49 : Nat → Nat := aRow kK_48 48 6
noncomputable def kL_49 : Nat → Nat := aRow kL_48 48 0
noncomputable def iI_371 : Nat → Nat → Int32 := aRow iI_370 48 (fun _ => 0)
noncomputable def jJ_49 : Nat → Nat → Int64 := aRow jJ_48 48 (fun _ => 0)
noncomputable def rR_101 : Nat → Nat → Option Nat := aRow rR_100 48 (fun _ => none)
noncomputable def iI_372 : Nat → Nat → Int32 := aU iI_371 48 0 (Int32.ofInt 0)
noncomputable def iI_373 : Nat → Nat → Int32 := aU iI_372 48 1 (Int32.ofInt 6)
noncomputable def kK_50 : Nat → Nat := aRow kK_49 49 100
noncomputable def kL_50 : Nat → Nat := aRow kL_49 49 36
noncomputable def iI_374 : Nat → Nat → Int32 := aRow iI_373 49 (fun _ => 0)
noncomputable def jJ_50 : Nat → Nat → Int64 := aRow jJ_49 49 (fun _ => 0)
noncomputable def rR_102 : Nat → Nat → Option Nat := aRow rR_101 49 (fun _ => none)
noncomputable def rR_103 : Nat → Nat → Option Nat := aU rR_102 48 2 (some 49)
noncomputable def rR_104 : Nat → Nat → Option Nat := aU rR_103 43 2 (some 48)
noncomputable def kK_51 : Nat → Nat := aRow kK_50 50 100
noncomputable def kL_51 : Nat → Nat := aRow kL_50 50 49
noncomputable def iI_375 : Nat → Nat → Int32 := aRow iI_374 50 (fun _ => 0)
noncomputable def jJ_51 : Nat → Nat → Int64 := aRow jJ_50 50 (fun _ => 0)
noncomputable def rR_105 : Nat → Nat → Option Nat := aRow rR_104 50 (fun _ => none)
noncomputable def rR_106 : Nat → Nat → Option Nat := aU rR_105 43 3 (some 50)
noncomputable def kK_52 : Nat → Nat := aRow kK_51 51 100
noncomputable def kL_52 : Nat → Nat := aRow kL_51 51 49
noncomputable def iI_376 : Nat → Nat → Int32 := aRow iI_375 51 (fun _ => 0)
noncomputable def jJ_52 : Nat → Nat → Int64 := aRow jJ_51 51 (fun _ => 0)
noncomputable def rR_107 : Nat → Nat → Option Nat := aRow rR_106 51 (fun _ => none)
noncomputable def rR_108 : Nat → Nat → Option Nat := aU rR_107 43 4 (some 51)
noncomputable def kK_53 : Nat → Nat := aRow kK_52 52 100
noncomputable def kL_53 : Nat → Nat := aRow kL_52 52 49
noncomputable def iI_377 : Nat → Nat → Int32 := aRow iI_376 52 (fun _ => 0)
noncomputable def jJ_53 : Nat → Nat → Int64 := aRow jJ_52 52 (fun _ => 0)
noncomputable def rR_109 : Nat → Nat → Option Nat := aRow rR_108 52 (fun _ => none)
noncomputable def rR_110 : Nat → Nat → Option Nat := aU rR_109 43 5 (some 52)
noncomputable def kK_54 : Nat → Nat := aRow kK_53 53 100
noncomputable def kL_54 : Nat → Nat := aRow kL_53 53 8
noncomputable def iI_378 : Nat → Nat → Int32 := aRow iI_377 53 (fun _ => 0)
noncomputable def jJ_54 : Nat → Nat → Int64 := aRow jJ_53 53 (fun _ => 0)
noncomputable def rR_111 : Nat → Nat → Option Nat := aRow rR_110 53 (fun _ => none)
noncomputable def rR_112 : Nat → Nat → Option Nat := aU rR_111 43 6 (some 53)
noncomputable def kK_55 : Nat → Nat := aRow kK_54 54 100
noncomputable def kL_55 : Nat → Nat := aRow kL_54 54 8
noncomputable def iI_379 : Nat → Nat → Int32 := aRow iI_378 54 (fun _ => 0)
noncomputable def jJ_55 : Nat → Nat → Int64 := aRow jJ_54 54 (fun _ => 0)
noncomputable def rR_113 : Nat → Nat → Option Nat := aRow rR_112 54 (fun _ => none)
noncomputable def rR_114 : Nat → Nat → Option Nat := aU rR_113 43 7 (some 54)
noncomputable def kK_56 : Nat → Nat := aRow kK_55 55 100
noncomputable def kL_56 : Nat → Nat := aRow kL_55 55 8
noncomputable def iI_380 : Nat → Nat → Int32 := aRow iI_379 55 (fun _ => 0)
noncomputable def jJ_56 : Nat → Nat → Int64 := aRow jJ_55 55 (fun _ => 0)
noncomputable def rR_115 : Nat → Nat → Option Nat := aRow rR_114 55 (fun _ => none)
noncomputable def rR_116 : Nat → Nat → Option Nat := aU rR_115 43 8 (some 55)
noncomputable def kK_57 : Nat → Nat := aRow kK_56 56 100
noncomputable def kL_57 : Nat → Nat := aRow kL_56 56 6
noncomputable def iI_381 : Nat → Nat → Int32 := aRow iI_380 56 (fun _ => 0)
noncomputable def jJ_57 : Nat → Nat → Int64 := aRow jJ_56 56 (fun _ => 0)
noncomputable def rR_117 : Nat → Nat → Option Nat := aRow rR_116 56 (fun _ => none)
noncomputable def rR_118 : Nat → Nat → Option Nat := aU rR_117 43 9 (some 56)
noncomputable def kK_58 : Nat → Nat := aRow kK_57 57 100
noncomputable def kL_58 : Nat → Nat := aRow kL_57 57 6
noncomputable def iI_382 : Nat → Nat → Int32 := aRow iI_381 57 (fun _ => 0)
noncomputable def jJ_58 : Nat → Nat → Int64 := aRow jJ_57 57 (fun _ => 0)
noncomputable def rR_119 : Nat → Nat → Option Nat := aRow rR_118 57 (fun _ => none)
noncomputable def rR_120 : Nat → Nat → Option Nat := aU rR_119 43 10 (some 57)
noncomputable def kK_59 : Nat → Nat := aRow kK_58 58 100
noncomputable def kL_59 : Nat → Nat := aRow kL_58 58 6
noncomputable def iI_383 : Nat → Nat → Int32 := aRow iI_382 58 (fun _ => 0)
noncomputable def jJ_59 : Nat → Nat → Int64 := aRow jJ_58 58 (fun _ => 0)
noncomputable def rR_121 : Nat → Nat → Option Nat := aRow rR_120 58 (fun _ => none)
noncomputable def rR_122 : Nat → Nat → Option Nat := aU rR_121 43 11 (some 58)
noncomputable def kK_60 : Nat → Nat := aRow kK_59 59 100
noncomputable def kL_60 : Nat → Nat := aRow kL_59 59 6
noncomputable def iI_384 : Nat → Nat → Int32 := aRow iI_383 59 (fun _ => 0)
noncomputable def jJ_60 : Nat → Nat → Int64 := aRow jJ_59 59 (fun _ => 0)
noncomputable def rR_123 : Nat → Nat → Option Nat := aRow rR_122 59 (fun _ => none)
noncomputable def rR_124 : Nat → Nat → Option Nat := aU rR_123 43 12 (some 59)
noncomputable def kK_61 : Nat → Nat := aRow kK_60 60 3
noncomputable def kL_61 : Nat → Nat := aRow kL_60 60 0
noncomputable def iI_385 : Nat → Nat → Int32 := aRow iI_384 60 (fun _ => 0)
noncomputable def jJ_61 : Nat → Nat → Int64 := aRow jJ_60 60 (fun _ => 0)
noncomputable def rR_125 : Nat → Nat → Option Nat := aRow rR_124 60 (fun _ => none)
noncomputable def kK_62 : Nat → Nat := aRow kK_61 61 100
noncomputable def kL_62 : Nat → Nat := aRow kL_61 61 1600
noncomputable def iI_386 : Nat → Nat → Int32 := aRow iI_385 61 (fun _ => 0)
noncomputable def jJ_62 : Nat → Nat → Int64 := aRow jJ_61 61 (fun _ => 0)
noncomputable def rR_126 : Nat → Nat → Option Nat := aRow rR_125 61 (fun _ => none)
noncomputable def rR_127 : Nat → Nat → Option Nat := aU rR_126 60 0 (some 61)
noncomputable def kK_63 : Nat → Nat := aRow kK_62 62 100
noncomputable def kL_63 : Nat → Nat := aRow kL_62 62 64
noncomputable def iI_387 : Nat → Nat → Int32 := aRow iI_386 62 (fun _ => 0)
noncomputable def jJ_63 : Nat → Nat → Int64 := aRow jJ_62 62 (fun _ => 0)
noncomputable def rR_128 : Nat → Nat → Option Nat := aRow rR_127 62 (fun _ => none)
noncomputable def rR_129 : Nat → Nat → Option Nat := aU rR_128 60 1 (some 62)
noncomputable def iI_388 : Nat → Nat → Int32 := aU iI_387 60 2 (Int32.ofInt 0)
noncomputable def rR_130 : Nat → Nat → Option Nat := aU rR_129 43 13 (some 60)
noncomputable def kK_64 : Nat → Nat := aRow kK_63 63 3
noncomputable def kL_64 : Nat → Nat := aRow kL_63 63 0
noncomputable def iI_389 : Nat → Nat → Int32 := aRow iI_388 63 (fun _ => 0)
noncomputable def jJ_64 : Nat → Nat → Int64 := aRow jJ_63 63 (fun _ => 0)
noncomputable def rR_131 : Nat → Nat → Option Nat := aRow rR_130 63 (fun _ => none)
noncomputable def kK_65 : Nat → Nat := aRow kK_64 64 100
noncomputable def kL_65 : Nat → Nat := aRow kL_64 64 1600
noncomputable def iI_390 : Nat → Nat → Int32 := aRow iI_389 64 (fun _ => 0)
noncomputable def jJ_65 : Nat → Nat → Int64 := aRow jJ_64 64 (fun _ => 0)
noncomputable def rR_132 : Nat → Nat → Option Nat := aRow rR_131 64 (fun _ => none)
noncomputable def rR_133 : Nat → Nat → Option Nat := aU rR_132 63 0 (some 64)
noncomputable def kK_66 : Nat → Nat := aRow kK_65 65 100
noncomputable def kL_66 : Nat → Nat := aRow kL_65 65 64
noncomputable def iI_391 : Nat → Nat → Int32 := aRow iI_390 65 (fun _ => 0)
noncomputable def jJ_66 : Nat → Nat → Int64 := aRow jJ_65 65 (fun _ => 0)
noncomputable def rR_134 : Nat → Nat → Option Nat := aRow rR_133 65 (fun _ => none)
noncomputable def rR_135 : Nat → Nat → Option Nat := aU rR_134 63 1 (some 65)
noncomputable def iI_392 : Nat → Nat → Int32 := aU iI_391 63 2 (Int32.ofInt 0)
noncomputable def rR_136 : Nat → Nat → Option Nat := aU rR_135 43 14 (some 63)
noncomputable def iI_393 : Nat → Nat → Int32 := aU iI_392 43 15 (Int32.ofInt 0)
noncomputable def iI_394 : Nat → Nat → Int32 := aU iI_393 43 16 (Int32.ofInt 0)
noncomputable def iI_395 : Nat → Nat → Int32 := aU iI_394 43 17 (Int32.ofInt 0)
noncomputable def iI_396 : Nat → Nat → Int32 := aU iI_395 43 18 (Int32.ofInt 3)
noncomputable def iI_397 : Nat → Nat → Int32 := aU iI_396 43 19 (Int32.ofInt 0)
noncomputable def rR_137 : Nat → Nat → Option Nat := aU rR_136 0 13 (some 43)
noncomputable def kK_67 : Nat → Nat := aRow kK_66 66 5
noncomputable def kL_67 : Nat → Nat := aRow kL_66 66 0
noncomputable def iI_398 : Nat → Nat → Int32 := aRow iI_397 66 (fun _ => 0)
noncomputable def jJ_67 : Nat → Nat → Int64 := aRow jJ_66 66 (fun _ => 0)
noncomputable def rR_138 : Nat → Nat → Option Nat := aRow rR_137 66 (fun _ => none)
noncomputable def kK_68 : Nat → Nat := aRow kK_67 67 6
noncomputable def kL_68 : Nat → Nat := aRow kL_67 67 0
noncomputable def iI_399 : Nat → Nat → Int32 := aRow iI_398 67 (fun _ => 0)
noncomputable def jJ_68 : Nat → Nat → Int64 := aRow jJ_67 67 (fun _ => 0)
noncomputable def rR_139 : Nat → Nat → Option Nat := aRow rR_138 67 (fun _ => none)
noncomputable def iI_400 : Nat → Nat → Int32 := aU iI_399 67 0 (Int32.ofInt 0)
noncomputable def iI_401 : Nat → Nat → Int32 := aU iI_400 67 1 (Int32.ofInt 7)
noncomputable def kK_69 : Nat → Nat := aRow kK_68 68 100
noncomputable def kL_69 : Nat → Nat := aRow kL_68 68 42
noncomputable def iI_402 : Nat → Nat → Int32 := aRow iI_401 68 (fun _ => 0)
noncomputable def jJ_69 : Nat → Nat → Int64 := aRow jJ_68 68 (fun _ => 0)
noncomputable def rR_140 : Nat → Nat → Option Nat := aRow rR_139 68 (fun _ => none)
noncomputable def rR_141 : Nat → Nat → Option Nat := aU rR_140 67 2 (some 68)
noncomputable def rR_142 : Nat → Nat → Option Nat := aU rR_141 66 0 (some 67)
noncomputable def kK_70 : Nat → Nat := aRow kK_69 69 6
noncomputable def kL_70 : Nat → Nat := aRow kL_69 69 0
noncomputable def iI_403 : Nat → Nat → Int32 := aRow iI_402 69 (fun _ => 0)
noncomputable def jJ_70 : Nat → Nat → Int64 := aRow jJ_69 69 (fun _ => 0)
noncomputable def rR_143 : Nat → Nat → Option Nat := aRow rR_142 69 (fun _ => none)
noncomputable def iI_404 : Nat → Nat → Int32 := aU iI_403 69 0 (Int32.ofInt 0)
noncomputable def iI_405 : Nat → Nat → Int32 := aU iI_404 69 1 (Int32.ofInt 8)
noncomputable def kK_71 : Nat → Nat := aRow kK_70 70 100
noncomputable def kL_71 : Nat → Nat := aRow kL_70 70 48
noncomputable def iI_406 : Nat → Nat → Int32 := aRow iI_405 70 (fun _ => 0)
noncomputable def jJ_71 : Nat → Nat → Int64 := aRow jJ_70 70 (fun _ => 0)
noncomputable def rR_144 : Nat → Nat → Option Nat := aRow rR_143 70 (fun _ => none)
noncomputable def rR_145 : Nat → Nat → Option Nat := aU rR_144 69 2 (some 70)
noncomputable def rR_146 : Nat → Nat → Option Nat := aU rR_145 66 1 (some 69)
noncomputable def kK_72 : Nat → Nat := aRow kK_71 71 6
noncomputable def kL_72 : Nat → Nat := aRow kL_71 71 0
noncomputable def iI_407 : Nat → Nat → Int32 := aRow iI_406 71 (fun _ => 0)
noncomputable def jJ_72 : Nat → Nat → Int64 := aRow jJ_71 71 (fun _ => 0)
noncomputable def rR_147 : Nat → Nat → Option Nat := aRow rR_146 71 (fun _ => none)
noncomputable def iI_408 : Nat → Nat → Int32 := aU iI_407 71 0 (Int32.ofInt 0)
noncomputable def iI_409 : Nat → Nat → Int32 := aU iI_408 71 1 (Int32.ofInt 6)
noncomputable def kK_73 : Nat → Nat := aRow kK_72 72 100
noncomputable def kL_73 : Nat → Nat := aRow kL_72 72 36
noncomputable def iI_410 : Nat → Nat → Int32 := aRow iI_409 72 (fun _ => 0)
noncomputable def jJ_73 : Nat → Nat → Int64 := aRow jJ_72 72 (fun _ => 0)
noncomputable def rR_148 : Nat → Nat → Option Nat := aRow rR_147 72 (fun _ => none)
noncomputable def rR_149 : Nat → Nat → Option Nat := aU rR_148 71 2 (some 72)
noncomputable def rR_150 : Nat → Nat → Option Nat := aU rR_149 66 2 (some 71)
noncomputable def kK_74 : Nat → Nat := aRow kK_73 73 100
noncomputable def kL_74 : Nat → Nat := aRow kL_73 73 49
noncomputable def iI_411 : Nat → Nat → Int32 := aRow iI_410 73 (fun _ => 0)
noncomputable def jJ_74 : Nat → Nat → Int64 := aRow jJ_73 73 (fun _ => 0)
noncomputable def rR_151 : Nat → Nat → Option Nat := aRow rR_150 73 (fun _ => none)
noncomputable def rR_152 : Nat → Nat → Option Nat := aU rR_151 66 3 (some 73)
noncomputable def kK_75 : Nat → Nat := aRow kK_74 74 100
noncomputable def kL_75 : Nat → Nat := aRow kL_74 74 49
noncomputable def iI_412 : Nat → Nat → Int32 := aRow iI_411 74 (fun _ => 0)
noncomputable def jJ_75 : Nat → Nat → Int64 := aRow jJ_74 74 (fun _ => 0)
noncomputable def rR_153 : Nat → Nat → Option Nat := aRow rR_152 74 (fun _ => none)
noncomputable def rR_154 : Nat → Nat → Option Nat := aU rR_153 66 4 (some 74)
noncomputable def kK_76 : Nat → Nat := aRow kK_75 75 100
noncomputable def kL_76 : Nat → Nat := aRow kL_75 75 49
noncomputable def iI_413 : Nat → Nat → Int32 := aRow iI_412 75 (fun _ => 0)
noncomputable def jJ_76 : Nat → Nat → Int64 := aRow jJ_75 75 (fun _ => 0)
noncomputable def rR_155 : Nat → Nat → Option Nat := aRow rR_154 75 (fun _ => none)
noncomputable def rR_156 : Nat → Nat → Option Nat := aU rR_155 66 5 (some 75)
noncomputable def kK_77 : Nat → Nat := aRow kK_76 76 100
noncomputable def kL_77 : Nat → Nat := aRow kL_76 76 8
noncomputable def iI_414 : Nat → Nat → Int32 := aRow iI_413 76 (fun _ => 0)
noncomputable def jJ_77 : Nat → Nat → Int64 := aRow jJ_76 76 (fun _ => 0)
noncomputable def rR_157 : Nat → Nat → Option Nat := aRow rR_156 76 (fun _ => none)
noncomputable def rR_158 : Nat → Nat → Option Nat := aU rR_157 66 6 (some 76)
noncomputable def kK_78 : Nat → Nat := aRow kK_77 77 100
noncomputable def kL_78 : Nat → Nat := aRow kL_77 77 8
noncomputable def iI_415 : Nat → Nat → Int32 := aRow iI_414 77 (fun _ => 0)
noncomputable def jJ_78 : Nat → Nat → Int64 := aRow jJ_77 77 (fun _ => 0)
noncomputable def rR_159 : Nat → Nat → Option Nat := aRow rR_158 77 (fun _ => none)
noncomputable def rR_160 : Nat → Nat → Option Nat := aU rR_159 66 7 (some 77)
noncomputable def kK_79 : Nat → Nat := aRow kK_78 78 100
noncomputable def kL_79 : Nat → Nat := aRow kL_78 78 8
noncomputable def iI_416 : Nat → Nat → Int32 := aRow iI_415 78 (fun _ => 0)
noncomputable def jJ_79 : Nat → Nat → Int64 := aRow jJ_78 78 (fun _ => 0)
noncomputable def rR_161 : Nat → Nat → Option Nat := aRow rR_160 78 (fun _ => none)
noncomputable def rR_162 : Nat → Nat → Option Nat := aU rR_161 66 8 (some 78)
noncomputable def kK_80 : Nat → Nat := aRow kK_79 79 100
noncomputable def kL_80 : Nat → Nat := aRow kL_79 79 6
noncomputable def iI_417 : Nat → Nat → Int32 := aRow iI_416 79 (fun _ => 0)
noncomputable def jJ_80 : Nat → Nat → Int64 := aRow jJ_79 79 (fun _ => 0)
noncomputable def rR_163 : Nat → Nat → Option Nat := aRow rR_162 79 (fun _ => none)
noncomputable def rR_164 : Nat → Nat → Option Nat := aU rR_163 66 9 (some 79)
noncomputable def kK_81 : Nat → Nat := aRow kK_80 80 100
noncomputable def kL_81 : Nat → Nat := aRow kL_80 80 6
noncomputable def iI_418 : Nat → Nat → Int32 := aRow iI_417 80 (fun _ => 0)
noncomputable def jJ_81 : Nat → Nat → Int64 := aRow jJ_80 80 (fun _ => 0)
noncomputable def rR_165 : Nat → Nat → Option Nat := aRow rR_164 80 (fun _ => none)
noncomputable def rR_166 : Nat → Nat → Option Nat := aU rR_165 66 10 (some 80)
noncomputable def kK_82 : Nat → Nat := aRow kK_81 81 100
noncomputable def kL_82 : Nat → Nat := aRow kL_81 81 6
noncomputable def iI_419 : Nat → Nat → Int32 := aRow iI_418 81 (fun _ => 0)
noncomputable def jJ_82 : Nat → Nat → Int64 := aRow jJ_81 81 (fun _ => 0)
noncomputable def rR_167 : Nat → Nat → Option Nat := aRow rR_166 81 (fun _ => none)
noncomputable def rR_168 : Nat → Nat → Option Nat := aU rR_167 66 11 (some 81)
noncomputable def kK_83 : Nat → Nat := aRow kK_82 82 100
noncomputable def kL_83 : Nat → Nat := aRow kL_82 82 6
noncomputable def iI_420 : Nat → Nat → Int32 := aRow iI_419 82 (fun _ => 0)
noncomputable def jJ_83 : Nat → Nat → Int64 := aRow jJ_82 82 (fun _ => 0)
noncomputable def rR_169 : Nat → Nat → Option Nat := aRow rR_168 82 (fun _ => none)
noncomputable def rR_170 : Nat → Nat → Option Nat := aU rR_169 66 12 (some 82)
noncomputable def kK_84 : Nat → Nat := aRow kK_83 83 3
noncomputable def kL_84 : Nat → Nat := aRow kL_83 83 0
noncomputable def iI_421 : Nat → Nat → Int32 := aRow iI_420 83 (fun _ => 0)
noncomputable def jJ_84 : Nat → Nat → Int64 := aRow jJ_83 83 (fun _ => 0)
noncomputable def rR_171 : Nat → Nat → Option Nat := aRow rR_170 83 (fun _ => none)
noncomputable def kK_85 : Nat → Nat := aRow kK_84 84 100
noncomputable def kL_85 : Nat → Nat := aRow kL_84 84 1600
noncomputable def iI_422 : Nat → Nat → Int32 := aRow iI_421 84 (fun _ => 0)
noncomputable def jJ_85 : Nat → Nat → Int64 := aRow jJ_84 84 (fun _ => 0)
noncomputable def rR_172 : Nat → Nat → Option Nat := aRow rR_171 84 (fun _ => none)
noncomputable def rR_173 : Nat → Nat → Option Nat := aU rR_172 83 0 (some 84)
noncomputable def kK_86 : Nat → Nat := aRow kK_85 85 100
noncomputable def kL_86 : Nat → Nat := aRow kL_85 85 64
noncomputable def iI_423 : Nat → Nat → Int32 := aRow iI_422 85 (fun _ => 0)
noncomputable def jJ_86 : Nat → Nat → Int64 := aRow jJ_85 85 (fun _ => 0)
noncomputable def rR_174 : Nat → Nat → Option Nat := aRow rR_173 85 (fun _ => none)
noncomputable def rR_175 : Nat → Nat → Option Nat := aU rR_174 83 1 (some 85)
noncomputable def iI_424 : Nat → Nat → Int32 := aU iI_423 83 2 (Int32.ofInt 0)
noncomputable def rR_176 : Nat → Nat → Option Nat := aU rR_175 66 13 (some 83)
noncomputable def kK_87 : Nat → Nat := aRow kK_86 86 3
noncomputable def kL_87 : Nat → Nat := aRow kL_86 86 0
noncomputable def iI_425 : Nat → Nat → Int32 := aRow iI_424 86 (fun _ => 0)
noncomputable def jJ_87 : Nat → Nat → Int64 := aRow jJ_86 86 (fun _ => 0)
noncomputable def rR_177 : Nat → Nat → Option Nat := aRow rR_176 86 (fun _ => none)
noncomputable def kK_88 : Nat → Nat := aRow kK_87 87 100
noncomputable def kL_88 : Nat → Nat := aRow kL_87 87 1600
noncomputable def iI_426 : Nat → Nat → Int32 := aRow iI_425 87 (fun _ => 0)
noncomputable def jJ_88 : Nat → Nat → Int64 := aRow jJ_87 87 (fun _ => 0)
noncomputable def rR_178 : Nat → Nat → Option Nat := aRow rR_177 87 (fun _ => none)
noncomputable def rR_179 : Nat → Nat → Option Nat := aU rR_178 86 0 (some 87)
noncomputable def kK_89 : Nat → Nat := aRow kK_88 88 100
noncomputable def kL_89 : Nat → Nat := aRow kL_88 88 64
noncomputable def iI_427 : Nat → Nat → Int32 := aRow iI_426 88 (fun _ => 0)
noncomputable def jJ_89 : Nat → Nat → Int64 := aRow jJ_88 88 (fun _ => 0)
noncomputable def rR_180 : Nat → Nat → Option Nat := aRow rR_179 88 (fun _ => none)
noncomputable def rR_181 : Nat → Nat → Option Nat := aU rR_180 86 1 (some 88)
noncomputable def iI_428 : Nat → Nat → Int32 := aU iI_427 86 2 (Int32.ofInt 0)
noncomputable def rR_182 : Nat → Nat → Option Nat := aU rR_181 66 14 (some 86)
noncomputable def iI_429 : Nat → Nat → Int32 := aU iI_428 66 15 (Int32.ofInt 0)
noncomputable def iI_430 : Nat → Nat → Int32 := aU iI_429 66 16 (Int32.ofInt 0)
noncomputable def iI_431 : Nat → Nat → Int32 := aU iI_430 66 17 (Int32.ofInt 0)
noncomputable def iI_432 : Nat → Nat → Int32 := aU iI_431 66 18 (Int32.ofInt 3)
noncomputable def iI_433 : Nat → Nat → Int32 := aU iI_432 66 19 (Int32.ofInt 0)
noncomputable def rR_183 : Nat → Nat → Option Nat := aU rR_182 0 14 (some 66)
noncomputable def iI_434 : Nat → Nat → Int32 := aU iI_433 0 15 (Int32.ofInt 0)
noncomputable def iI_435 : Nat → Nat → Int32 := aU iI_434 0 16 (Int32.ofInt 0)
noncomputable def iI_436 : Nat → Nat → Int32 := aU iI_435 0 17 (Int32.ofInt 0)
noncomputable def iI_437 : Nat → Nat → Int32 := aU iI_436 0 18 (Int32.ofInt 1)
noncomputable def kK_90 : Nat → Nat := aRow kK_89 89 7
noncomputable def kL_90 : Nat → Nat := aRow kL_89 89 0
noncomputable def iI_438 : Nat → Nat → Int32 := aRow iI_437 89 (fun _ => 0)
noncomputable def jJ_90 : Nat → Nat → Int64 := aRow jJ_89 89 (fun _ => 0)
noncomputable def rR_184 : Nat → Nat → Option Nat := aRow rR_183 89 (fun _ => none)
noncomputable def kK_91 : Nat → Nat := aRow kK_90 90 100
noncomputable def kL_91 : Nat → Nat := aRow kL_90 90 8
noncomputable def iI_439 : Nat → Nat → Int32 := aRow iI_438 90 (fun _ => 0)
noncomputable def jJ_91 : Nat → Nat → Int64 := aRow jJ_90 90 (fun _ => 0)
noncomputable def rR_185 : Nat → Nat → Option Nat := aRow rR_184 90 (fun _ => none)
noncomputable def rR_186 : Nat → Nat → Option Nat := aU rR_185 89 0 (some 90)
noncomputable def kK_92 : Nat → Nat := aRow kK_91 91 100
noncomputable def kL_92 : Nat → Nat := aRow kL_91 91 6
noncomputable def iI_440 : Nat → Nat → Int32 := aRow iI_439 91 (fun _ => 0)
noncomputable def jJ_92 : Nat → Nat → Int64 := aRow jJ_91 91 (fun _ => 0)
noncomputable def rR_187 : Nat → Nat → Option Nat := aRow rR_186 91 (fun _ => none)
noncomputable def rR_188 : Nat → Nat → Option Nat := aU rR_187 89 1 (some 91)
noncomputable def kK_93 : Nat → Nat := aRow kK_92 92 100
noncomputable def kL_93 : Nat → Nat := aRow kL_92 92 6
noncomputable def iI_441 : Nat → Nat → Int32 := aRow iI_440 92 (fun _ => 0)
noncomputable def jJ_93 : Nat → Nat → Int64 := aRow jJ_92 92 (fun _ => 0)
noncomputable def rR_189 : Nat → Nat → Option Nat := aRow rR_188 92 (fun _ => none)
noncomputable def rR_190 : Nat → Nat → Option Nat := aU rR_189 89 2 (some 92)
noncomputable def kK_94 : Nat → Nat := aRow kK_93 93 100
noncomputable def kL_94 : Nat → Nat := aRow kL_93 93 6
noncomputable def iI_442 : Nat → Nat → Int32 := aRow iI_441 93 (fun _ => 0)
noncomputable def jJ_94 : Nat → Nat → Int64 := aRow jJ_93 93 (fun _ => 0)
noncomputable def rR_191 : Nat → Nat → Option Nat := aRow rR_190 93 (fun _ => none)
noncomputable def rR_192 : Nat → Nat → Option Nat := aU rR_191 89 3 (some 93)
noncomputable def kK_95 : Nat → Nat := aRow kK_94 94 100
noncomputable def kL_95 : Nat → Nat := aRow kL_94 94 8
noncomputable def iI_443 : Nat → Nat → Int32 := aRow iI_442 94 (fun _ => 0)
noncomputable def jJ_95 : Nat → Nat → Int64 := aRow jJ_94 94 (fun _ => 0)
noncomputable def rR_193 : Nat → Nat → Option Nat := aRow rR_192 94 (fun _ => none)
noncomputable def rR_194 : Nat → Nat → Option Nat := aU rR_193 89 4 (some 94)
noncomputable def iI_444 : Nat → Nat → Int32 := aU iI_443 89 5 (Int32.ofInt 0)
noncomputable def iI_445 : Nat → Nat → Int32 := aU iI_444 89 6 (Int32.ofInt 0)
noncomputable def iI_446 : Nat → Nat → Int32 := aU iI_445 89 7 (Int32.ofInt 0)
noncomputable def rR_195 : Nat → Nat → Option Nat := aU rR_194 40 0 (some 89)
noncomputable def kK_96 : Nat → Nat := aRow kK_95 95 7
noncomputable def kL_96 : Nat → Nat := aRow kL_95 95 0
noncomputable def iI_447 : Nat → Nat → Int32 := aRow iI_446 95 (fun _ => 0)
noncomputable def jJ_96 : Nat → Nat → Int64 := aRow jJ_95 95 (fun _ => 0)
noncomputable def rR_196 : Nat → Nat → Option Nat := aRow rR_195 95 (fun _ => none)
noncomputable def kK_97 : Nat → Nat := aRow kK_96 96 100
noncomputable def kL_97 : Nat → Nat := aRow kL_96 96 8
noncomputable def iI_448 : Nat → Nat → Int32 := aRow iI_447 96 (fun _ => 0)
noncomputable def jJ_97 : Nat → Nat → Int64 := aRow jJ_96 96 (fun _ => 0)
noncomputable def rR_197 : Nat → Nat → Option Nat := aRow rR_196 96 (fun _ => none)
noncomputable def rR_198 : Nat → Nat → Option Nat := aU rR_197 95 0 (some 96)
noncomputable def kK_98 : Nat → Nat := aRow kK_97 97 100
noncomputable def kL_98 : Nat → Nat := aRow kL_97 97 6
noncomputable def iI_449 : Nat → Nat → Int32 := aRow iI_448 97 (fun _ => 0)
noncomputable def jJ_98 : Nat → Nat → Int64 := aRow jJ_97 97 (fun _ => 0)
noncomputable def rR_199 : Nat → Nat → Option Nat := aRow rR_198 97 (fun _ => none)
noncomputable def rR_200 : Nat → Nat → Option Nat := aU rR_199 95 1 (some 97)
noncomputable def kK_99 : Nat → Nat := aRow kK_98 98 100
noncomputable def kL_99 : Nat → Nat := aRow kL_98 98 6
noncomputable def iI_450 : Nat → Nat → Int32 := aRow iI_449 98 (fun _ => 0)
noncomputable def jJ_99 : Nat → Nat → Int64 := aRow jJ_98 98 (fun _ => 0)
noncomputable def rR_201 : Nat → Nat → Option Nat := aRow rR_200 98 (fun _ => none)
noncomputable def rR_202 : Nat → Nat → Option Nat := aU rR_201 95 2 (some 98)
noncomputable def kK_100 : Nat → Nat := aRow kK_99 99 100
noncomputable def kL_100 : Nat → Nat := aRow kL_99 99 6
noncomputable def iI_451 : Nat → Nat → Int32 := aRow iI_450 99 (fun _ => 0)
noncomputable def jJ_100 : Nat → Nat → Int64 := aRow jJ_99 99 (fun _ => 0)
noncomputable def rR_203 : Nat → Nat → Option Nat := aRow rR_202 99 (fun _ => none)
noncomputable def rR_204 : Nat → Nat → Option Nat := aU rR_203 95 3 (some 99)
noncomputable def kK_101 : Nat → Nat := aRow kK_100 100 100
noncomputable def kL_101 : Nat → Nat := aRow kL_100 100 8
noncomputable def iI_452 : Nat → Nat → Int32 := aRow iI_451 100 (fun _ => 0)
noncomputable def jJ_101 : Nat → Nat → Int64 := aRow jJ_100 100 (fun _ => 0)
noncomputable def rR_205 : Nat → Nat → Option Nat := aRow rR_204 100 (fun _ => none)
noncomputable def rR_206 : Nat → Nat → Option Nat := aU rR_205 95 4 (some 100)
noncomputable def iI_453 : Nat → Nat → Int32 := aU iI_452 95 5 (Int32.ofInt 0)
noncomputable def iI_454 : Nat → Nat → Int32 := aU iI_453 95 6 (Int32.ofInt 0)
noncomputable def iI_455 : Nat → Nat → Int32 := aU iI_454 95 7 (Int32.ofInt 0)
noncomputable def rR_207 : Nat → Nat → Option Nat := aU rR_206 40 1 (some 95)
noncomputable def kK_102 : Nat → Nat := aRow kK_101 101 7
noncomputable def kL_102 : Nat → Nat := aRow kL_101 101 0
noncomputable def iI_456 : Nat → Nat → Int32 := aRow iI_455 101 (fun _ => 0)
noncomputable def jJ_102 : Nat → Nat → Int64 := aRow jJ_101 101 (fun _ => 0)
noncomputable def rR_208 : Nat → Nat → Option Nat := aRow rR_207 101 (fun _ => none)
noncomputable def kK_103 : Nat → Nat := aRow kK_102 102 100
noncomputable def kL_103 : Nat → Nat := aRow kL_102 102 8
noncomputable def iI_457 : Nat → Nat → Int32 := aRow iI_456 102 (fun _ => 0)
noncomputable def jJ_103 : Nat → Nat → Int64 := aRow jJ_102 102 (fun _ => 0)
noncomputable def rR_209 : Nat → Nat → Option Nat := aRow rR_208 102 (fun _ => none)
noncomputable def rR_210 : Nat → Nat → Option Nat := aU rR_209 101 0 (some 102)
noncomputable def kK_104 : Nat → Nat := aRow kK_103 103 100
noncomputable def kL_104 : Nat → Nat := aRow kL_103 103 6
noncomputable def iI_458 : Nat → Nat → Int32 := aRow iI_457 103 (fun _ => 0)
noncomputable def jJ_104 : Nat → Nat → Int64 := aRow jJ_103 103 (fun _ => 0)
noncomputable def rR_211 : Nat → Nat → Option Nat := aRow rR_210 103 (fun _ => none)
noncomputable def rR_212 : Nat → Nat → Option Nat := aU rR_211 101 1 (some 103)
noncomputable def kK_105 : Nat → Nat := aRow kK_104 104 100
noncomputable def kL_105 : Nat → Nat := aRow kL_104 104 6
noncomputable def iI_459 : Nat → Nat → Int32 := aRow iI_458 104 (fun _ => 0)
noncomputable def jJ_105 : Nat → Nat → Int64 := aRow jJ_104 104 (fun _ => 0)
noncomputable def rR_213 : Nat → Nat → Option Nat := aRow rR_212 104 (fun _ => none)
noncomputable def rR_214 : Nat → Nat → Option Nat := aU rR_213 101 2 (some 104)
noncomputable def kK_106 : Nat → Nat := aRow kK_105 105 100
noncomputable def kL_106 : Nat → Nat := aRow kL_105 105 6
noncomputable def iI_460 : Nat → Nat → Int32 := aRow iI_459 105 (fun _ => 0)
noncomputable def jJ_106 : Nat → Nat → Int64 := aRow jJ_105 105 (fun _ => 0)
noncomputable def rR_215 : Nat → Nat → Option Nat := aRow rR_214 105 (fun _ => none)
noncomputable def rR_216 : Nat → Nat → Option Nat := aU rR_215 101 3 (some 105)
noncomputable def kK_107 : Nat → Nat := aRow kK_106 106 100
noncomputable def kL_107 : Nat → Nat := aRow kL_106 106 8
noncomputable def iI_461 : Nat → Nat → Int32 := aRow iI_460 106 (fun _ => 0)
noncomputable def jJ_107 : Nat → Nat → Int64 := aRow jJ_106 106 (fun _ => 0)
noncomputable def rR_217 : Nat → Nat → Option Nat := aRow rR_216 106 (fun _ => none)
noncomputable def rR_218 : Nat → Nat → Option Nat := aU rR_217 101 4 (some 106)
noncomputable def iI_462 : Nat → Nat → Int32 := aU iI_461 101 5 (Int32.ofInt 0)
noncomputable def iI_463 : Nat → Nat → Int32 := aU iI_462 101 6 (Int32.ofInt 0)
noncomputable def iI_464 : Nat → Nat → Int32 := aU iI_463 101 7 (Int32.ofInt 0)
noncomputable def rR_219 : Nat → Nat → Option Nat := aU rR_218 40 2 (some 101)
noncomputable def kK_108 : Nat → Nat := aRow kK_107 107 7
noncomputable def kL_108 : Nat → Nat := aRow kL_107 107 0
noncomputable def iI_465 : Nat → Nat → Int32 := aRow iI_464 107 (fun _ => 0)
noncomputable def jJ_108 : Nat → Nat → Int64 := aRow jJ_107 107 (fun _ => 0)
noncomputable def rR_220 : Nat → Nat → Option Nat := aRow rR_219 107 (fun _ => none)
noncomputable def kK_109 : Nat → Nat := aRow kK_108 108 100
noncomputable def kL_109 : Nat → Nat := aRow kL_108 108 8
noncomputable def iI_466 : Nat → Nat → Int32 := aRow iI_465 108 (fun _ => 0)
noncomputable def jJ_109 : Nat → Nat → Int64 := aRow jJ_108 108 (fun _ => 0)
noncomputable def rR_221 : Nat → Nat → Option Nat := aRow rR_220 108 (fun _ => none)
noncomputable def rR_222 : Nat → Nat → Option Nat := aU rR_221 107 0 (some 108)
noncomputable def kK_110 : Nat → Nat := aRow kK_109 109 100
noncomputable def kL_110 : Nat → Nat := aRow kL_109 109 6
noncomputable def iI_467 : Nat → Nat → Int32 := aRow iI_466 109 (fun _ => 0)
noncomputable def jJ_110 : Nat → Nat → Int64 := aRow jJ_109 109 (fun _ => 0)
noncomputable def rR_223 : Nat → Nat → Option Nat := aRow rR_222 109 (fun _ => none)
noncomputable def rR_224 : Nat → Nat → Option Nat := aU rR_223 107 1 (some 109)
noncomputable def kK_111 : Nat → Nat := aRow kK_110 110 100
noncomputable def kL_111 : Nat → Nat := aRow kL_110 110 6
noncomputable def iI_468 : Nat → Nat → Int32 := aRow iI_467 110 (fun _ => 0)
noncomputable def jJ_111 : Nat → Nat → Int64 := aRow jJ_110 110 (fun _ => 0)
noncomputable def rR_225 : Nat → Nat → Option Nat := aRow rR_224 110 (fun _ => none)
noncomputable def rR_226 : Nat → Nat → Option Nat := aU rR_225 107 2 (some 110)
noncomputable def kK_112 : Nat → Nat := aRow kK_111 111 100
noncomputable def kL_112 : Nat → Nat := aRow kL_111 111 6
noncomputable def iI_469 : Nat → Nat → Int32 := aRow iI_468 111 (fun _ => 0)
noncomputable def jJ_112 : Nat → Nat → Int64 := aRow jJ_111 111 (fun _ => 0)
noncomputable def rR_227 : Nat → Nat → Option Nat := aRow rR_226 111 (fun _ => none)
noncomputable def rR_228 : Nat → Nat → Option Nat := aU rR_227 107 3 (some 111)
noncomputable def kK_113 : Nat → Nat := aRow kK_112 112 100
noncomputable def kL_113 : Nat → Nat := aRow kL_112 112 8
noncomputable def iI_470 : Nat → Nat → Int32 := aRow iI_469 112 (fun _ => 0)
noncomputable def jJ_113 : Nat → Nat → Int64 := aRow jJ_112 112 (fun _ => 0)
noncomputable def rR_229 : Nat → Nat → Option Nat := aRow rR_228 112 (fun _ => none)
noncomputable def rR_230 : Nat → Nat → Option Nat := aU rR_229 107 4 (some 112)
noncomputable def iI_471 : Nat → Nat → Int32 := aU iI_470 107 5 (Int32.ofInt 0)
noncomputable def iI_472 : Nat → Nat → Int32 := aU iI_471 107 6 (Int32.ofInt 0)
noncomputable def iI_473 : Nat → Nat → Int32 := aU iI_472 107 7 (Int32.ofInt 0)
noncomputable def rR_231 : Nat → Nat → Option Nat := aU rR_230 40 3 (some 107)
noncomputable def kK_114 : Nat → Nat := aRow kK_113 113 7
noncomputable def kL_114 : Nat → Nat := aRow kL_113 113 0
noncomputable def iI_474 : Nat → Nat → Int32 := aRow iI_473 113 (fun _ => 0)
noncomputable def jJ_114 : Nat → Nat → Int64 := aRow jJ_113 113 (fun _ => 0)
noncomputable def rR_232 : Nat → Nat → Option Nat := aRow rR_231 113 (fun _ => none)
noncomputable def kK_115 : Nat → Nat := aRow kK_114 114 100
noncomputable def kL_115 : Nat → Nat := aRow kL_114 114 8
noncomputable def iI_475 : Nat → Nat → Int32 := aRow iI_474 114 (fun _ => 0)
noncomputable def jJ_115 : Nat → Nat → Int64 := aRow jJ_114 114 (fun _ => 0)
noncomputable def rR_233 : Nat → Nat → Option Nat := aRow rR_232 114 (fun _ => none)
noncomputable def rR_234 : Nat → Nat → Option Nat := aU rR_233 113 0 (some 114)
noncomputable def kK_116 : Nat → Nat := aRow kK_115 115 100
noncomputable def kL_116 : Nat → Nat := aRow kL_115 115 6
noncomputable def iI_476 : Nat → Nat → Int32 := aRow iI_475 115 (fun _ => 0)
noncomputable def jJ_116 : Nat → Nat → Int64 := aRow jJ_115 115 (fun _ => 0)
noncomputable def rR_235 : Nat → Nat → Option Nat := aRow rR_234 115 (fun _ => none)
noncomputable def rR_236 : Nat → Nat → Option Nat := aU rR_235 113 1 (some 115)
noncomputable def kK_117 : Nat → Nat := aRow kK_116 116 100
noncomputable def kL_117 : Nat → Nat := aRow kL_116 116 6
noncomputable def iI_477 : Nat → Nat → Int32 := aRow iI_476 116 (fun _ => 0)
noncomputable def jJ_117 : Nat → Nat → Int64 := aRow jJ_116 116 (fun _ => 0)
noncomputable def rR_237 : Nat → Nat → Option Nat := aRow rR_236 116 (fun _ => none)
noncomputable def rR_238 : Nat → Nat → Option Nat := aU rR_237 113 2 (some 116)
noncomputable def kK_118 : Nat → Nat := aRow kK_117 117 100
noncomputable def kL_118 : Nat → Nat := aRow kL_117 117 6
noncomputable def iI_478 : Nat → Nat → Int32 := aRow iI_477 117 (fun _ => 0)
noncomputable def jJ_118 : Nat → Nat → Int64 := aRow jJ_117 117 (fun _ => 0)
noncomputable def rR_239 : Nat → Nat → Option Nat := aRow rR_238 117 (fun _ => none)
noncomputable def rR_240 : Nat → Nat → Option Nat := aU rR_239 113 3 (some 117)
noncomputable def kK_119 : Nat → Nat := aRow kK_118 118 100
noncomputable def kL_119 : Nat → Nat := aRow kL_118 118 8
noncomputable def iI_479 : Nat → Nat → Int32 := aRow iI_478 118 (fun _ => 0)
noncomputable def jJ_119 : Nat → Nat → Int64 := aRow jJ_118 118 (fun _ => 0)
noncomputable def rR_241 : Nat → Nat → Option Nat := aRow rR_240 118 (fun _ => none)
noncomputable def rR_242 : Nat → Nat → Option Nat := aU rR_241 113 4 (some 118)
noncomputable def iI_480 : Nat → Nat → Int32 := aU iI_479 113 5 (Int32.ofInt 0)
noncomputable def iI_481 : Nat → Nat → Int32 := aU iI_480 113 6 (Int32.ofInt 0)
noncomputable def iI_482 : Nat → Nat → Int32 := aU iI_481 113 7 (Int32.ofInt 0)
noncomputable def rR_243 : Nat → Nat → Option Nat := aU rR_242 40 4 (some 113)
noncomputable def kK_120 : Nat → Nat := aRow kK_119 119 7
noncomputable def kL_120 : Nat → Nat := aRow kL_119 119 0
noncomputable def iI_483 : Nat → Nat → Int32 := aRow iI_482 119 (fun _ => 0)
noncomputable def jJ_120 : Nat → Nat → Int64 := aRow jJ_119 119 (fun _ => 0)
noncomputable def rR_244 : Nat → Nat → Option Nat := aRow rR_243 119 (fun _ => none)
noncomputable def kK_121 : Nat → Nat := aRow kK_120 120 100
noncomputable def kL_121 : Nat → Nat := aRow kL_120 120 8
noncomputable def iI_484 : Nat → Nat → Int32 := aRow iI_483 120 (fun _ => 0)
noncomputable def jJ_121 : Nat → Nat → Int64 := aRow jJ_120 120 (fun _ => 0)
noncomputable def rR_245 : Nat → Nat → Option Nat := aRow rR_244 120 (fun _ => none)
noncomputable def rR_246 : Nat → Nat → Option Nat := aU rR_245 119 0 (some 120)
noncomputable def kK_122 : Nat → Nat := aRow kK_121 121 100
noncomputable def kL_122 : Nat → Nat := aRow kL_121 121 6
noncomputable def iI_485 : Nat → Nat → Int32 := aRow iI_484 121 (fun _ => 0)
noncomputable def jJ_122 : Nat → Nat → Int64 := aRow jJ_121 121 (fun _ => 0)
noncomputable def rR_247 : Nat → Nat → Option Nat := aRow rR_246 121 (fun _ => none)
noncomputable def rR_248 : Nat → Nat → Option Nat := aU rR_247 119 1 (some 121)
noncomputable def kK_123 : Nat → Nat := aRow kK_122 122 100
noncomputable def kL_123 : Nat → Nat := aRow kL_122 122 6
noncomputable def iI_486 : Nat → Nat → Int32 := aRow iI_485 122 (fun _ => 0)
noncomputable def jJ_123 : Nat → Nat → Int64 := aRow jJ_122 122 (fun _ => 0)
noncomputable def rR_249 : Nat → Nat → Option Nat := aRow rR_248 122 (fun _ => none)
noncomputable def rR_250 : Nat → Nat → Option Nat := aU rR_249 119 2 (some 122)
noncomputable def kK_124 : Nat → Nat := aRow kK_123 123 100
noncomputable def kL_124 : Nat → Nat := aRow kL_123 123 6
noncomputable def iI_487 : Nat → Nat → Int32 := aRow iI_486 123 (fun _ => 0)
noncomputable def jJ_124 : Nat → Nat → Int64 := aRow jJ_123 123 (fun _ => 0)
noncomputable def rR_251 : Nat → Nat → Option Nat := aRow rR_250 123 (fun _ => none)
noncomputable def rR_252 : Nat → Nat → Option Nat := aU rR_251 119 3 (some 123)
noncomputable def kK_125 : Nat → Nat := aRow kK_124 124 100
noncomputable def kL_125 : Nat → Nat := aRow kL_124 124 8
noncomputable def iI_488 : Nat → Nat → Int32 := aRow iI_487 124 (fun _ => 0)
noncomputable def jJ_125 : Nat → Nat → Int64 := aRow jJ_124 124 (fun _ => 0)
noncomputable def rR_253 : Nat → Nat → Option Nat := aRow rR_252 124 (fun _ => none)
noncomputable def rR_254 : Nat → Nat → Option Nat := aU rR_253 119 4 (some 124)
noncomputable def iI_489 : Nat → Nat → Int32 := aU iI_488 119 5 (Int32.ofInt 0)
noncomputable def iI_490 : Nat → Nat → Int32 := aU iI_489 119 6 (Int32.ofInt 0)
noncomputable def iI_491 : Nat → Nat → Int32 := aU iI_490 119 7 (Int32.ofInt 0)
noncomputable def rR_255 : Nat → Nat → Option Nat := aU rR_254 40 5 (some 119)
noncomputable def kK_126 : Nat → Nat := aRow kK_125 125 7
noncomputable def kL_126 : Nat → Nat := aRow kL_125 125 0
noncomputable def iI_492 : Nat → Nat → Int32 := aRow iI_491 125 (fun _ => 0)
noncomputable def jJ_126 : Nat → Nat → Int64 := aRow jJ_125 125 (fun _ => 0)
noncomputable def rR_256 : Nat → Nat → Option Nat := aRow rR_255 125 (fun _ => none)
noncomputable def kK_127 : Nat → Nat := aRow kK_126 126 100
noncomputable def kL_127 : Nat → Nat := aRow kL_126 126 8
noncomputable def iI_493 : Nat → Nat → Int32 := aRow iI_492 126 (fun _ => 0)
noncomputable def jJ_127 : Nat → Nat → Int64 := aRow jJ_126 126 (fun _ => 0)
noncomputable def rR_257 : Nat → Nat → Option Nat := aRow rR_256 126 (fun _ => none)
noncomputable def rR_258 : Nat → Nat → Option Nat := aU rR_257 125 0 (some 126)
noncomputable def kK_128 : Nat → Nat := aRow kK_127 127 100
noncomputable def kL_128 : Nat → Nat := aRow kL_127 127 6
noncomputable def iI_494 : Nat → Nat → Int32 := aRow iI_493 127 (fun _ => 0)
noncomputable def jJ_128 : Nat → Nat → Int64 := aRow jJ_127 127 (fun _ => 0)
noncomputable def rR_259 : Nat → Nat → Option Nat := aRow rR_258 127 (fun _ => none)
noncomputable def rR_260 : Nat → Nat → Option Nat := aU rR_259 125 1 (some 127)
noncomputable def kK_129 : Nat → Nat := aRow kK_128 128 100
noncomputable def kL_129 : Nat → Nat := aRow kL_128 128 6
noncomputable def iI_495 : Nat → Nat → Int32 := aRow iI_494 128 (fun _ => 0)
noncomputable def jJ_129 : Nat → Nat → Int64 := aRow jJ_128 128 (fun _ => 0)
noncomputable def rR_261 : Nat → Nat → Option Nat := aRow rR_260 128 (fun _ => none)
noncomputable def rR_262 : Nat → Nat → Option Nat := aU rR_261 125 2 (some 128)
noncomputable def kK_130 : Nat → Nat := aRow kK_129 129 100
noncomputable def kL_130 : Nat → Nat := aRow kL_129 129 6
noncomputable def iI_496 : Nat → Nat → Int32 := aRow iI_495 129 (fun _ => 0)
noncomputable def jJ_130 : Nat → Nat → Int64 := aRow jJ_129 129 (fun _ => 0)
noncomputable def rR_263 : Nat → Nat → Option Nat := aRow rR_262 129 (fun _ => none)
noncomputable def rR_264 : Nat → Nat → Option Nat := aU rR_263 125 3 (some 129)
noncomputable def kK_131 : Nat → Nat := aRow kK_130 130 100
noncomputable def kL_131 : Nat → Nat := aRow kL_130 130 8
noncomputable def iI_497 : Nat → Nat → Int32 := aRow iI_496 130 (fun _ => 0)
noncomputable def jJ_131 : Nat → Nat → Int64 := aRow jJ_130 130 (fun _ => 0)
noncomputable def rR_265 : Nat → Nat → Option Nat := aRow rR_264 130 (fun _ => none)
noncomputable def rR_266 : Nat → Nat → Option Nat := aU rR_265 125 4 (some 130)
noncomputable def iI_498 : Nat → Nat → Int32 := aU iI_497 125 5 (Int32.ofInt 0)
noncomputable def iI_499 : Nat → Nat → Int32 := aU iI_498 125 6 (Int32.ofInt 0)
noncomputable def iI_500 : Nat → Nat → Int32 := aU iI_499 125 7 (Int32.ofInt 0)
noncomputable def rR_267 : Nat → Nat → Option Nat := aU rR_266 40 6 (some 125)
noncomputable def kK_132 : Nat → Nat := aRow kK_131 131 7
noncomputable def kL_132 : Nat → Nat := aRow kL_131 131 0
noncomputable def iI_501 : Nat → Nat → Int32 := aRow iI_500 131 (fun _ => 0)
noncomputable def jJ_132 : Nat → Nat → Int64 := aRow jJ_131 131 (fun _ => 0)
noncomputable def rR_268 : Nat → Nat → Option Nat := aRow rR_267 131 (fun _ => none)
noncomputable def kK_133 : Nat → Nat := aRow kK_132 132 100
noncomputable def kL_133 : Nat → Nat := aRow kL_132 132 8
noncomputable def iI_502 : Nat → Nat → Int32 := aRow iI_501 132 (fun _ => 0)
noncomputable def jJ_133 : Nat → Nat → Int64 := aRow jJ_132 132 (fun _ => 0)
noncomputable def rR_269 : Nat → Nat → Option Nat := aRow rR_268 132 (fun _ => none)
noncomputable def rR_270 : Nat → Nat → Option Nat := aU rR_269 131 0 (some 132)
noncomputable def kK_134 : Nat → Nat := aRow kK_133 133 100
noncomputable def kL_134 : Nat → Nat := aRow kL_133 133 6
noncomputable def iI_503 : Nat → Nat → Int32 := aRow iI_502 133 (fun _ => 0)
noncomputable def jJ_134 : Nat → Nat → Int64 := aRow jJ_133 133 (fun _ => 0)
noncomputable def rR_271 : Nat → Nat → Option Nat := aRow rR_270 133 (fun _ => none)
noncomputable def rR_272 : Nat → Nat → Option Nat := aU rR_271 131 1 (some 133)
noncomputable def kK_135 : Nat → Nat := aRow kK_134 134 100
noncomputable def kL_135 : Nat → Nat := aRow kL_134 134 6
noncomputable def iI_504 : Nat → Nat → Int32 := aRow iI_503 134 (fun _ => 0)
noncomputable def jJ_135 : Nat → Nat → Int64 := aRow jJ_134 134 (fun _ => 0)
noncomputable def rR_273 : Nat → Nat → Option Nat := aRow rR_272 134 (fun _ => none)
noncomputable def rR_274 : Nat → Nat → Option Nat := aU rR_273 131 2 (some 134)
noncomputable def kK_136 : Nat → Nat := aRow kK_135 135 100
noncomputable def kL_136 : Nat → Nat := aRow kL_135 135 6
noncomputable def iI_505 : Nat → Nat → Int32 := aRow iI_504 135 (fun _ => 0)
noncomputable def jJ_136 : Nat → Nat → Int64 := aRow jJ_135 135 (fun _ => 0)
noncomputable def rR_275 : Nat → Nat → Option Nat := aRow rR_274 135 (fun _ => none)
noncomputable def rR_276 : Nat → Nat → Option Nat := aU rR_275 131 3 (some 135)
noncomputable def kK_137 : Nat → Nat := aRow kK_136 136 100
noncomputable def kL_137 : Nat → Nat := aRow kL_136 136 8
noncomputable def iI_506 : Nat → Nat → Int32 := aRow iI_505 136 (fun _ => 0)
noncomputable def jJ_137 : Nat → Nat → Int64 := aRow jJ_136 136 (fun _ => 0)
noncomputable def rR_277 : Nat → Nat → Option Nat := aRow rR_276 136 (fun _ => none)
noncomputable def rR_278 : Nat → Nat → Option Nat := aU rR_277 131 4 (some 136)
noncomputable def iI_507 : Nat → Nat → Int32 := aU iI_506 131 5 (Int32.ofInt 0)
noncomputable def iI_508 : Nat → Nat → Int32 := aU iI_507 131 6 (Int32.ofInt 0)
noncomputable def iI_509 : Nat → Nat → Int32 := aU iI_508 131 7 (Int32.ofInt 0)
noncomputable def rR_279 : Nat → Nat → Option Nat := aU rR_278 40 7 (some 131)
noncomputable def kK_138 : Nat → Nat := aRow kK_137 137 7
noncomputable def kL_138 : Nat → Nat := aRow kL_137 137 0
noncomputable def iI_510 : Nat → Nat → Int32 := aRow iI_509 137 (fun _ => 0)
noncomputable def jJ_138 : Nat → Nat → Int64 := aRow jJ_137 137 (fun _ => 0)
noncomputable def rR_280 : Nat → Nat → Option Nat := aRow rR_279 137 (fun _ => none)
noncomputable def kK_139 : Nat → Nat := aRow kK_138 138 100
noncomputable def kL_139 : Nat → Nat := aRow kL_138 138 8
noncomputable def iI_511 : Nat → Nat → Int32 := aRow iI_510 138 (fun _ => 0)
noncomputable def jJ_139 : Nat → Nat → Int64 := aRow jJ_138 138 (fun _ => 0)
noncomputable def rR_281 : Nat → Nat → Option Nat := aRow rR_280 138 (fun _ => none)
noncomputable def rR_282 : Nat → Nat → Option Nat := aU rR_281 137 0 (some 138)
noncomputable def kK_140 : Nat → Nat := aRow kK_139 139 100
noncomputable def kL_140 : Nat → Nat := aRow kL_139 139 6
noncomputable def iI_512 : Nat → Nat → Int32 := aRow iI_511 139 (fun _ => 0)
noncomputable def jJ_140 : Nat → Nat → Int64 := aRow jJ_139 139 (fun _ => 0)
noncomputable def rR_283 : Nat → Nat → Option Nat := aRow rR_282 139 (fun _ => none)
noncomputable def rR_284 : Nat → Nat → Option Nat := aU rR_283 137 1 (some 139)
noncomputable def kK_141 : Nat → Nat := aRow kK_140 140 100
noncomputable def kL_141 : Nat → Nat := aRow kL_140 140 6
noncomputable def iI_513 : Nat → Nat → Int32 := aRow iI_512 140 (fun _ => 0)
noncomputable def jJ_141 : Nat → Nat → Int64 := aRow jJ_140 140 (fun _ => 0)
noncomputable def rR_285 : Nat → Nat → Option Nat := aRow rR_284 140 (fun _ => none)
noncomputable def rR_286 : Nat → Nat → Option Nat := aU rR_285 137 2 (some 140)
noncomputable def kK_142 : Nat → Nat := aRow kK_141 141 100
noncomputable def kL_142 : Nat → Nat := aRow kL_141 141 6
noncomputable def iI_514 : Nat → Nat → Int32 := aRow iI_513 141 (fun _ => 0)
noncomputable def jJ_142 : Nat → Nat → Int64 := aRow jJ_141 141 (fun _ => 0)
noncomputable def rR_287 : Nat → Nat → Option Nat := aRow rR_286 141 (fun _ => none)
noncomputable def rR_288 : Nat → Nat → Option Nat := aU rR_287 137 3 (some 141)
noncomputable def kK_143 : Nat → Nat := aRow kK_142 142 100
noncomputable def kL_143 : Nat → Nat := aRow kL_142 142 8
noncomputable def iI_515 : Nat → Nat → Int32 := aRow iI_514 142 (fun _ => 0)
noncomputable def jJ_143 : Nat → Nat → Int64 := aRow jJ_142 142 (fun _ => 0)
noncomputable def rR_289 : Nat → Nat → Option Nat := aRow rR_288 142 (fun _ => none)
noncomputable def rR_290 : Nat → Nat → Option Nat := aU rR_289 137 4 (some 142)
noncomputable def iI_516 : Nat → Nat → Int32 := aU iI_515 137 5 (Int32.ofInt 0)
noncomputable def iI_517 : Nat → Nat → Int32 := aU iI_516 137 6 (Int32.ofInt 0)
noncomputable def iI_518 : Nat → Nat → Int32 := aU iI_517 137 7 (Int32.ofInt 0)
noncomputable def rR_291 : Nat → Nat → Option Nat := aU rR_290 40 8 (some 137)
noncomputable def kK_144 : Nat → Nat := aRow kK_143 143 7
noncomputable def kL_144 : Nat → Nat := aRow kL_143 143 0
noncomputable def iI_519 : Nat → Nat → Int32 := aRow iI_518 143 (fun _ => 0)
noncomputable def jJ_144 : Nat → Nat → Int64 := aRow jJ_143 143 (fun _ => 0)
noncomputable def rR_292 : Nat → Nat → Option Nat := aRow rR_291 143 (fun _ => none)
noncomputable def kK_145 : Nat → Nat := aRow kK_144 144 100
noncomputable def kL_145 : Nat → Nat := aRow kL_144 144 8
noncomputable def iI_520 : Nat → Nat → Int32 := aRow iI_519 144 (fun _ => 0)
noncomputable def jJ_145 : Nat → Nat → Int64 := aRow jJ_144 144 (fun _ => 0)
noncomputable def rR_293 : Nat → Nat → Option Nat := aRow rR_292 144 (fun _ => none)
noncomputable def rR_294 : Nat → Nat → Option Nat := aU rR_293 143 0 (some 144)
noncomputable def kK_146 : Nat → Nat := aRow kK_145 145 100
noncomputable def kL_146 : Nat → Nat := aRow kL_145 145 6
noncomputable def iI_521 : Nat → Nat → Int32 := aRow iI_520 145 (fun _ => 0)
noncomputable def jJ_146 : Nat → Nat → Int64 := aRow jJ_145 145 (fun _ => 0)
noncomputable def rR_295 : Nat → Nat → Option Nat := aRow rR_294 145 (fun _ => none)
noncomputable def rR_296 : Nat → Nat → Option Nat := aU rR_295 143 1 (some 145)
noncomputable def kK_147 : Nat → Nat := aRow kK_146 146 100
noncomputable def kL_147 : Nat → Nat := aRow kL_146 146 6
noncomputable def iI_522 : Nat → Nat → Int32 := aRow iI_521 146 (fun _ => 0)
noncomputable def jJ_147 : Nat → Nat → Int64 := aRow jJ_146 146 (fun _ => 0)
noncomputable def rR_297 : Nat → Nat → Option Nat := aRow rR_296 146 (fun _ => none)
noncomputable def rR_298 : Nat → Nat → Option Nat := aU rR_297 143 2 (some 146)
noncomputable def kK_148 : Nat → Nat := aRow kK_147 147 100
noncomputable def kL_148 : Nat → Nat := aRow kL_147 147 6
noncomputable def iI_523 : Nat → Nat → Int32 := aRow iI_522 147 (fun _ => 0)
noncomputable def jJ_148 : Nat → Nat → Int64 := aRow jJ_147 147 (fun _ => 0)
noncomputable def rR_299 : Nat → Nat → Option Nat := aRow rR_298 147 (fun _ => none)
noncomputable def rR_300 : Nat → Nat → Option Nat := aU rR_299 143 3 (some 147)
noncomputable def kK_149 : Nat → Nat := aRow kK_148 148 100
noncomputable def kL_149 : Nat → Nat := aRow kL_148 148 8
noncomputable def iI_524 : Nat → Nat → Int32 := aRow iI_523 148 (fun _ => 0)
noncomputable def jJ_149 : Nat → Nat → Int64 := aRow jJ_148 148 (fun _ => 0)
noncomputable def rR_301 : Nat → Nat → Option Nat := aRow rR_300 148 (fun _ => none)
noncomputable def rR_302 : Nat → Nat → Option Nat := aU rR_301 143 4 (some 148)
noncomputable def iI_525 : Nat → Nat → Int32 := aU iI_524 143 5 (Int32.ofInt 0)
noncomputable def iI_526 : Nat → Nat → Int32 := aU iI_525 143 6 (Int32.ofInt 0)
noncomputable def iI_527 : Nat → Nat → Int32 := aU iI_526 143 7 (Int32.ofInt 0)
noncomputable def rR_303 : Nat → Nat → Option Nat := aU rR_302 40 9 (some 143)
noncomputable def kK_150 : Nat → Nat := aRow kK_149 149 7
noncomputable def kL_150 : Nat → Nat := aRow kL_149 149 0
noncomputable def iI_528 : Nat → Nat → Int32 := aRow iI_527 149 (fun _ => 0)
noncomputable def jJ_150 : Nat → Nat → Int64 := aRow jJ_149 149 (fun _ => 0)
noncomputable def rR_304 : Nat → Nat → Option Nat := aRow rR_303 149 (fun _ => none)
noncomputable def kK_151 : Nat → Nat := aRow kK_150 150 100
noncomputable def kL_151 : Nat → Nat := aRow kL_150 150 8
noncomputable def iI_529 : Nat → Nat → Int32 := aRow iI_528 150 (fun _ => 0)
noncomputable def jJ_151 : Nat → Nat → Int64 := aRow jJ_150 150 (fun _ => 0)
noncomputable def rR_305 : Nat → Nat → Option Nat := aRow rR_304 150 (fun _ => none)
noncomputable def rR_306 : Nat → Nat → Option Nat := aU rR_305 149 0 (some 150)
noncomputable def kK_152 : Nat → Nat := aRow kK_151 151 100
noncomputable def kL_152 : Nat → Nat := aRow kL_151 151 6
noncomputable def iI_530 : Nat → Nat → Int32 := aRow iI_529 151 (fun _ => 0)
noncomputable def jJ_152 : Nat → Nat → Int64 := aRow jJ_151 151 (fun _ => 0)
noncomputable def rR_307 : Nat → Nat → Option Nat := aRow rR_306 151 (fun _ => none)
noncomputable def rR_308 : Nat → Nat → Option Nat := aU rR_307 149 1 (some 151)
noncomputable def kK_153 : Nat → Nat := aRow kK_152 152 100
noncomputable def kL_153 : Nat → Nat := aRow kL_152 152 6
noncomputable def iI_531 : Nat → Nat → Int32 := aRow iI_530 152 (fun _ => 0)
noncomputable def jJ_153 : Nat → Nat → Int64 := aRow jJ_152 152 (fun _ => 0)
noncomputable def rR_309 : Nat → Nat → Option Nat := aRow rR_308 152 (fun _ => none)
noncomputable def rR_310 : Nat → Nat → Option Nat := aU rR_309 149 2 (some 152)
noncomputable def kK_154 : Nat → Nat := aRow kK_153 153 100
noncomputable def kL_154 : Nat → Nat := aRow kL_153 153 6
noncomputable def iI_532 : Nat → Nat → Int32 := aRow iI_531 153 (fun _ => 0)
noncomputable def jJ_154 : Nat → Nat → Int64 := aRow jJ_153 153 (fun _ => 0)
noncomputable def rR_311 : Nat → Nat → Option Nat := aRow rR_310 153 (fun _ => none)
noncomputable def rR_312 : Nat → Nat → Option Nat := aU rR_311 149 3 (some 153)
noncomputable def kK_155 : Nat → Nat := aRow kK_154 154 100
noncomputable def kL_155 : Nat → Nat := aRow kL_154 154 8
noncomputable def iI_533 : Nat → Nat → Int32 := aRow iI_532 154 (fun _ => 0)
noncomputable def jJ_155 : Nat → Nat → Int64 := aRow jJ_154 154 (fun _ => 0)
noncomputable def rR_313 : Nat → Nat → Option Nat := aRow rR_312 154 (fun _ => none)
noncomputable def rR_314 : Nat → Nat → Option Nat := aU rR_313 149 4 (some 154)
noncomputable def iI_534 : Nat → Nat → Int32 := aU iI_533 149 5 (Int32.ofInt 0)
noncomputable def iI_535 : Nat → Nat → Int32 := aU iI_534 149 6 (Int32.ofInt 0)
noncomputable def iI_536 : Nat → Nat → Int32 := aU iI_535 149 7 (Int32.ofInt 0)
noncomputable def rR_315 : Nat → Nat → Option Nat := aU rR_314 40 10 (some 149)
noncomputable def kK_156 : Nat → Nat := aRow kK_155 155 7
noncomputable def kL_156 : Nat → Nat := aRow kL_155 155 0
noncomputable def iI_537 : Nat → Nat → Int32 := aRow iI_536 155 (fun _ => 0)
noncomputable def jJ_156 : Nat → Nat → Int64 := aRow jJ_155 155 (fun _ => 0)
noncomputable def rR_316 : Nat → Nat → Option Nat := aRow rR_315 155 (fun _ => none)
noncomputable def kK_157 : Nat → Nat := aRow kK_156 156 100
noncomputable def kL_157 : Nat → Nat := aRow kL_156 156 8
noncomputable def iI_538 : Nat → Nat → Int32 := aRow iI_537 156 (fun _ => 0)
noncomputable def jJ_157 : Nat → Nat → Int64 := aRow jJ_156 156 (fun _ => 0)
noncomputable def rR_317 : Nat → Nat → Option Nat := aRow rR_316 156 (fun _ => none)
noncomputable def rR_318 : Nat → Nat → Option Nat := aU rR_317 155 0 (some 156)
noncomputable def kK_158 : Nat → Nat := aRow kK_157 157 100
noncomputable def kL_158 : Nat → Nat := aRow kL_157 157 6
noncomputable def iI_539 : Nat → Nat → Int32 := aRow iI_538 157 (fun _ => 0)
noncomputable def jJ_158 : Nat → Nat → Int64 := aRow jJ_157 157 (fun _ => 0)
noncomputable def rR_319 : Nat → Nat → Option Nat := aRow rR_318 157 (fun _ => none)
noncomputable def rR_320 : Nat → Nat → Option Nat := aU rR_319 155 1 (some 157)
noncomputable def kK_159 : Nat → Nat := aRow kK_158 158 100
noncomputable def kL_159 : Nat → Nat := aRow kL_158 158 6
noncomputable def iI_540 : Nat → Nat → Int32 := aRow iI_539 158 (fun _ => 0)
noncomputable def jJ_159 : Nat → Nat → Int64 := aRow jJ_158 158 (fun _ => 0)
noncomputable def rR_321 : Nat → Nat → Option Nat := aRow rR_320 158 (fun _ => none)
noncomputable def rR_322 : Nat → Nat → Option Nat := aU rR_321 155 2 (some 158)
noncomputable def kK_160 : Nat → Nat := aRow kK_159 159 100
noncomputable def kL_160 : Nat → Nat := aRow kL_159 159 6
noncomputable def iI_541 : Nat → Nat → Int32 := aRow iI_540 159 (fun _ => 0)
noncomputable def jJ_160 : Nat → Nat → Int64 := aRow jJ_159 159 (fun _ => 0)
noncomputable def rR_323 : Nat → Nat → Option Nat := aRow rR_322 159 (fun _ => none)
noncomputable def rR_324 : Nat → Nat → Option Nat := aU rR_323 155 3 (some 159)
noncomputable def kK_161 : Nat → Nat := aRow kK_160 160 100
noncomputable def kL_161 : Nat → Nat := aRow kL_160 160 8
noncomputable def iI_542 : Nat → Nat → Int32 := aRow iI_541 160 (fun _ => 0)
noncomputable def jJ_161 : Nat → Nat → Int64 := aRow jJ_160 160 (fun _ => 0)
noncomputable def rR_325 : Nat → Nat → Option Nat := aRow rR_324 160 (fun _ => none)
noncomputable def rR_326 : Nat → Nat → Option Nat := aU rR_325 155 4 (some 160)
noncomputable def iI_543 : Nat → Nat → Int32 := aU iI_542 155 5 (Int32.ofInt 0)
noncomputable def iI_544 : Nat → Nat → Int32 := aU iI_543 155 6 (Int32.ofInt 0)
noncomputable def iI_545 : Nat → Nat → Int32 := aU iI_544 155 7 (Int32.ofInt 0)
noncomputable def rR_327 : Nat → Nat → Option Nat := aU rR_326 40 11 (some 155)
noncomputable def kK_162 : Nat → Nat := aRow kK_161 161 7
noncomputable def kL_162 : Nat → Nat := aRow kL_161 161 0
noncomputable def iI_546 : Nat → Nat → Int32 := aRow iI_545 161 (fun _ => 0)
noncomputable def jJ_162 : Nat → Nat → Int64 := aRow jJ_161 161 (fun _ => 0)
noncomputable def rR_328 : Nat → Nat → Option Nat := aRow rR_327 161 (fun _ => none)
noncomputable def kK_163 : Nat → Nat := aRow kK_162 162 100
noncomputable def kL_163 : Nat → Nat := aRow kL_162 162 8
noncomputable def iI_547 : Nat → Nat → Int32 := aRow iI_546 162 (fun _ => 0)
noncomputable def jJ_163 : Nat → Nat → Int64 := aRow jJ_162 162 (fun _ => 0)
noncomputable def rR_329 : Nat → Nat → Option Nat := aRow rR_328 162 (fun _ => none)
noncomputable def rR_330 : Nat → Nat → Option Nat := aU rR_329 161 0 (some 162)
noncomputable def kK_164 : Nat → Nat := aRow kK_163 163 100
noncomputable def kL_164 : Nat → Nat := aRow kL_163 163 6
noncomputable def iI_548 : Nat → Nat → Int32 := aRow iI_547 163 (fun _ => 0)
noncomputable def jJ_164 : Nat → Nat → Int64 := aRow jJ_163 163 (fun _ => 0)
noncomputable def rR_331 : Nat → Nat → Option Nat := aRow rR_330 163 (fun _ => none)
noncomputable def rR_332 : Nat → Nat → Option Nat := aU rR_331 161 1 (some 163)
noncomputable def kK_165 : Nat → Nat := aRow kK_164 164 100
noncomputable def kL_165 : Nat → Nat := aRow kL_164 164 6
noncomputable def iI_549 : Nat → Nat → Int32 := aRow iI_548 164 (fun _ => 0)
noncomputable def jJ_165 : Nat → Nat → Int64 := aRow jJ_164 164 (fun _ => 0)
noncomputable def rR_333 : Nat → Nat → Option Nat := aRow rR_332 164 (fun _ => none)
noncomputable def rR_334 : Nat → Nat → Option Nat := aU rR_333 161 2 (some 164)
noncomputable def kK_166 : Nat → Nat := aRow kK_165 165 100
noncomputable def kL_166 : Nat → Nat := aRow kL_165 165 6
noncomputable def iI_550 : Nat → Nat → Int32 := aRow iI_549 165 (fun _ => 0)
noncomputable def jJ_166 : Nat → Nat → Int64 := aRow jJ_165 165 (fun _ => 0)
noncomputable def rR_335 : Nat → Nat → Option Nat := aRow rR_334 165 (fun _ => none)
noncomputable def rR_336 : Nat → Nat → Option Nat := aU rR_335 161 3 (some 165)
noncomputable def kK_167 : Nat → Nat := aRow kK_166 166 100
noncomputable def kL_167 : Nat → Nat := aRow kL_166 166 8
noncomputable def iI_551 : Nat → Nat → Int32 := aRow iI_550 166 (fun _ => 0)
noncomputable def jJ_167 : Nat → Nat → Int64 := aRow jJ_166 166 (fun _ => 0)
noncomputable def rR_337 : Nat → Nat → Option Nat := aRow rR_336 166 (fun _ => none)
noncomputable def rR_338 : Nat → Nat → Option Nat := aU rR_337 161 4 (some 166)
noncomputable def iI_552 : Nat → Nat → Int32 := aU iI_551 161 5 (Int32.ofInt 0)
noncomputable def iI_553 : Nat → Nat → Int32 := aU iI_552 161 6 (Int32.ofInt 0)
noncomputable def iI_554 : Nat → Nat → Int32 := aU iI_553 161 7 (Int32.ofInt 0)
noncomputable def rR_339 : Nat → Nat → Option Nat := aU rR_338 40 12 (some 161)
noncomputable def kK_168 : Nat → Nat := aRow kK_167 167 7
noncomputable def kL_168 : Nat → Nat := aRow kL_167 167 0
noncomputable def iI_555 : Nat → Nat → Int32 := aRow iI_554 167 (fun _ => 0)
noncomputable def jJ_168 : Nat → Nat → Int64 := aRow jJ_167 167 (fun _ => 0)
noncomputable def rR_340 : Nat → Nat → Option Nat := aRow rR_339 167 (fun _ => none)
noncomputable def kK_169 : Nat → Nat := aRow kK_168 168 100
noncomputable def kL_169 : Nat → Nat := aRow kL_168 168 8
noncomputable def iI_556 : Nat → Nat → Int32 := aRow iI_555 168 (fun _ => 0)
noncomputable def jJ_169 : Nat → Nat → Int64 := aRow jJ_168 168 (fun _ => 0)
noncomputable def rR_341 : Nat → Nat → Option Nat := aRow rR_340 168 (fun _ => none)
noncomputable def rR_342 : Nat → Nat → Option Nat := aU rR_341 167 0 (some 168)
noncomputable def kK_170 : Nat → Nat := aRow kK_169 169 100
noncomputable def kL_170 : Nat → Nat := aRow kL_169 169 6
noncomputable def iI_557 : Nat → Nat → Int32 := aRow iI_556 169 (fun _ => 0)
noncomputable def jJ_170 : Nat → Nat → Int64 := aRow jJ_169 169 (fun _ => 0)
noncomputable def rR_343 : Nat → Nat → Option Nat := aRow rR_342 169 (fun _ => none)
noncomputable def rR_344 : Nat → Nat → Option Nat := aU rR_343 167 1 (some 169)
noncomputable def kK_171 : Nat → Nat := aRow kK_170 170 100
noncomputable def kL_171 : Nat → Nat := aRow kL_170 170 6
noncomputable def iI_558 : Nat → Nat → Int32 := aRow iI_557 170 (fun _ => 0)
noncomputable def jJ_171 : Nat → Nat → Int64 := aRow jJ_170 170 (fun _ => 0)
noncomputable def rR_345 : Nat → Nat → Option Nat := aRow rR_344 170 (fun _ => none)
noncomputable def rR_346 : Nat → Nat → Option Nat := aU rR_345 167 2 (some 170)
noncomputable def kK_172 : Nat → Nat := aRow kK_171 171 100
noncomputable def kL_172 : Nat → Nat := aRow kL_171 171 6
noncomputable def iI_559 : Nat → Nat → Int32 := aRow iI_558 171 (fun _ => 0)
noncomputable def jJ_172 : Nat → Nat → Int64 := aRow jJ_171 171 (fun _ => 0)
noncomputable def rR_347 : Nat → Nat → Option Nat := aRow rR_346 171 (fun _ => none)
noncomputable def rR_348 : Nat → Nat → Option Nat := aU rR_347 167 3 (some 171)
noncomputable def kK_173 : Nat → Nat := aRow kK_172 172 100
noncomputable def kL_173 : Nat → Nat := aRow kL_172 172 8
noncomputable def iI_560 : Nat → Nat → Int32 := aRow iI_559 172 (fun _ => 0)
noncomputable def jJ_173 : Nat → Nat → Int64 := aRow jJ_172 172 (fun _ => 0)
noncomputable def rR_349 : Nat → Nat → Option Nat := aRow rR_348 172 (fun _ => none)
noncomputable def rR_350 : Nat → Nat → Option Nat := aU rR_349 167 4 (some 172)
noncomputable def iI_561 : Nat → Nat → Int32 := aU iI_560 167 5 (Int32.ofInt 0)
noncomputable def iI_562 : Nat → Nat → Int32 := aU iI_561 167 6 (Int32.ofInt 0)
noncomputable def iI_563 : Nat → Nat → Int32 := aU iI_562 167 7 (Int32.ofInt 0)
noncomputable def rR_351 : Nat → Nat → Option Nat := aU rR_350 40 13 (some 167)
noncomputable def kK_174 : Nat → Nat := aRow kK_173 173 7
noncomputable def kL_174 : Nat → Nat := aRow kL_173 173 0
noncomputable def iI_564 : Nat → Nat → Int32 := aRow iI_563 173 (fun _ => 0)
noncomputable def jJ_174 : Nat → Nat → Int64 := aRow jJ_173 173 (fun _ => 0)
noncomputable def rR_352 : Nat → Nat → Option Nat := aRow rR_351 173 (fun _ => none)
noncomputable def kK_175 : Nat → Nat := aRow kK_174 174 100
noncomputable def kL_175 : Nat → Nat := aRow kL_174 174 8
noncomputable def iI_565 : Nat → Nat → Int32 := aRow iI_564 174 (fun _ => 0)
noncomputable def jJ_175 : Nat → Nat → Int64 := aRow jJ_174 174 (fun _ => 0)
noncomputable def rR_353 : Nat → Nat → Option Nat := aRow rR_352 174 (fun _ => none)
noncomputable def rR_354 : Nat → Nat → Option Nat := aU rR_353 173 0 (some 174)
noncomputable def kK_176 : Nat → Nat := aRow kK_175 175 100
noncomputable def kL_176 : Nat → Nat := aRow kL_175 175 6
noncomputable def iI_566 : Nat → Nat → Int32 := aRow iI_565 175 (fun _ => 0)
noncomputable def jJ_176 : Nat → Nat → Int64 := aRow jJ_175 175 (fun _ => 0)
noncomputable def rR_355 : Nat → Nat → Option Nat := aRow rR_354 175 (fun _ => none)
noncomputable def rR_356 : Nat → Nat → Option Nat := aU rR_355 173 1 (some 175)
noncomputable def kK_177 : Nat → Nat := aRow kK_176 176 100
noncomputable def kL_177 : Nat → Nat := aRow kL_176 176 6
noncomputable def iI_567 : Nat → Nat → Int32 := aRow iI_566 176 (fun _ => 0)
noncomputable def jJ_177 : Nat → Nat → Int64 := aRow jJ_176 176 (fun _ => 0)
noncomputable def rR_357 : Nat → Nat → Option Nat := aRow rR_356 176 (fun _ => none)
noncomputable def rR_358 : Nat → Nat → Option Nat := aU rR_357 173 2 (some 176)
noncomputable def kK_178 : Nat → Nat := aRow kK_177 177 100
noncomputable def kL_178 : Nat → Nat := aRow kL_177 177 6
noncomputable def iI_568 : Nat → Nat → Int32 := aRow iI_567 177 (fun _ => 0)
noncomputable def jJ_178 : Nat → Nat → Int64 := aRow jJ_177 177 (fun _ => 0)
noncomputable def rR_359 : Nat → Nat → Option Nat := aRow rR_358 177 (fun _ => none)
noncomputable def rR_360 : Nat → Nat → Option Nat := aU rR_359 173 3 (some 177)
noncomputable def kK_179 : Nat → Nat := aRow kK_178 178 100
noncomputable def kL_179 : Nat → Nat := aRow kL_178 178 8
noncomputable def iI_569 : Nat → Nat → Int32 := aRow iI_568 178 (fun _ => 0)
noncomputable def jJ_179 : Nat → Nat → Int64 := aRow jJ_178 178 (fun _ => 0)
noncomputable def rR_361 : Nat → Nat → Option Nat := aRow rR_360 178 (fun _ => none)
noncomputable def rR_362 : Nat → Nat → Option Nat := aU rR_361 173 4 (some 178)
noncomputable def iI_570 : Nat → Nat → Int32 := aU iI_569 173 5 (Int32.ofInt 0)
noncomputable def iI_571 : Nat → Nat → Int32 := aU iI_570 173 6 (Int32.ofInt 0)
noncomputable def iI_572 : Nat → Nat → Int32 := aU iI_571 173 7 (Int32.ofInt 0)
noncomputable def rR_363 : Nat → Nat → Option Nat := aU rR_362 40 14 (some 173)
noncomputable def kK_180 : Nat → Nat := aRow kK_179 179 7
noncomputable def kL_180 : Nat → Nat := aRow kL_179 179 0
noncomputable def iI_573 : Nat → Nat → Int32 := aRow iI_572 179 (fun _ => 0)
noncomputable def jJ_180 : Nat → Nat → Int64 := aRow jJ_179 179 (fun _ => 0)
noncomputable def rR_364 : Nat → Nat → Option Nat := aRow rR_363 179 (fun _ => none)
noncomputable def kK_181 : Nat → Nat := aRow kK_180 180 100
noncomputable def kL_181 : Nat → Nat := aRow kL_180 180 8
noncomputable def iI_574 : Nat → Nat → Int32 := aRow iI_573 180 (fun _ => 0)
noncomputable def jJ_181 : Nat → Nat → Int64 := aRow jJ_180 180 (fun _ => 0)
noncomputable def rR_365 : Nat → Nat → Option Nat := aRow rR_364 180 (fun _ => none)
noncomputable def rR_366 : Nat → Nat → Option Nat := aU rR_365 179 0 (some 180)
noncomputable def kK_182 : Nat → Nat := aRow kK_181 181 100
noncomputable def kL_182 : Nat → Nat := aRow kL_181 181 6
noncomputable def iI_575 : Nat → Nat → Int32 := aRow iI_574 181 (fun _ => 0)
noncomputable def jJ_182 : Nat → Nat → Int64 := aRow jJ_181 181 (fun _ => 0)
noncomputable def rR_367 : Nat → Nat → Option Nat := aRow rR_366 181 (fun _ => none)
noncomputable def rR_368 : Nat → Nat → Option Nat := aU rR_367 179 1 (some 181)
noncomputable def kK_183 : Nat → Nat := aRow kK_182 182 100
noncomputable def kL_183 : Nat → Nat := aRow kL_182 182 6
noncomputable def iI_576 : Nat → Nat → Int32 := aRow iI_575 182 (fun _ => 0)
noncomputable def jJ_183 : Nat → Nat → Int64 := aRow jJ_182 182 (fun _ => 0)
noncomputable def rR_369 : Nat → Nat → Option Nat := aRow rR_368 182 (fun _ => none)
noncomputable def rR_370 : Nat → Nat → Option Nat := aU rR_369 179 2 (some 182)
noncomputable def kK_184 : Nat → Nat := aRow kK_183 183 100
noncomputable def kL_184 : Nat → Nat := aRow kL_183 183 6
noncomputable def iI_577 : Nat → Nat → Int32 := aRow iI_576 183 (fun _ => 0)
noncomputable def jJ_184 : Nat → Nat → Int64 := aRow jJ_183 183 (fun _ => 0)
noncomputable def rR_371 : Nat → Nat → Option Nat := aRow rR_370 183 (fun _ => none)
noncomputable def rR_372 : Nat → Nat → Option Nat := aU rR_371 179 3 (some 183)
noncomputable def kK_185 : Nat → Nat := aRow kK_184 184 100
noncomputable def kL_185 : Nat → Nat := aRow kL_184 184 8
noncomputable def iI_578 : Nat → Nat → Int32 := aRow iI_577 184 (fun _ => 0)
noncomputable def jJ_185 : Nat → Nat → Int64 := aRow jJ_184 184 (fun _ => 0)
noncomputable def rR_373 : Nat → Nat → Option Nat := aRow rR_372 184 (fun _ => none)
noncomputable def rR_374 : Nat → Nat → Option Nat := aU rR_373 179 4 (some 184)
noncomputable def iI_579 : Nat → Nat → Int32 := aU iI_578 179 5 (Int32.ofInt 0)
noncomputable def iI_580 : Nat → Nat → Int32 := aU iI_579 179 6 (Int32.ofInt 0)
noncomputable def iI_581 : Nat → Nat → Int32 := aU iI_580 179 7 (Int32.ofInt 0)
noncomputable def rR_375 : Nat → Nat → Option Nat := aU rR_374 40 15 (some 179)
noncomputable def kK_186 : Nat → Nat := aRow kK_185 185 7
noncomputable def kL_186 : Nat → Nat := aRow kL_185 185 0
noncomputable def iI_582 : Nat → Nat → Int32 := aRow iI_581 185 (fun _ => 0)
noncomputable def jJ_186 : Nat → Nat → Int64 := aRow jJ_185 185 (fun _ => 0)
noncomputable def rR_376 : Nat → Nat → Option Nat := aRow rR_375 185 (fun _ => none)
noncomputable def kK_187 : Nat → Nat := aRow kK_186 186 100
noncomputable def kL_187 : Nat → Nat := aRow kL_186 186 8
noncomputable def iI_583 : Nat → Nat → Int32 := aRow iI_582 186 (fun _ => 0)
noncomputable def jJ_187 : Nat → Nat → Int64 := aRow jJ_186 186 (fun _ => 0)
noncomputable def rR_377 : Nat → Nat → Option Nat := aRow rR_376 186 (fun _ => none)
noncomputable def rR_378 : Nat → Nat → Option Nat := aU rR_377 185 0 (some 186)
noncomputable def kK_188 : Nat → Nat := aRow kK_187 187 100
noncomputable def kL_188 : Nat → Nat := aRow kL_187 187 6
noncomputable def iI_584 : Nat → Nat → Int32 := aRow iI_583 187 (fun _ => 0)
noncomputable def jJ_188 : Nat → Nat → Int64 := aRow jJ_187 187 (fun _ => 0)
noncomputable def rR_379 : Nat → Nat → Option Nat := aRow rR_378 187 (fun _ => none)
noncomputable def rR_380 : Nat → Nat → Option Nat := aU rR_379 185 1 (some 187)
noncomputable def kK_189 : Nat → Nat := aRow kK_188 188 100
noncomputable def kL_189 : Nat → Nat := aRow kL_188 188 6
noncomputable def iI_585 : Nat → Nat → Int32 := aRow iI_584 188 (fun _ => 0)
noncomputable def jJ_189 : Nat → Nat → Int64 := aRow jJ_188 188 (fun _ => 0)
noncomputable def rR_381 : Nat → Nat → Option Nat := aRow rR_380 188 (fun _ => none)
noncomputable def rR_382 : Nat → Nat → Option Nat := aU rR_381 185 2 (some 188)
noncomputable def kK_190 : Nat → Nat := aRow kK_189 189 100
noncomputable def kL_190 : Nat → Nat := aRow kL_189 189 6
noncomputable def iI_586 : Nat → Nat → Int32 := aRow iI_585 189 (fun _ => 0)
noncomputable def jJ_190 : Nat → Nat → Int64 := aRow jJ_189 189 (fun _ => 0)
noncomputable def rR_383 : Nat → Nat → Option Nat := aRow rR_382 189 (fun _ => none)
noncomputable def rR_384 : Nat → Nat → Option Nat := aU rR_383 185 3 (some 189)
noncomputable def kK_191 : Nat → Nat := aRow kK_190 190 100
noncomputable def kL_191 : Nat → Nat := aRow kL_190 190 8
noncomputable def iI_587 : Nat → Nat → Int32 := aRow iI_586 190 (fun _ => 0)
noncomputable def jJ_191 : Nat → Nat → Int64 := aRow jJ_190 190 (fun _ => 0)
noncomputable def rR_385 : Nat → Nat → Option Nat := aRow rR_384 190 (fun _ => none)
noncomputable def rR_386 : Nat → Nat → Option Nat := aU rR_385 185 4 (some 190)
noncomputable def iI_588 : Nat → Nat → Int32 := aU iI_587 185 5 (Int32.ofInt 0)
noncomputable def iI_589 : Nat → Nat → Int32 := aU iI_588 185 6 (Int32.ofInt 0)
noncomputable def iI_590 : Nat → Nat → Int32 := aU iI_589 185 7 (Int32.ofInt 0)
noncomputable def rR_387 : Nat → Nat → Option Nat := aU rR_386 40 16 (some 185)
noncomputable def kK_192 : Nat → Nat := aRow kK_191 191 7
noncomputable def kL_192 : Nat → Nat := aRow kL_191 191 0
noncomputable def iI_591 : Nat → Nat → Int32 := aRow iI_590 191 (fun _ => 0)
noncomputable def jJ_192 : Nat → Nat → Int64 := aRow jJ_191 191 (fun _ => 0)
noncomputable def rR_388 : Nat → Nat → Option Nat := aRow rR_387 191 (fun _ => none)
noncomputable def kK_193 : Nat → Nat := aRow kK_192 192 100
noncomputable def kL_193 : Nat → Nat := aRow kL_192 192 8
noncomputable def iI_592 : Nat → Nat → Int32 := aRow iI_591 192 (fun _ => 0)
noncomputable def jJ_193 : Nat → Nat → Int64 := aRow jJ_192 192 (fun _ => 0)
noncomputable def rR_389 : Nat → Nat → Option Nat := aRow rR_388 192 (fun _ => none)
noncomputable def rR_390 : Nat → Nat → Option Nat := aU rR_389 191 0 (some 192)
noncomputable def kK_194 : Nat → Nat := aRow kK_193 193 100
noncomputable def kL_194 : Nat → Nat := aRow kL_193 193 6
noncomputable def iI_593 : Nat → Nat → Int32 := aRow iI_592 193 (fun _ => 0)
noncomputable def jJ_194 : Nat → Nat → Int64 := aRow jJ_193 193 (fun _ => 0)
noncomputable def rR_391 : Nat → Nat → Option Nat := aRow rR_390 193 (fun _ => none)
noncomputable def rR_392 : Nat → Nat → Option Nat := aU rR_391 191 1 (some 193)
noncomputable def kK_195 : Nat → Nat := aRow kK_194 194 100
noncomputable def kL_195 : Nat → Nat := aRow kL_194 194 6
noncomputable def iI_594 : Nat → Nat → Int32 := aRow iI_593 194 (fun _ => 0)
noncomputable def jJ_195 : Nat → Nat → Int64 := aRow jJ_194 194 (fun _ => 0)
noncomputable def rR_393 : Nat → Nat → Option Nat := aRow rR_392 194 (fun _ => none)
noncomputable def rR_394 : Nat → Nat → Option Nat := aU rR_393 191 2 (some 194)
noncomputable def kK_196 : Nat → Nat := aRow kK_195 195 100
noncomputable def kL_196 : Nat → Nat := aRow kL_195 195 6
noncomputable def iI_595 : Nat → Nat → Int32 := aRow iI_594 195 (fun _ => 0)
noncomputable def jJ_196 : Nat → Nat → Int64 := aRow jJ_195 195 (fun _ => 0)
noncomputable def rR_395 : Nat → Nat → Option Nat := aRow rR_394 195 (fun _ => none)
noncomputable def rR_396 : Nat → Nat → Option Nat := aU rR_395 191 3 (some 195)
noncomputable def kK_197 : Nat → Nat := aRow kK_196 196 100
noncomputable def kL_197 : Nat → Nat := aRow kL_196 196 8
noncomputable def iI_596 : Nat → Nat → Int32 := aRow iI_595 196 (fun _ => 0)
noncomputable def jJ_197 : Nat → Nat → Int64 := aRow jJ_196 196 (fun _ => 0)
noncomputable def rR_397 : Nat → Nat → Option Nat := aRow rR_396 196 (fun _ => none)
noncomputable def rR_398 : Nat → Nat → Option Nat := aU rR_397 191 4 (some 196)
noncomputable def iI_597 : Nat → Nat → Int32 := aU iI_596 191 5 (Int32.ofInt 0)
noncomputable def iI_598 : Nat → Nat → Int32 := aU iI_597 191 6 (Int32.ofInt 0)
noncomputable def iI_599 : Nat → Nat → Int32 := aU iI_598 191 7 (Int32.ofInt 0)
noncomputable def rR_399 : Nat → Nat → Option Nat := aU rR_398 40 17 (some 191)
noncomputable def kK_198 : Nat → Nat := aRow kK_197 197 7
noncomputable def kL_198 : Nat → Nat := aRow kL_197 197 0
noncomputable def iI_600 : Nat → Nat → Int32 := aRow iI_599 197 (fun _ => 0)
noncomputable def jJ_198 : Nat → Nat → Int64 := aRow jJ_197 197 (fun _ => 0)
noncomputable def rR_400 : Nat → Nat → Option Nat := aRow rR_399 197 (fun _ => none)
noncomputable def kK_199 : Nat → Nat := aRow kK_198 198 100
noncomputable def kL_199 : Nat → Nat := aRow kL_198 198 8
noncomputable def iI_601 : Nat → Nat → Int32 := aRow iI_600 198 (fun _ => 0)
noncomputable def jJ_199 : Nat → Nat → Int64 := aRow jJ_198 198 (fun _ => 0)
noncomputable def rR_401 : Nat → Nat → Option Nat := aRow rR_400 198 (fun _ => none)
noncomputable def rR_402 : Nat → Nat → Option Nat := aU rR_401 197 0 (some 198)
noncomputable def kK_200 : Nat → Nat := aRow kK_199 199 100
noncomputable def kL_200 : Nat → Nat := aRow kL_199 199 6
noncomputable def iI_602 : Nat → Nat → Int32 := aRow iI_601 199 (fun _ => 0)
noncomputable def jJ_200 : Nat → Nat → Int64 := aRow jJ_199 199 (fun _ => 0)
noncomputable def rR_403 : Nat → Nat → Option Nat := aRow rR_402 199 (fun _ => none)
noncomputable def rR_404 : Nat → Nat → Option Nat := aU rR_403 197 1 (some 199)
noncomputable def kK_201 : Nat → Nat := aRow kK_200 200 100
noncomputable def kL_201 : Nat → Nat := aRow kL_200 200 6
noncomputable def iI_603 : Nat → Nat → Int32 := aRow iI_602 200 (fun _ => 0)
noncomputable def jJ_201 : Nat → Nat → Int64 := aRow jJ_200 200 (fun _ => 0)
noncomputable def rR_405 : Nat → Nat → Option Nat := aRow rR_404 200 (fun _ => none)
noncomputable def rR_406 : Nat → Nat → Option Nat := aU rR_405 197 2 (some 200)
noncomputable def kK_202 : Nat → Nat := aRow kK_201 201 100
noncomputable def kL_202 : Nat → Nat := aRow kL_201 201 6
noncomputable def iI_604 : Nat → Nat → Int32 := aRow iI_603 201 (fun _ => 0)
noncomputable def jJ_202 : Nat → Nat → Int64 := aRow jJ_201 201 (fun _ => 0)
noncomputable def rR_407 : Nat → Nat → Option Nat := aRow rR_406 201 (fun _ => none)
noncomputable def rR_408 : Nat → Nat → Option Nat := aU rR_407 197 3 (some 201)
noncomputable def kK_203 : Nat → Nat := aRow kK_202 202 100
noncomputable def kL_203 : Nat → Nat := aRow kL_202 202 8
noncomputable def iI_605 : Nat → Nat → Int32 := aRow iI_604 202 (fun _ => 0)
noncomputable def jJ_203 : Nat → Nat → Int64 := aRow jJ_202 202 (fun _ => 0)
noncomputable def rR_409 : Nat → Nat → Option Nat := aRow rR_408 202 (fun _ => none)
noncomputable def rR_410 : Nat → Nat → Option Nat := aU rR_409 197 4 (some 202)
noncomputable def iI_606 : Nat → Nat → Int32 := aU iI_605 197 5 (Int32.ofInt 0)
noncomputable def iI_607 : Nat → Nat → Int32 := aU iI_606 197 6 (Int32.ofInt 0)
noncomputable def iI_608 : Nat → Nat → Int32 := aU iI_607 197 7 (Int32.ofInt 0)
noncomputable def rR_411 : Nat → Nat → Option Nat := aU rR_410 40 18 (some 197)
noncomputable def kK_204 : Nat → Nat := aRow kK_203 203 7
noncomputable def kL_204 : Nat → Nat := aRow kL_203 203 0
noncomputable def iI_609 : Nat → Nat → Int32 := aRow iI_608 203 (fun _ => 0)
noncomputable def jJ_204 : Nat → Nat → Int64 := aRow jJ_203 203 (fun _ => 0)
noncomputable def rR_412 : Nat → Nat → Option Nat := aRow rR_411 203 (fun _ => none)
noncomputable def kK_205 : Nat → Nat := aRow kK_204 204 100
noncomputable def kL_205 : Nat → Nat := aRow kL_204 204 8
noncomputable def iI_610 : Nat → Nat → Int32 := aRow iI_609 204 (fun _ => 0)
noncomputable def jJ_205 : Nat → Nat → Int64 := aRow jJ_204 204 (fun _ => 0)
noncomputable def rR_413 : Nat → Nat → Option Nat := aRow rR_412 204 (fun _ => none)
noncomputable def rR_414 : Nat → Nat → Option Nat := aU rR_413 203 0 (some 204)
noncomputable def kK_206 : Nat → Nat := aRow kK_205 205 100
noncomputable def kL_206 : Nat → Nat := aRow kL_205 205 6
noncomputable def iI_611 : Nat → Nat → Int32 := aRow iI_610 205 (fun _ => 0)
noncomputable def jJ_206 : Nat → Nat → Int64 := aRow jJ_205 205 (fun _ => 0)
noncomputable def rR_415 : Nat → Nat → Option Nat := aRow rR_414 205 (fun _ => none)
noncomputable def rR_416 : Nat → Nat → Option Nat := aU rR_415 203 1 (some 205)
noncomputable def kK_207 : Nat → Nat := aRow kK_206 206 100
noncomputable def kL_207 : Nat → Nat := aRow kL_206 206 6
noncomputable def iI_612 : Nat → Nat → Int32 := aRow iI_611 206 (fun _ => 0)
noncomputable def jJ_207 : Nat → Nat → Int64 := aRow jJ_206 206 (fun _ => 0)
noncomputable def rR_417 : Nat → Nat → Option Nat := aRow rR_416 206 (fun _ => none)
noncomputable def rR_418 : Nat → Nat → Option Nat := aU rR_417 203 2 (some 206)
noncomputable def kK_208 : Nat → Nat := aRow kK_207 207 100
noncomputable def kL_208 : Nat → Nat := aRow kL_207 207 6
noncomputable def iI_613 : Nat → Nat → Int32 := aRow iI_612 207 (fun _ => 0)
noncomputable def jJ_208 : Nat → Nat → Int64 := aRow jJ_207 207 (fun _ => 0)
noncomputable def rR_419 : Nat → Nat → Option Nat := aRow rR_418 207 (fun _ => none)
noncomputable def rR_420 : Nat → Nat → Option Nat := aU rR_419 203 3 (some 207)
noncomputable def kK_209 : Nat → Nat := aRow kK_208 208 100
noncomputable def kL_209 : Nat → Nat := aRow kL_208 208 8
noncomputable def iI_614 : Nat → Nat → Int32 := aRow iI_613 208 (fun _ => 0)
noncomputable def jJ_209 : Nat → Nat → Int64 := aRow jJ_208 208 (fun _ => 0)
noncomputable def rR_421 : Nat → Nat → Option Nat := aRow rR_420 208 (fun _ => none)
noncomputable def rR_422 : Nat → Nat → Option Nat := aU rR_421 203 4 (some 208)
noncomputable def iI_615 : Nat → Nat → Int32 := aU iI_614 203 5 (Int32.ofInt 0)
noncomputable def iI_616 : Nat → Nat → Int32 := aU iI_615 203 6 (Int32.ofInt 0)
noncomputable def iI_617 : Nat → Nat → Int32 := aU iI_616 203 7 (Int32.ofInt 0)
noncomputable def rR_423 : Nat → Nat → Option Nat := aU rR_422 40 19 (some 203)
noncomputable def rR_424 : Nat → Nat → Option Nat := aU rR_423 10 1 (some 43)
noncomputable def kK_210 : Nat → Nat := aRow kK_209 209 12
noncomputable def kL_210 : Nat → Nat := aRow kL_209 209 0
noncomputable def iI_618 : Nat → Nat → Int32 := aRow iI_617 209 (fun _ => 0)
noncomputable def jJ_210 : Nat → Nat → Int64 := aRow jJ_209 209 (fun _ => 0)
noncomputable def rR_425 : Nat → Nat → Option Nat := aRow rR_424 209 (fun _ => none)
noncomputable def kK_211 : Nat → Nat := aRow kK_210 210 100
noncomputable def kL_211 : Nat → Nat := aRow kL_210 210 1600
noncomputable def iI_619 : Nat → Nat → Int32 := aRow iI_618 210 (fun _ => 0)
noncomputable def jJ_211 : Nat → Nat → Int64 := aRow jJ_210 210 (fun _ => 0)
noncomputable def rR_426 : Nat → Nat → Option Nat := aRow rR_425 210 (fun _ => none)
noncomputable def rR_427 : Nat → Nat → Option Nat := aU rR_426 209 0 (some 210)
noncomputable def iI_620 : Nat → Nat → Int32 := aU iI_619 209 8 (Int32.ofInt (-1))
noncomputable def kK_212 : Nat → Nat := aRow kK_211 211 100
noncomputable def kL_212 : Nat → Nat := aRow kL_211 211 6
noncomputable def iI_621 : Nat → Nat → Int32 := aRow iI_620 211 (fun _ => 0)
noncomputable def jJ_212 : Nat → Nat → Int64 := aRow jJ_211 211 (fun _ => 0)
noncomputable def rR_428 : Nat → Nat → Option Nat := aRow rR_427 211 (fun _ => none)
noncomputable def rR_429 : Nat → Nat → Option Nat := aU rR_428 209 9 (some 211)
noncomputable def kK_213 : Nat → Nat := aRow kK_212 212 101
noncomputable def kL_213 : Nat → Nat := aRow kL_212 212 5
noncomputable def iI_622 : Nat → Nat → Int32 := aRow iI_621 212 (fun _ => 0)
noncomputable def jJ_213 : Nat → Nat → Int64 := aRow jJ_212 212 (fun _ => 0)
noncomputable def rR_430 : Nat → Nat → Option Nat := aRow rR_429 212 (fun _ => none)
noncomputable def iI_623 : Nat → Nat → Int32 := aU iI_622 212 0 (Int32.ofInt 112)
noncomputable def iI_624 : Nat → Nat → Int32 := aU iI_623 212 1 (Int32.ofInt 108)
noncomputable def iI_625 : Nat → Nat → Int32 := aU iI_624 212 2 (Int32.ofInt 97)
noncomputable def iI_626 : Nat → Nat → Int32 := aU iI_625 212 3 (Int32.ofInt 99)
noncomputable def iI_627 : Nat → Nat → Int32 := aU iI_626 212 4 (Int32.ofInt 101)
noncomputable def rR_431 : Nat → Nat → Option Nat := aU rR_430 209 10 (some 212)
noncomputable def kK_214 : Nat → Nat := aRow kK_213 213 101
noncomputable def kL_214 : Nat → Nat := aRow kL_213 213 4
noncomputable def iI_628 : Nat → Nat → Int32 := aRow iI_627 213 (fun _ => 0)
noncomputable def jJ_214 : Nat → Nat → Int64 := aRow jJ_213 213 (fun _ => 0)
noncomputable def rR_432 : Nat → Nat → Option Nat := aRow rR_431 213 (fun _ => none)
noncomputable def iI_629 : Nat → Nat → Int32 := aU iI_628 213 0 (Int32.ofInt 114)
noncomputable def iI_630 : Nat → Nat → Int32 := aU iI_629 213 1 (Int32.ofInt 111)
noncomputable def iI_631 : Nat → Nat → Int32 := aU iI_630 213 2 (Int32.ofInt 97)
noncomputable def iI_632 : Nat → Nat → Int32 := aU iI_631 213 3 (Int32.ofInt 100)
noncomputable def rR_433 : Nat → Nat → Option Nat := aU rR_432 209 11 (some 213)
noncomputable def kK_215 : Nat → Nat := aRow kK_214 214 101
noncomputable def kL_215 : Nat → Nat := aRow kL_214 214 5
noncomputable def iI_633 : Nat → Nat → Int32 := aRow iI_632 214 (fun _ => 0)
noncomputable def jJ_215 : Nat → Nat → Int64 := aRow jJ_214 214 (fun _ => 0)
noncomputable def rR_434 : Nat → Nat → Option Nat := aRow rR_433 214 (fun _ => none)
noncomputable def iI_634 : Nat → Nat → Int32 := aU iI_633 214 0 (Int32.ofInt 109)
noncomputable def iI_635 : Nat → Nat → Int32 := aU iI_634 214 1 (Int32.ofInt 105)
noncomputable def iI_636 : Nat → Nat → Int32 := aU iI_635 214 2 (Int32.ofInt 108)
noncomputable def iI_637 : Nat → Nat → Int32 := aU iI_636 214 3 (Int32.ofInt 101)
noncomputable def iI_638 : Nat → Nat → Int32 := aU iI_637 214 4 (Int32.ofInt 115)
noncomputable def rR_435 : Nat → Nat → Option Nat := aU rR_434 209 12 (some 214)
noncomputable def kK_216 : Nat → Nat := aRow kK_215 215 101
noncomputable def kL_216 : Nat → Nat := aRow kL_215 215 4
noncomputable def iI_639 : Nat → Nat → Int32 := aRow iI_638 215 (fun _ => 0)
noncomputable def jJ_216 : Nat → Nat → Int64 := aRow jJ_215 215 (fun _ => 0)
noncomputable def rR_436 : Nat → Nat → Option Nat := aRow rR_435 215 (fun _ => none)
noncomputable def iI_640 : Nat → Nat → Int32 := aU iI_639 215 0 (Int32.ofInt 112)
noncomputable def iI_641 : Nat → Nat → Int32 := aU iI_640 215 1 (Int32.ofInt 97)
noncomputable def iI_642 : Nat → Nat → Int32 := aU iI_641 215 2 (Int32.ofInt 105)
noncomputable def iI_643 : Nat → Nat → Int32 := aU iI_642 215 3 (Int32.ofInt 114)
noncomputable def rR_437 : Nat → Nat → Option Nat := aU rR_436 209 13 (some 215)
noncomputable def kK_217 : Nat → Nat := aRow kK_216 216 101
noncomputable def kL_217 : Nat → Nat := aRow kL_216 216 4
noncomputable def iI_644 : Nat → Nat → Int32 := aRow iI_643 216 (fun _ => 0)
noncomputable def jJ_217 : Nat → Nat → Int64 := aRow jJ_216 216 (fun _ => 0)
noncomputable def rR_438 : Nat → Nat → Option Nat := aRow rR_437 216 (fun _ => none)
noncomputable def iI_645 : Nat → Nat → Int32 := aU iI_644 216 0 (Int32.ofInt 115)
noncomputable def iI_646 : Nat → Nat → Int32 := aU iI_645 216 1 (Int32.ofInt 105)
noncomputable def iI_647 : Nat → Nat → Int32 := aU iI_646 216 2 (Int32.ofInt 122)
noncomputable def iI_648 : Nat → Nat → Int32 := aU iI_647 216 3 (Int32.ofInt 101)
noncomputable def rR_439 : Nat → Nat → Option Nat := aU rR_438 209 14 (some 216)
noncomputable def kK_218 : Nat → Nat := aRow kK_217 217 101
noncomputable def kL_218 : Nat → Nat := aRow kL_217 217 5
noncomputable def iI_649 : Nat → Nat → Int32 := aRow iI_648 217 (fun _ => 0)
noncomputable def jJ_218 : Nat → Nat → Int64 := aRow jJ_217 217 (fun _ => 0)
noncomputable def rR_440 : Nat → Nat → Option Nat := aRow rR_439 217 (fun _ => none)
noncomputable def iI_650 : Nat → Nat → Int32 := aU iI_649 217 0 (Int32.ofInt 112)
noncomputable def iI_651 : Nat → Nat → Int32 := aU iI_650 217 1 (Int32.ofInt 117)
noncomputable def iI_652 : Nat → Nat → Int32 := aU iI_651 217 2 (Int32.ofInt 108)
noncomputable def iI_653 : Nat → Nat → Int32 := aU iI_652 217 3 (Int32.ofInt 108)
noncomputable def iI_654 : Nat → Nat → Int32 := aU iI_653 217 4 (Int32.ofInt 115)
noncomputable def rR_441 : Nat → Nat → Option Nat := aU rR_440 209 15 (some 217)
noncomputable def kK_219 : Nat → Nat := aRow kK_218 218 101
noncomputable def kL_219 : Nat → Nat := aRow kL_218 218 2
noncomputable def iI_655 : Nat → Nat → Int32 := aRow iI_654 218 (fun _ => 0)
noncomputable def jJ_219 : Nat → Nat → Int64 := aRow jJ_218 218 (fun _ => 0)
noncomputable def rR_442 : Nat → Nat → Option Nat := aRow rR_441 218 (fun _ => none)
noncomputable def iI_656 : Nat → Nat → Int32 := aU iI_655 218 0 (Int32.ofInt 98)
noncomputable def iI_657 : Nat → Nat → Int32 := aU iI_656 218 1 (Int32.ofInt 121)
noncomputable def rR_443 : Nat → Nat → Option Nat := aU rR_442 209 16 (some 218)
noncomputable def kK_220 : Nat → Nat := aRow kK_219 219 101
noncomputable def kL_220 : Nat → Nat := aRow kL_219 219 6
noncomputable def iI_658 : Nat → Nat → Int32 := aRow iI_657 219 (fun _ => 0)
noncomputable def jJ_220 : Nat → Nat → Int64 := aRow jJ_219 219 (fun _ => 0)
noncomputable def rR_444 : Nat → Nat → Option Nat := aRow rR_443 219 (fun _ => none)
noncomputable def iI_659 : Nat → Nat → Int32 := aU iI_658 219 0 (Int32.ofInt 119)
noncomputable def iI_660 : Nat → Nat → Int32 := aU iI_659 219 1 (Int32.ofInt 97)
noncomputable def iI_661 : Nat → Nat → Int32 := aU iI_660 219 2 (Int32.ofInt 108)
noncomputable def iI_662 : Nat → Nat → Int32 := aU iI_661 219 3 (Int32.ofInt 107)
noncomputable def iI_663 : Nat → Nat → Int32 := aU iI_662 219 4 (Int32.ofInt 101)
noncomputable def iI_664 : Nat → Nat → Int32 := aU iI_663 219 5 (Int32.ofInt 114)
noncomputable def rR_445 : Nat → Nat → Option Nat := aU rR_444 209 17 (some 219)
noncomputable def kK_221 : Nat → Nat := aRow kK_220 220 101
noncomputable def kL_221 : Nat → Nat := aRow kL_220 220 4
noncomputable def iI_665 : Nat → Nat → Int32 := aRow iI_664 220 (fun _ => 0)
noncomputable def jJ_221 : Nat → Nat → Int64 := aRow jJ_220 220 (fun _ => 0)
noncomputable def rR_446 : Nat → Nat → Option Nat := aRow rR_445 220 (fun _ => none)
noncomputable def iI_666 : Nat → Nat → Int32 := aU iI_665 220 0 (Int32.ofInt 119)
noncomputable def iI_667 : Nat → Nat → Int32 := aU iI_666 220 1 (Int32.ofInt 105)
noncomputable def iI_668 : Nat → Nat → Int32 := aU iI_667 220 2 (Int32.ofInt 108)
noncomputable def iI_669 : Nat → Nat → Int32 := aU iI_668 220 3 (Int32.ofInt 108)
noncomputable def rR_447 : Nat → Nat → Option Nat := aU rR_446 209 18 (some 220)
noncomputable def kK_222 : Nat → Nat := aRow kK_221 221 101
noncomputable def kL_222 : Nat → Nat := aRow kL_221 221 2
noncomputable def iI_670 : Nat → Nat → Int32 := aRow iI_669 221 (fun _ => 0)
noncomputable def jJ_222 : Nat → Nat → Int64 := aRow jJ_221 221 (fun _ => 0)
noncomputable def rR_448 : Nat → Nat → Option Nat := aRow rR_447 221 (fun _ => none)
noncomputable def iI_671 : Nat → Nat → Int32 := aU iI_670 221 0 (Int32.ofInt 116)
noncomputable def iI_672 : Nat → Nat → Int32 := aU iI_671 221 1 (Int32.ofInt 111)
noncomputable def rR_449 : Nat → Nat → Option Nat := aU rR_448 209 19 (some 221)
noncomputable def kK_223 : Nat → Nat := aRow kK_222 222 101
noncomputable def kL_223 : Nat → Nat := aRow kL_222 222 2
noncomputable def iI_673 : Nat → Nat → Int32 := aRow iI_672 222 (fun _ => 0)
noncomputable def jJ_223 : Nat → Nat → Int64 := aRow jJ_222 222 (fun _ => 0)
noncomputable def rR_450 : Nat → Nat → Option Nat := aRow rR_449 222 (fun _ => none)
noncomputable def iI_674 : Nat → Nat → Int32 := aU iI_673 222 0 (Int32.ofInt 105)
noncomputable def iI_675 : Nat → Nat → Int32 := aU iI_674 222 1 (Int32.ofInt 110)
noncomputable def rR_451 : Nat → Nat → Option Nat := aU rR_450 209 20 (some 222)
noncomputable def kK_224 : Nat → Nat := aRow kK_223 223 101
noncomputable def kL_224 : Nat → Nat := aRow kL_223 223 4
noncomputable def iI_676 : Nat → Nat → Int32 := aRow iI_675 223 (fun _ => 0)
noncomputable def jJ_224 : Nat → Nat → Int64 := aRow jJ_223 223 (fun _ => 0)
noncomputable def rR_452 : Nat → Nat → Option Nat := aRow rR_451 223 (fun _ => none)
noncomputable def iI_677 : Nat → Nat → Int32 := aU iI_676 223 0 (Int32.ofInt 112)
noncomputable def iI_678 : Nat → Nat → Int32 := aU iI_677 223 1 (Int32.ofInt 117)
noncomputable def iI_679 : Nat → Nat → Int32 := aU iI_678 223 2 (Int32.ofInt 108)
noncomputable def iI_680 : Nat → Nat → Int32 := aU iI_679 223 3 (Int32.ofInt 108)
noncomputable def rR_453 : Nat → Nat → Option Nat := aU rR_452 209 21 (some 223)
noncomputable def kK_225 : Nat → Nat := aRow kK_224 224 101
noncomputable def kL_225 : Nat → Nat := aRow kL_224 224 6
noncomputable def iI_681 : Nat → Nat → Int32 := aRow iI_680 224 (fun _ => 0)
noncomputable def jJ_225 : Nat → Nat → Int64 := aRow jJ_224 224 (fun _ => 0)
noncomputable def rR_454 : Nat → Nat → Option Nat := aRow rR_453 224 (fun _ => none)
noncomputable def iI_682 : Nat → Nat → Int32 := aU iI_681 224 0 (Int32.ofInt 115)
noncomputable def iI_683 : Nat → Nat → Int32 := aU iI_682 224 1 (Int32.ofInt 116)
noncomputable def iI_684 : Nat → Nat → Int32 := aU iI_683 224 2 (Int32.ofInt 114)
noncomputable def iI_685 : Nat → Nat → Int32 := aU iI_684 224 3 (Int32.ofInt 105)
noncomputable def iI_686 : Nat → Nat → Int32 := aU iI_685 224 4 (Int32.ofInt 118)
noncomputable def iI_687 : Nat → Nat → Int32 := aU iI_686 224 5 (Int32.ofInt 101)
noncomputable def rR_455 : Nat → Nat → Option Nat := aU rR_454 209 22 (some 224)
noncomputable def kK_226 : Nat → Nat := aRow kK_225 225 101
noncomputable def kL_226 : Nat → Nat := aRow kL_225 225 3
noncomputable def iI_688 : Nat → Nat → Int32 := aRow iI_687 225 (fun _ => 0)
noncomputable def jJ_226 : Nat → Nat → Int64 := aRow jJ_225 225 (fun _ => 0)
noncomputable def rR_456 : Nat → Nat → Option Nat := aRow rR_455 225 (fun _ => none)
noncomputable def iI_689 : Nat → Nat → Int32 := aU iI_688 225 0 (Int32.ofInt 108)
noncomputable def iI_690 : Nat → Nat → Int32 := aU iI_689 225 1 (Int32.ofInt 97)
noncomputable def iI_691 : Nat → Nat → Int32 := aU iI_690 225 2 (Int32.ofInt 119)
noncomputable def rR_457 : Nat → Nat → Option Nat := aU rR_456 209 23 (some 225)
noncomputable def kK_227 : Nat → Nat := aRow kK_226 226 101
noncomputable def kL_227 : Nat → Nat := aRow kL_226 226 4
noncomputable def iI_692 : Nat → Nat → Int32 := aRow iI_691 226 (fun _ => 0)
noncomputable def jJ_227 : Nat → Nat → Int64 := aRow jJ_226 226 (fun _ => 0)
noncomputable def rR_458 : Nat → Nat → Option Nat := aRow rR_457 226 (fun _ => none)
noncomputable def iI_693 : Nat → Nat → Int32 := aU iI_692 226 0 (Int32.ofInt 108)
noncomputable def iI_694 : Nat → Nat → Int32 := aU iI_693 226 1 (Int32.ofInt 101)
noncomputable def iI_695 : Nat → Nat → Int32 := aU iI_694 226 2 (Int32.ofInt 103)
noncomputable def iI_696 : Nat → Nat → Int32 := aU iI_695 226 3 (Int32.ofInt 115)
noncomputable def rR_459 : Nat → Nat → Option Nat := aU rR_458 209 24 (some 226)
noncomputable def kK_228 : Nat → Nat := aRow kK_227 227 101
noncomputable def kL_228 : Nat → Nat := aRow kL_227 227 4
noncomputable def iI_697 : Nat → Nat → Int32 := aRow iI_696 227 (fun _ => 0)
noncomputable def jJ_228 : Nat → Nat → Int64 := aRow jJ_227 227 (fun _ => 0)
noncomputable def rR_460 : Nat → Nat → Option Nat := aRow rR_459 227 (fun _ => none)
noncomputable def iI_698 : Nat → Nat → Int32 := aU iI_697 227 0 (Int32.ofInt 114)
noncomputable def iI_699 : Nat → Nat → Int32 := aU iI_698 227 1 (Int32.ofInt 97)
noncomputable def iI_700 : Nat → Nat → Int32 := aU iI_699 227 2 (Int32.ofInt 105)
noncomputable def iI_701 : Nat → Nat → Int32 := aU iI_700 227 3 (Int32.ofInt 110)
noncomputable def rR_461 : Nat → Nat → Option Nat := aU rR_460 209 25 (some 227)
noncomputable def kK_229 : Nat → Nat := aRow kK_228 228 101
noncomputable def kL_229 : Nat → Nat := aRow kL_228 228 5
noncomputable def iI_702 : Nat → Nat → Int32 := aRow iI_701 228 (fun _ => 0)
noncomputable def jJ_229 : Nat → Nat → Int64 := aRow jJ_228 228 (fun _ => 0)
noncomputable def rR_462 : Nat → Nat → Option Nat := aRow rR_461 228 (fun _ => none)
noncomputable def iI_703 : Nat → Nat → Int32 := aU iI_702 228 0 (Int32.ofInt 104)
noncomputable def iI_704 : Nat → Nat → Int32 := aU iI_703 228 1 (Int32.ofInt 97)
noncomputable def iI_705 : Nat → Nat → Int32 := aU iI_704 228 2 (Int32.ofInt 98)
noncomputable def iI_706 : Nat → Nat → Int32 := aU iI_705 228 3 (Int32.ofInt 105)
noncomputable def iI_707 : Nat → Nat → Int32 := aU iI_706 228 4 (Int32.ofInt 116)
noncomputable def rR_463 : Nat → Nat → Option Nat := aU rR_462 209 26 (some 228)
noncomputable def kK_230 : Nat → Nat := aRow kK_229 229 101
noncomputable def kL_230 : Nat → Nat := aRow kL_229 229 5
noncomputable def iI_708 : Nat → Nat → Int32 := aRow iI_707 229 (fun _ => 0)
noncomputable def jJ_230 : Nat → Nat → Int64 := aRow jJ_229 229 (fun _ => 0)
noncomputable def rR_464 : Nat → Nat → Option Nat := aRow rR_463 229 (fun _ => none)
noncomputable def iI_709 : Nat → Nat → Int32 := aU iI_708 229 0 (Int32.ofInt 116)
noncomputable def iI_710 : Nat → Nat → Int32 := aU iI_709 229 1 (Int32.ofInt 105)
noncomputable def iI_711 : Nat → Nat → Int32 := aU iI_710 229 2 (Int32.ofInt 103)
noncomputable def iI_712 : Nat → Nat → Int32 := aU iI_711 229 3 (Int32.ofInt 104)
noncomputable def iI_713 : Nat → Nat → Int32 := aU iI_712 229 4 (Int32.ofInt 116)
noncomputable def rR_465 : Nat → Nat → Option Nat := aU rR_464 209 27 (some 229)
noncomputable def kK_231 : Nat → Nat := aRow kK_230 230 101
noncomputable def kL_231 : Nat → Nat := aRow kL_230 230 6
noncomputable def iI_714 : Nat → Nat → Int32 := aRow iI_713 230 (fun _ => 0)
noncomputable def jJ_231 : Nat → Nat → Int64 := aRow jJ_230 230 (fun _ => 0)
noncomputable def rR_466 : Nat → Nat → Option Nat := aRow rR_465 230 (fun _ => none)
noncomputable def iI_715 : Nat → Nat → Int32 := aU iI_714 230 0 (Int32.ofInt 119)
noncomputable def iI_716 : Nat → Nat → Int32 := aU iI_715 230 1 (Int32.ofInt 97)
noncomputable def iI_717 : Nat → Nat → Int32 := aU iI_716 230 2 (Int32.ofInt 108)
noncomputable def iI_718 : Nat → Nat → Int32 := aU iI_717 230 3 (Int32.ofInt 107)
noncomputable def iI_719 : Nat → Nat → Int32 := aU iI_718 230 4 (Int32.ofInt 101)
noncomputable def iI_720 : Nat → Nat → Int32 := aU iI_719 230 5 (Int32.ofInt 100)
noncomputable def rR_467 : Nat → Nat → Option Nat := aU rR_466 209 28 (some 230)
noncomputable def kK_232 : Nat → Nat := aRow kK_231 231 101
noncomputable def kL_232 : Nat → Nat := aRow kL_231 231 3
noncomputable def iI_721 : Nat → Nat → Int32 := aRow iI_720 231 (fun _ => 0)
noncomputable def jJ_232 : Nat → Nat → Int64 := aRow jJ_231 231 (fun _ => 0)
noncomputable def rR_468 : Nat → Nat → Option Nat := aRow rR_467 231 (fun _ => none)
noncomputable def iI_722 : Nat → Nat → Int32 := aU iI_721 231 0 (Int32.ofInt 100)
noncomputable def iI_723 : Nat → Nat → Int32 := aU iI_722 231 1 (Int32.ofInt 97)
noncomputable def iI_724 : Nat → Nat → Int32 := aU iI_723 231 2 (Int32.ofInt 121)
noncomputable def rR_469 : Nat → Nat → Option Nat := aU rR_468 209 29 (some 231)
noncomputable def kK_233 : Nat → Nat := aRow kK_232 232 101
noncomputable def kL_233 : Nat → Nat := aRow kL_232 232 6
noncomputable def iI_725 : Nat → Nat → Int32 := aRow iI_724 232 (fun _ => 0)
noncomputable def jJ_233 : Nat → Nat → Int64 := aRow jJ_232 232 (fun _ => 0)
noncomputable def rR_470 : Nat → Nat → Option Nat := aRow rR_469 232 (fun _ => none)
noncomputable def iI_726 : Nat → Nat → Int32 := aU iI_725 232 0 (Int32.ofInt 110)
noncomputable def iI_727 : Nat → Nat → Int32 := aU iI_726 232 1 (Int32.ofInt 117)
noncomputable def iI_728 : Nat → Nat → Int32 := aU iI_727 232 2 (Int32.ofInt 109)
noncomputable def iI_729 : Nat → Nat → Int32 := aU iI_728 232 3 (Int32.ofInt 98)
noncomputable def iI_730 : Nat → Nat → Int32 := aU iI_729 232 4 (Int32.ofInt 101)
noncomputable def iI_731 : Nat → Nat → Int32 := aU iI_730 232 5 (Int32.ofInt 114)
noncomputable def rR_471 : Nat → Nat → Option Nat := aU rR_470 209 30 (some 232)
noncomputable def kK_234 : Nat → Nat := aRow kK_233 233 101
noncomputable def kL_234 : Nat → Nat := aRow kL_233 233 5
noncomputable def iI_732 : Nat → Nat → Int32 := aRow iI_731 233 (fun _ => 0)
noncomputable def jJ_234 : Nat → Nat → Int64 := aRow jJ_233 233 (fun _ => 0)
noncomputable def rR_472 : Nat → Nat → Option Nat := aRow rR_471 233 (fun _ => none)
noncomputable def iI_733 : Nat → Nat → Int32 := aU iI_732 233 0 (Int32.ofInt 116)
noncomputable def iI_734 : Nat → Nat → Int32 := aU iI_733 233 1 (Int32.ofInt 104)
noncomputable def iI_735 : Nat → Nat → Int32 := aU iI_734 233 2 (Int32.ofInt 101)
noncomputable def iI_736 : Nat → Nat → Int32 := aU iI_735 233 3 (Int32.ofInt 114)
noncomputable def iI_737 : Nat → Nat → Int32 := aU iI_736 233 4 (Int32.ofInt 101)
noncomputable def rR_473 : Nat → Nat → Option Nat := aU rR_472 209 31 (some 233)
noncomputable def kK_235 : Nat → Nat := aRow kK_234 234 101
noncomputable def kL_235 : Nat → Nat := aRow kL_234 234 4
noncomputable def iI_738 : Nat → Nat → Int32 := aRow iI_737 234 (fun _ => 0)
noncomputable def jJ_235 : Nat → Nat → Int64 := aRow jJ_234 234 (fun _ => 0)
noncomputable def rR_474 : Nat → Nat → Option Nat := aRow rR_473 234 (fun _ => none)
noncomputable def iI_739 : Nat → Nat → Int32 := aU iI_738 234 0 (Int32.ofInt 119)
noncomputable def iI_740 : Nat → Nat → Int32 := aU iI_739 234 1 (Int32.ofInt 101)
noncomputable def iI_741 : Nat → Nat → Int32 := aU iI_740 234 2 (Int32.ofInt 110)
noncomputable def iI_742 : Nat → Nat → Int32 := aU iI_741 234 3 (Int32.ofInt 116)
noncomputable def rR_475 : Nat → Nat → Option Nat := aU rR_474 209 32 (some 234)
noncomputable def kK_236 : Nat → Nat := aRow kK_235 235 101
noncomputable def kL_236 : Nat → Nat := aRow kL_235 235 3
noncomputable def iI_743 : Nat → Nat → Int32 := aRow iI_742 235 (fun _ => 0)
noncomputable def jJ_236 : Nat → Nat → Int64 := aRow jJ_235 235 (fun _ => 0)
noncomputable def rR_476 : Nat → Nat → Option Nat := aRow rR_475 235 (fun _ => none)
noncomputable def iI_744 : Nat → Nat → Int32 := aU iI_743 235 0 (Int32.ofInt 102)
noncomputable def iI_745 : Nat → Nat → Int32 := aU iI_744 235 1 (Int32.ofInt 97)
noncomputable def iI_746 : Nat → Nat → Int32 := aU iI_745 235 2 (Int32.ofInt 114)
noncomputable def rR_477 : Nat → Nat → Option Nat := aU rR_476 209 33 (some 235)
noncomputable def kK_237 : Nat → Nat := aRow kK_236 236 101
noncomputable def kL_237 : Nat → Nat := aRow kL_236 236 2
noncomputable def iI_747 : Nat → Nat → Int32 := aRow iI_746 236 (fun _ => 0)
noncomputable def jJ_237 : Nat → Nat → Int64 := aRow jJ_236 236 (fun _ => 0)
noncomputable def rR_478 : Nat → Nat → Option Nat := aRow rR_477 236 (fun _ => none)
noncomputable def iI_748 : Nat → Nat → Int32 := aU iI_747 236 0 (Int32.ofInt 111)
noncomputable def iI_749 : Nat → Nat → Int32 := aU iI_748 236 1 (Int32.ofInt 114)
noncomputable def rR_479 : Nat → Nat → Option Nat := aU rR_478 209 34 (some 236)
noncomputable def kK_238 : Nat → Nat := aRow kK_237 237 101
noncomputable def kL_238 : Nat → Nat := aRow kL_237 237 3
noncomputable def iI_750 : Nat → Nat → Int32 := aRow iI_749 237 (fun _ => 0)
noncomputable def jJ_238 : Nat → Nat → Int64 := aRow jJ_237 237 (fun _ => 0)
noncomputable def rR_480 : Nat → Nat → Option Nat := aRow rR_479 237 (fun _ => none)
noncomputable def iI_751 : Nat → Nat → Int32 := aU iI_750 237 0 (Int32.ofInt 97)
noncomputable def iI_752 : Nat → Nat → Int32 := aU iI_751 237 1 (Int32.ofInt 110)
noncomputable def iI_753 : Nat → Nat → Int32 := aU iI_752 237 2 (Int32.ofInt 100)
noncomputable def rR_481 : Nat → Nat → Option Nat := aU rR_480 209 35 (some 237)
noncomputable def kK_239 : Nat → Nat := aRow kK_238 238 101
noncomputable def kL_239 : Nat → Nat := aRow kL_238 238 3
noncomputable def iI_754 : Nat → Nat → Int32 := aRow iI_753 238 (fun _ => 0)
noncomputable def jJ_239 : Nat → Nat → Int64 := aRow jJ_238 238 (fun _ => 0)
noncomputable def rR_482 : Nat → Nat → Option Nat := aRow rR_481 238 (fun _ => none)
noncomputable def iI_755 : Nat → Nat → Int32 := aU iI_754 238 0 (Int32.ofInt 110)
noncomputable def iI_756 : Nat → Nat → Int32 := aU iI_755 238 1 (Int32.ofInt 111)
noncomputable def iI_757 : Nat → Nat → Int32 := aU iI_756 238 2 (Int32.ofInt 116)
noncomputable def rR_483 : Nat → Nat → Option Nat := aU rR_482 209 36 (some 238)
noncomputable def kK_240 : Nat → Nat := aRow kK_239 239 101
noncomputable def kL_240 : Nat → Nat := aRow kL_239 239 3
noncomputable def iI_758 : Nat → Nat → Int32 := aRow iI_757 239 (fun _ => 0)
noncomputable def jJ_240 : Nat → Nat → Int64 := aRow jJ_239 239 (fun _ => 0)
noncomputable def rR_484 : Nat → Nat → Option Nat := aRow rR_483 239 (fun _ => none)
noncomputable def iI_759 : Nat → Nat → Int32 := aU iI_758 239 0 (Int32.ofInt 97)
noncomputable def iI_760 : Nat → Nat → Int32 := aU iI_759 239 1 (Int32.ofInt 108)
noncomputable def iI_761 : Nat → Nat → Int32 := aU iI_760 239 2 (Int32.ofInt 108)
noncomputable def rR_485 : Nat → Nat → Option Nat := aU rR_484 209 37 (some 239)
noncomputable def kK_241 : Nat → Nat := aRow kK_240 240 101
noncomputable def kL_241 : Nat → Nat := aRow kL_240 240 3
noncomputable def iI_762 : Nat → Nat → Int32 := aRow iI_761 240 (fun _ => 0)
noncomputable def jJ_241 : Nat → Nat → Int64 := aRow jJ_240 240 (fun _ => 0)
noncomputable def rR_486 : Nat → Nat → Option Nat := aRow rR_485 240 (fun _ => none)
noncomputable def iI_763 : Nat → Nat → Int32 := aU iI_762 240 0 (Int32.ofInt 109)
noncomputable def iI_764 : Nat → Nat → Int32 := aU iI_763 240 1 (Int32.ofInt 105)
noncomputable def iI_765 : Nat → Nat → Int32 := aU iI_764 240 2 (Int32.ofInt 110)
noncomputable def rR_487 : Nat → Nat → Option Nat := aU rR_486 209 38 (some 240)
noncomputable def kK_242 : Nat → Nat := aRow kK_241 241 101
noncomputable def kL_242 : Nat → Nat := aRow kL_241 241 3
noncomputable def iI_766 : Nat → Nat → Int32 := aRow iI_765 241 (fun _ => 0)
noncomputable def jJ_242 : Nat → Nat → Int64 := aRow jJ_241 241 (fun _ => 0)
noncomputable def rR_488 : Nat → Nat → Option Nat := aRow rR_487 241 (fun _ => none)
noncomputable def iI_767 : Nat → Nat → Int32 := aU iI_766 241 0 (Int32.ofInt 109)
noncomputable def iI_768 : Nat → Nat → Int32 := aU iI_767 241 1 (Int32.ofInt 97)
noncomputable def iI_769 : Nat → Nat → Int32 := aU iI_768 241 2 (Int32.ofInt 120)
noncomputable def rR_489 : Nat → Nat → Option Nat := aU rR_488 209 39 (some 241)
noncomputable def kK_243 : Nat → Nat := aRow kK_242 242 100
noncomputable def kL_243 : Nat → Nat := aRow kL_242 242 8
noncomputable def iI_770 : Nat → Nat → Int32 := aRow iI_769 242 (fun _ => 0)
noncomputable def jJ_243 : Nat → Nat → Int64 := aRow jJ_242 242 (fun _ => 0)
noncomputable def rR_490 : Nat → Nat → Option Nat := aRow rR_489 242 (fun _ => none)
noncomputable def rR_491 : Nat → Nat → Option Nat := aU rR_490 209 41 (some 242)
noncomputable def kK_244 : Nat → Nat := aRow kK_243 243 102
noncomputable def kL_244 : Nat → Nat := aRow kL_243 243 48
noncomputable def iI_771 : Nat → Nat → Int32 := aRow iI_770 243 (fun _ => 0)
noncomputable def jJ_244 : Nat → Nat → Int64 := aRow jJ_243 243 (fun _ => 0)
noncomputable def rR_492 : Nat → Nat → Option Nat := aRow rR_491 243 (fun _ => none)
noncomputable def rR_493 : Nat → Nat → Option Nat := aU rR_492 209 42 (some 243)
noncomputable def kK_245 : Nat → Nat := aRow kK_244 244 100
noncomputable def kL_245 : Nat → Nat := aRow kL_244 244 98
noncomputable def iI_772 : Nat → Nat → Int32 := aRow iI_771 244 (fun _ => 0)
noncomputable def jJ_245 : Nat → Nat → Int64 := aRow jJ_244 244 (fun _ => 0)
noncomputable def rR_494 : Nat → Nat → Option Nat := aRow rR_493 244 (fun _ => none)
noncomputable def rR_495 : Nat → Nat → Option Nat := aU rR_494 209 43 (some 244)
noncomputable def kK_246 : Nat → Nat := aRow kK_245 245 100
noncomputable def kL_246 : Nat → Nat := aRow kL_245 245 48
noncomputable def iI_773 : Nat → Nat → Int32 := aRow iI_772 245 (fun _ => 0)
noncomputable def jJ_246 : Nat → Nat → Int64 := aRow jJ_245 245 (fun _ => 0)
noncomputable def rR_496 : Nat → Nat → Option Nat := aRow rR_495 245 (fun _ => none)
noncomputable def rR_497 : Nat → Nat → Option Nat := aU rR_496 209 44 (some 245)
noncomputable def kK_247 : Nat → Nat := aRow kK_246 246 100
noncomputable def kL_247 : Nat → Nat := aRow kL_246 246 36
noncomputable def iI_774 : Nat → Nat → Int32 := aRow iI_773 246 (fun _ => 0)
noncomputable def jJ_247 : Nat → Nat → Int64 := aRow jJ_246 246 (fun _ => 0)
noncomputable def rR_498 : Nat → Nat → Option Nat := aRow rR_497 246 (fun _ => none)
noncomputable def rR_499 : Nat → Nat → Option Nat := aU rR_498 209 45 (some 246)
noncomputable def kK_248 : Nat → Nat := aRow kK_247 247 100
noncomputable def kL_248 : Nat → Nat := aRow kL_247 247 6
noncomputable def iI_775 : Nat → Nat → Int32 := aRow iI_774 247 (fun _ => 0)
noncomputable def jJ_248 : Nat → Nat → Int64 := aRow jJ_247 247 (fun _ => 0)
noncomputable def rR_500 : Nat → Nat → Option Nat := aRow rR_499 247 (fun _ => none)
noncomputable def rR_501 : Nat → Nat → Option Nat := aU rR_500 209 46 (some 247)
noncomputable def kK_249 : Nat → Nat := aRow kK_248 248 100
noncomputable def kL_249 : Nat → Nat := aRow kL_248 248 6
noncomputable def iI_776 : Nat → Nat → Int32 := aRow iI_775 248 (fun _ => 0)
noncomputable def jJ_249 : Nat → Nat → Int64 := aRow jJ_248 248 (fun _ => 0)
noncomputable def rR_502 : Nat → Nat → Option Nat := aRow rR_501 248 (fun _ => none)
noncomputable def iI_777 : Nat → Nat → Int32 := aU iI_776 248 0 (Int32.ofInt 0)
noncomputable def iI_778 : Nat → Nat → Int32 := aU iI_777 248 1 (Int32.ofInt 3)
noncomputable def iI_779 : Nat → Nat → Int32 := aU iI_778 248 2 (Int32.ofInt 0)
noncomputable def iI_780 : Nat → Nat → Int32 := aU iI_779 248 3 (Int32.ofInt 0)
noncomputable def iI_781 : Nat → Nat → Int32 := aU iI_780 248 4 (Int32.ofInt 3)
noncomputable def iI_782 : Nat → Nat → Int32 := aU iI_781 248 5 (Int32.ofInt 0)
noncomputable def rR_503 : Nat → Nat → Option Nat := aU rR_502 209 47 (some 248)
noncomputable def kK_250 : Nat → Nat := aRow kK_249 249 100
noncomputable def kL_250 : Nat → Nat := aRow kL_249 249 4
noncomputable def iI_783 : Nat → Nat → Int32 := aRow iI_782 249 (fun _ => 0)
noncomputable def jJ_250 : Nat → Nat → Int64 := aRow jJ_249 249 (fun _ => 0)
noncomputable def rR_504 : Nat → Nat → Option Nat := aRow rR_503 249 (fun _ => none)
noncomputable def iI_784 : Nat → Nat → Int32 := aU iI_783 249 0 (Int32.ofInt (-1))
noncomputable def iI_785 : Nat → Nat → Int32 := aU iI_784 249 1 (Int32.ofInt (-1))
noncomputable def iI_786 : Nat → Nat → Int32 := aU iI_785 249 2 (Int32.ofInt (-1))
noncomputable def iI_787 : Nat → Nat → Int32 := aU iI_786 249 3 (Int32.ofInt (-1))
noncomputable def rR_505 : Nat → Nat → Option Nat := aU rR_504 209 48 (some 249)
noncomputable def kK_251 : Nat → Nat := aRow kK_250 250 100
noncomputable def kL_251 : Nat → Nat := aRow kL_250 250 4
noncomputable def iI_788 : Nat → Nat → Int32 := aRow iI_787 250 (fun _ => 0)
noncomputable def jJ_251 : Nat → Nat → Int64 := aRow jJ_250 250 (fun _ => 0)
noncomputable def rR_506 : Nat → Nat → Option Nat := aRow rR_505 250 (fun _ => none)
noncomputable def rR_507 : Nat → Nat → Option Nat := aU rR_506 209 49 (some 250)
noncomputable def kK_252 : Nat → Nat := aRow kK_251 251 100
noncomputable def kL_252 : Nat → Nat := aRow kL_251 251 3200
noncomputable def iI_789 : Nat → Nat → Int32 := aRow iI_788 251 (fun _ => 0)
noncomputable def jJ_252 : Nat → Nat → Int64 := aRow jJ_251 251 (fun _ => 0)
noncomputable def rR_508 : Nat → Nat → Option Nat := aRow rR_507 251 (fun _ => none)
noncomputable def rR_509 : Nat → Nat → Option Nat := aU rR_508 209 50 (some 251)
noncomputable def kK_253 : Nat → Nat := aRow kK_252 252 100
noncomputable def kL_253 : Nat → Nat := aRow kL_252 252 49
noncomputable def iI_790 : Nat → Nat → Int32 := aRow iI_789 252 (fun _ => 0)
noncomputable def jJ_253 : Nat → Nat → Int64 := aRow jJ_252 252 (fun _ => 0)
noncomputable def rR_510 : Nat → Nat → Option Nat := aRow rR_509 252 (fun _ => none)
noncomputable def rR_511 : Nat → Nat → Option Nat := aU rR_510 209 54 (some 252)
noncomputable def kK_254 : Nat → Nat := aRow kK_253 253 100
noncomputable def kL_254 : Nat → Nat := aRow kL_253 253 49
noncomputable def iI_791 : Nat → Nat → Int32 := aRow iI_790 253 (fun _ => 0)
noncomputable def jJ_254 : Nat → Nat → Int64 := aRow jJ_253 253 (fun _ => 0)
noncomputable def rR_512 : Nat → Nat → Option Nat := aRow rR_511 253 (fun _ => none)
noncomputable def rR_513 : Nat → Nat → Option Nat := aU rR_512 209 55 (some 253)
noncomputable def kK_255 : Nat → Nat := aRow kK_254 254 100
noncomputable def kL_255 : Nat → Nat := aRow kL_254 254 37
noncomputable def iI_792 : Nat → Nat → Int32 := aRow iI_791 254 (fun _ => 0)
noncomputable def jJ_255 : Nat → Nat → Int64 := aRow jJ_254 254 (fun _ => 0)
noncomputable def rR_514 : Nat → Nat → Option Nat := aRow rR_513 254 (fun _ => none)
noncomputable def rR_515 : Nat → Nat → Option Nat := aU rR_514 209 56 (some 254)
noncomputable def kK_256 : Nat → Nat := aRow kK_255 255 100
noncomputable def kL_256 : Nat → Nat := aRow kL_255 255 37
noncomputable def iI_793 : Nat → Nat → Int32 := aRow iI_792 255 (fun _ => 0)
noncomputable def jJ_256 : Nat → Nat → Int64 := aRow jJ_255 255 (fun _ => 0)
noncomputable def rR_516 : Nat → Nat → Option Nat := aRow rR_515 255 (fun _ => none)
noncomputable def rR_517 : Nat → Nat → Option Nat := aU rR_516 209 57 (some 255)
noncomputable def kK_257 : Nat → Nat := aRow kK_256 256 100
noncomputable def kL_257 : Nat → Nat := aRow kL_256 256 31
noncomputable def iI_794 : Nat → Nat → Int32 := aRow iI_793 256 (fun _ => 0)
noncomputable def jJ_257 : Nat → Nat → Int64 := aRow jJ_256 256 (fun _ => 0)
noncomputable def rR_518 : Nat → Nat → Option Nat := aRow rR_517 256 (fun _ => none)
noncomputable def rR_519 : Nat → Nat → Option Nat := aU rR_518 209 63 (some 256)
noncomputable def kK_258 : Nat → Nat := aRow kK_257 257 100
noncomputable def kL_258 : Nat → Nat := aRow kL_257 257 6
noncomputable def iI_795 : Nat → Nat → Int32 := aRow iI_794 257 (fun _ => 0)
noncomputable def jJ_258 : Nat → Nat → Int64 := aRow jJ_257 257 (fun _ => 0)
noncomputable def rR_520 : Nat → Nat → Option Nat := aRow rR_519 257 (fun _ => none)
noncomputable def rR_521 : Nat → Nat → Option Nat := aU rR_520 209 64 (some 257)
noncomputable def kK_259 : Nat → Nat := aRow kK_258 258 100
noncomputable def kL_259 : Nat → Nat := aRow kL_258 258 6
noncomputable def iI_796 : Nat → Nat → Int32 := aRow iI_795 258 (fun _ => 0)
noncomputable def jJ_259 : Nat → Nat → Int64 := aRow jJ_258 258 (fun _ => 0)
noncomputable def rR_522 : Nat → Nat → Option Nat := aRow rR_521 258 (fun _ => none)
noncomputable def rR_523 : Nat → Nat → Option Nat := aU rR_522 209 65 (some 258)
noncomputable def kK_260 : Nat → Nat := aRow kK_259 259 100
noncomputable def kL_260 : Nat → Nat := aRow kL_259 259 48
noncomputable def iI_797 : Nat → Nat → Int32 := aRow iI_796 259 (fun _ => 0)
noncomputable def jJ_260 : Nat → Nat → Int64 := aRow jJ_259 259 (fun _ => 0)
noncomputable def rR_524 : Nat → Nat → Option Nat := aRow rR_523 259 (fun _ => none)
noncomputable def rR_525 : Nat → Nat → Option Nat := aU rR_524 209 66 (some 259)
noncomputable def kK_261 : Nat → Nat := aRow kK_260 260 100
noncomputable def kL_261 : Nat → Nat := aRow kL_260 260 32
noncomputable def iI_798 : Nat → Nat → Int32 := aRow iI_797 260 (fun _ => 0)
noncomputable def jJ_261 : Nat → Nat → Int64 := aRow jJ_260 260 (fun _ => 0)
noncomputable def rR_526 : Nat → Nat → Option Nat := aRow rR_525 260 (fun _ => none)
noncomputable def rR_527 : Nat → Nat → Option Nat := aU rR_526 209 68 (some 260)
noncomputable def kK_262 : Nat → Nat := aRow kK_261 261 100
noncomputable def kL_262 : Nat → Nat := aRow kL_261 261 1488
noncomputable def iI_799 : Nat → Nat → Int32 := aRow iI_798 261 (fun _ => 0)
noncomputable def jJ_262 : Nat → Nat → Int64 := aRow jJ_261 261 (fun _ => 0)
noncomputable def rR_528 : Nat → Nat → Option Nat := aRow rR_527 261 (fun _ => none)
noncomputable def rR_529 : Nat → Nat → Option Nat := aU rR_528 209 69 (some 261)
noncomputable def kK_263 : Nat → Nat := aRow kK_262 262 100
noncomputable def kL_263 : Nat → Nat := aRow kL_262 262 740
noncomputable def iI_800 : Nat → Nat → Int32 := aRow iI_799 262 (fun _ => 0)
noncomputable def jJ_263 : Nat → Nat → Int64 := aRow jJ_262 262 (fun _ => 0)
noncomputable def rR_530 : Nat → Nat → Option Nat := aRow rR_529 262 (fun _ => none)
noncomputable def rR_531 : Nat → Nat → Option Nat := aU rR_530 209 73 (some 262)
noncomputable def jJ_264 : Nat → Nat → Int64 := aU jJ_263 209 76 (Int64.ofInt 1)
noncomputable def kK_264 : Nat → Nat := aRow kK_263 263 101
noncomputable def kL_264 : Nat → Nat := aRow kL_263 263 5
noncomputable def iI_801 : Nat → Nat → Int32 := aRow iI_800 263 (fun _ => 0)
noncomputable def jJ_265 : Nat → Nat → Int64 := aRow jJ_264 263 (fun _ => 0)
noncomputable def rR_532 : Nat → Nat → Option Nat := aRow rR_531 263 (fun _ => none)
noncomputable def iI_802 : Nat → Nat → Int32 := aU iI_801 263 0 (Int32.ofInt 102)
noncomputable def iI_803 : Nat → Nat → Int32 := aU iI_802 263 1 (Int32.ofInt 105)
noncomputable def iI_804 : Nat → Nat → Int32 := aU iI_803 263 2 (Int32.ofInt 114)
noncomputable def iI_805 : Nat → Nat → Int32 := aU iI_804 263 3 (Int32.ofInt 115)
noncomputable def iI_806 : Nat → Nat → Int32 := aU iI_805 263 4 (Int32.ofInt 116)
noncomputable def rR_533 : Nat → Nat → Option Nat := aU rR_532 209 77 (some 263)
noncomputable def kK_265 : Nat → Nat := aRow kK_264 264 101
noncomputable def kL_265 : Nat → Nat := aRow kL_264 264 4
noncomputable def iI_807 : Nat → Nat → Int32 := aRow iI_806 264 (fun _ => 0)
noncomputable def jJ_266 : Nat → Nat → Int64 := aRow jJ_265 264 (fun _ => 0)
noncomputable def rR_534 : Nat → Nat → Option Nat := aRow rR_533 264 (fun _ => none)
noncomputable def iI_808 : Nat → Nat → Int32 := aU iI_807 264 0 (Int32.ofInt 108)
noncomputable def iI_809 : Nat → Nat → Int32 := aU iI_808 264 1 (Int32.ofInt 97)
noncomputable def iI_810 : Nat → Nat → Int32 := aU iI_809 264 2 (Int32.ofInt 115)
noncomputable def iI_811 : Nat → Nat → Int32 := aU iI_810 264 3 (Int32.ofInt 116)
noncomputable def rR_535 : Nat → Nat → Option Nat := aU rR_534 209 78 (some 264)
noncomputable def kK_266 : Nat → Nat := aRow kK_265 265 101
noncomputable def kL_266 : Nat → Nat := aRow kL_265 265 5
noncomputable def iI_812 : Nat → Nat → Int32 := aRow iI_811 265 (fun _ => 0)
noncomputable def jJ_267 : Nat → Nat → Int64 := aRow jJ_266 265 (fun _ => 0)
noncomputable def rR_536 : Nat → Nat → Option Nat := aRow rR_535 265 (fun _ => none)
noncomputable def iI_813 : Nat → Nat → Int32 := aU iI_812 265 0 (Int32.ofInt 111)
noncomputable def iI_814 : Nat → Nat → Int32 := aU iI_813 265 1 (Int32.ofInt 102)
noncomputable def iI_815 : Nat → Nat → Int32 := aU iI_814 265 2 (Int32.ofInt 116)
noncomputable def iI_816 : Nat → Nat → Int32 := aU iI_815 265 3 (Int32.ofInt 101)
noncomputable def iI_817 : Nat → Nat → Int32 := aU iI_816 265 4 (Int32.ofInt 110)
noncomputable def rR_537 : Nat → Nat → Option Nat := aU rR_536 209 79 (some 265)
noncomputable def kK_267 : Nat → Nat := aRow kK_266 266 101
noncomputable def kL_267 : Nat → Nat := aRow kL_266 266 5
noncomputable def iI_818 : Nat → Nat → Int32 := aRow iI_817 266 (fun _ => 0)
noncomputable def jJ_268 : Nat → Nat → Int64 := aRow jJ_267 266 (fun _ => 0)
noncomputable def rR_538 : Nat → Nat → Option Nat := aRow rR_537 266 (fun _ => none)
noncomputable def iI_819 : Nat → Nat → Int32 := aU iI_818 266 0 (Int32.ofInt 116)
noncomputable def iI_820 : Nat → Nat → Int32 := aU iI_819 266 1 (Int32.ofInt 111)
noncomputable def iI_821 : Nat → Nat → Int32 := aU iI_820 266 2 (Int32.ofInt 116)
noncomputable def iI_822 : Nat → Nat → Int32 := aU iI_821 266 3 (Int32.ofInt 97)
noncomputable def iI_823 : Nat → Nat → Int32 := aU iI_822 266 4 (Int32.ofInt 108)
noncomputable def rR_539 : Nat → Nat → Option Nat := aU rR_538 209 80 (some 266)
noncomputable def kK_268 : Nat → Nat := aRow kK_267 267 101
noncomputable def kL_268 : Nat → Nat := aRow kL_267 267 4
noncomputable def iI_824 : Nat → Nat → Int32 := aRow iI_823 267 (fun _ => 0)
noncomputable def jJ_269 : Nat → Nat → Int64 := aRow jJ_268 267 (fun _ => 0)
noncomputable def rR_540 : Nat → Nat → Option Nat := aRow rR_539 267 (fun _ => none)
noncomputable def iI_825 : Nat → Nat → Int32 := aU iI_824 267 0 (Int32.ofInt 109)
noncomputable def iI_826 : Nat → Nat → Int32 := aU iI_825 267 1 (Int32.ofInt 111)
noncomputable def iI_827 : Nat → Nat → Int32 := aU iI_826 267 2 (Int32.ofInt 115)
noncomputable def iI_828 : Nat → Nat → Int32 := aU iI_827 267 3 (Int32.ofInt 116)
noncomputable def rR_541 : Nat → Nat → Option Nat := aU rR_540 209 81 (some 267)
noncomputable def kK_269 : Nat → Nat := aRow kK_268 268 101
noncomputable def kL_269 : Nat → Nat := aRow kL_268 268 5
noncomputable def iI_829 : Nat → Nat → Int32 := aRow iI_828 268 (fun _ => 0)
noncomputable def jJ_270 : Nat → Nat → Int64 := aRow jJ_269 268 (fun _ => 0)
noncomputable def rR_542 : Nat → Nat → Option Nat := aRow rR_541 268 (fun _ => none)
noncomputable def iI_830 : Nat → Nat → Int32 := aU iI_829 268 0 (Int32.ofInt 108)
noncomputable def iI_831 : Nat → Nat → Int32 := aU iI_830 268 1 (Int32.ofInt 101)
noncomputable def iI_832 : Nat → Nat → Int32 := aU iI_831 268 2 (Int32.ofInt 97)
noncomputable def iI_833 : Nat → Nat → Int32 := aU iI_832 268 3 (Int32.ofInt 115)
noncomputable def iI_834 : Nat → Nat → Int32 := aU iI_833 268 4 (Int32.ofInt 116)
noncomputable def rR_543 : Nat → Nat → Option Nat := aU rR_542 209 82 (some 268)
noncomputable def kK_270 : Nat → Nat := aRow kK_269 269 101
noncomputable def kL_270 : Nat → Nat := aRow kL_269 269 3
noncomputable def iI_835 : Nat → Nat → Int32 := aRow iI_834 269 (fun _ => 0)
noncomputable def jJ_271 : Nat → Nat → Int64 := aRow jJ_270 269 (fun _ => 0)
noncomputable def rR_544 : Nat → Nat → Option Nat := aRow rR_543 269 (fun _ => none)
noncomputable def iI_836 : Nat → Nat → Int32 := aU iI_835 269 0 (Int32.ofInt 110)
noncomputable def iI_837 : Nat → Nat → Int32 := aU iI_836 269 1 (Int32.ofInt 111)
noncomputable def iI_838 : Nat → Nat → Int32 := aU iI_837 269 2 (Int32.ofInt 116)
noncomputable def rR_545 : Nat → Nat → Option Nat := aU rR_544 209 83 (some 269)
noncomputable def kK_271 : Nat → Nat := aRow kK_270 270 101
noncomputable def kL_271 : Nat → Nat := aRow kL_270 270 3
noncomputable def iI_839 : Nat → Nat → Int32 := aRow iI_838 270 (fun _ => 0)
noncomputable def jJ_272 : Nat → Nat → Int64 := aRow jJ_271 270 (fun _ => 0)
noncomputable def rR_546 : Nat → Nat → Option Nat := aRow rR_545 270 (fun _ => none)
noncomputable def iI_840 : Nat → Nat → Int32 := aU iI_839 270 0 (Int32.ofInt 97)
noncomputable def iI_841 : Nat → Nat → Int32 := aU iI_840 270 1 (Int32.ofInt 110)
noncomputable def iI_842 : Nat → Nat → Int32 := aU iI_841 270 2 (Int32.ofInt 100)
noncomputable def rR_547 : Nat → Nat → Option Nat := aU rR_546 209 84 (some 270)
noncomputable def kK_272 : Nat → Nat := aRow kK_271 271 101
noncomputable def kL_272 : Nat → Nat := aRow kL_271 271 2
noncomputable def iI_843 : Nat → Nat → Int32 := aRow iI_842 271 (fun _ => 0)
noncomputable def jJ_273 : Nat → Nat → Int64 := aRow jJ_272 271 (fun _ => 0)
noncomputable def rR_548 : Nat → Nat → Option Nat := aRow rR_547 271 (fun _ => none)
noncomputable def iI_844 : Nat → Nat → Int32 := aU iI_843 271 0 (Int32.ofInt 111)
noncomputable def iI_845 : Nat → Nat → Int32 := aU iI_844 271 1 (Int32.ofInt 114)
noncomputable def rR_549 : Nat → Nat → Option Nat := aU rR_548 209 85 (some 271)
noncomputable def kK_273 : Nat → Nat := aRow kK_272 272 101
noncomputable def kL_273 : Nat → Nat := aRow kL_272 272 3
noncomputable def iI_846 : Nat → Nat → Int32 := aRow iI_845 272 (fun _ => 0)
noncomputable def jJ_274 : Nat → Nat → Int64 := aRow jJ_273 272 (fun _ => 0)
noncomputable def rR_550 : Nat → Nat → Option Nat := aRow rR_549 272 (fun _ => none)
noncomputable def iI_847 : Nat → Nat → Int32 := aU iI_846 272 0 (Int32.ofInt 97)
noncomputable def iI_848 : Nat → Nat → Int32 := aU iI_847 272 1 (Int32.ofInt 108)
noncomputable def iI_849 : Nat → Nat → Int32 := aU iI_848 272 2 (Int32.ofInt 108)
noncomputable def rR_551 : Nat → Nat → Option Nat := aU rR_550 209 86 (some 272)
noncomputable def kK_274 : Nat → Nat := aRow kK_273 273 101
noncomputable def kL_274 : Nat → Nat := aRow kL_273 273 3
noncomputable def iI_850 : Nat → Nat → Int32 := aRow iI_849 273 (fun _ => 0)
noncomputable def jJ_275 : Nat → Nat → Int64 := aRow jJ_274 273 (fun _ => 0)
noncomputable def rR_552 : Nat → Nat → Option Nat := aRow rR_551 273 (fun _ => none)
noncomputable def iI_851 : Nat → Nat → Int32 := aU iI_850 273 0 (Int32.ofInt 109)
noncomputable def iI_852 : Nat → Nat → Int32 := aU iI_851 273 1 (Int32.ofInt 105)
noncomputable def iI_853 : Nat → Nat → Int32 := aU iI_852 273 2 (Int32.ofInt 110)
noncomputable def rR_553 : Nat → Nat → Option Nat := aU rR_552 209 87 (some 273)
noncomputable def kK_275 : Nat → Nat := aRow kK_274 274 101
noncomputable def kL_275 : Nat → Nat := aRow kL_274 274 3
noncomputable def iI_854 : Nat → Nat → Int32 := aRow iI_853 274 (fun _ => 0)
noncomputable def jJ_276 : Nat → Nat → Int64 := aRow jJ_275 274 (fun _ => 0)
noncomputable def rR_554 : Nat → Nat → Option Nat := aRow rR_553 274 (fun _ => none)
noncomputable def iI_855 : Nat → Nat → Int32 := aU iI_854 274 0 (Int32.ofInt 109)
noncomputable def iI_856 : Nat → Nat → Int32 := aU iI_855 274 1 (Int32.ofInt 97)
noncomputable def iI_857 : Nat → Nat → Int32 := aU iI_856 274 2 (Int32.ofInt 120)
noncomputable def rR_555 : Nat → Nat → Option Nat := aU rR_554 209 88 (some 274)
noncomputable def kK_276 : Nat → Nat := aRow kK_275 275 101
noncomputable def kL_276 : Nat → Nat := aRow kL_275 275 5
noncomputable def iI_858 : Nat → Nat → Int32 := aRow iI_857 275 (fun _ => 0)
noncomputable def jJ_277 : Nat → Nat → Int64 := aRow jJ_276 275 (fun _ => 0)
noncomputable def rR_556 : Nat → Nat → Option Nat := aRow rR_555 275 (fun _ => none)
noncomputable def iI_859 : Nat → Nat → Int32 := aU iI_858 275 0 (Int32.ofInt 104)
noncomputable def iI_860 : Nat → Nat → Int32 := aU iI_859 275 1 (Int32.ofInt 97)
noncomputable def iI_861 : Nat → Nat → Int32 := aU iI_860 275 2 (Int32.ofInt 98)
noncomputable def iI_862 : Nat → Nat → Int32 := aU iI_861 275 3 (Int32.ofInt 105)
noncomputable def iI_863 : Nat → Nat → Int32 := aU iI_862 275 4 (Int32.ofInt 116)
noncomputable def rR_557 : Nat → Nat → Option Nat := aU rR_556 209 89 (some 275)
noncomputable def kK_277 : Nat → Nat := aRow kK_276 276 101
noncomputable def kL_277 : Nat → Nat := aRow kL_276 276 5
noncomputable def iI_864 : Nat → Nat → Int32 := aRow iI_863 276 (fun _ => 0)
noncomputable def jJ_278 : Nat → Nat → Int64 := aRow jJ_277 276 (fun _ => 0)
noncomputable def rR_558 : Nat → Nat → Option Nat := aRow rR_557 276 (fun _ => none)
noncomputable def iI_865 : Nat → Nat → Int32 := aU iI_864 276 0 (Int32.ofInt 116)
noncomputable def iI_866 : Nat → Nat → Int32 := aU iI_865 276 1 (Int32.ofInt 105)
noncomputable def iI_867 : Nat → Nat → Int32 := aU iI_866 276 2 (Int32.ofInt 103)
noncomputable def iI_868 : Nat → Nat → Int32 := aU iI_867 276 3 (Int32.ofInt 104)
noncomputable def iI_869 : Nat → Nat → Int32 := aU iI_868 276 4 (Int32.ofInt 116)
noncomputable def rR_559 : Nat → Nat → Option Nat := aU rR_558 209 90 (some 276)
noncomputable def kK_278 : Nat → Nat := aRow kK_277 277 101
noncomputable def kL_278 : Nat → Nat := aRow kL_277 277 6
noncomputable def iI_870 : Nat → Nat → Int32 := aRow iI_869 277 (fun _ => 0)
noncomputable def jJ_279 : Nat → Nat → Int64 := aRow jJ_278 277 (fun _ => 0)
noncomputable def rR_560 : Nat → Nat → Option Nat := aRow rR_559 277 (fun _ => none)
noncomputable def iI_871 : Nat → Nat → Int32 := aU iI_870 277 0 (Int32.ofInt 119)
noncomputable def iI_872 : Nat → Nat → Int32 := aU iI_871 277 1 (Int32.ofInt 97)
noncomputable def iI_873 : Nat → Nat → Int32 := aU iI_872 277 2 (Int32.ofInt 108)
noncomputable def iI_874 : Nat → Nat → Int32 := aU iI_873 277 3 (Int32.ofInt 107)
noncomputable def iI_875 : Nat → Nat → Int32 := aU iI_874 277 4 (Int32.ofInt 101)
noncomputable def iI_876 : Nat → Nat → Int32 := aU iI_875 277 5 (Int32.ofInt 100)
noncomputable def rR_561 : Nat → Nat → Option Nat := aU rR_560 209 91 (some 277)
noncomputable def kK_279 : Nat → Nat := aRow kK_278 278 101
noncomputable def kL_279 : Nat → Nat := aRow kL_278 278 4
noncomputable def iI_877 : Nat → Nat → Int32 := aRow iI_876 278 (fun _ => 0)
noncomputable def jJ_280 : Nat → Nat → Int64 := aRow jJ_279 278 (fun _ => 0)
noncomputable def rR_562 : Nat → Nat → Option Nat := aRow rR_561 278 (fun _ => none)
noncomputable def iI_878 : Nat → Nat → Int32 := aU iI_877 278 0 (Int32.ofInt 119)
noncomputable def iI_879 : Nat → Nat → Int32 := aU iI_878 278 1 (Int32.ofInt 105)
noncomputable def iI_880 : Nat → Nat → Int32 := aU iI_879 278 2 (Int32.ofInt 108)
noncomputable def iI_881 : Nat → Nat → Int32 := aU iI_880 278 3 (Int32.ofInt 108)
noncomputable def rR_563 : Nat → Nat → Option Nat := aU rR_562 209 92 (some 278)
noncomputable def kK_280 : Nat → Nat := aRow kK_279 279 101
noncomputable def kL_280 : Nat → Nat := aRow kL_279 279 3
noncomputable def iI_882 : Nat → Nat → Int32 := aRow iI_881 279 (fun _ => 0)
noncomputable def jJ_281 : Nat → Nat → Int64 := aRow jJ_280 279 (fun _ => 0)
noncomputable def rR_564 : Nat → Nat → Option Nat := aRow rR_563 279 (fun _ => none)
noncomputable def iI_883 : Nat → Nat → Int32 := aU iI_882 279 0 (Int32.ofInt 100)
noncomputable def iI_884 : Nat → Nat → Int32 := aU iI_883 279 1 (Int32.ofInt 97)
noncomputable def iI_885 : Nat → Nat → Int32 := aU iI_884 279 2 (Int32.ofInt 121)
noncomputable def rR_565 : Nat → Nat → Option Nat := aU rR_564 209 93 (some 279)
noncomputable def kK_281 : Nat → Nat := aRow kK_280 280 101
noncomputable def kL_281 : Nat → Nat := aRow kL_280 280 6
noncomputable def iI_886 : Nat → Nat → Int32 := aRow iI_885 280 (fun _ => 0)
noncomputable def jJ_282 : Nat → Nat → Int64 := aRow jJ_281 280 (fun _ => 0)
noncomputable def rR_566 : Nat → Nat → Option Nat := aRow rR_565 280 (fun _ => none)
noncomputable def iI_887 : Nat → Nat → Int32 := aU iI_886 280 0 (Int32.ofInt 110)
noncomputable def iI_888 : Nat → Nat → Int32 := aU iI_887 280 1 (Int32.ofInt 117)
noncomputable def iI_889 : Nat → Nat → Int32 := aU iI_888 280 2 (Int32.ofInt 109)
noncomputable def iI_890 : Nat → Nat → Int32 := aU iI_889 280 3 (Int32.ofInt 98)
noncomputable def iI_891 : Nat → Nat → Int32 := aU iI_890 280 4 (Int32.ofInt 101)
noncomputable def iI_892 : Nat → Nat → Int32 := aU iI_891 280 5 (Int32.ofInt 114)
noncomputable def rR_567 : Nat → Nat → Option Nat := aU rR_566 209 94 (some 280)
noncomputable def kK_282 : Nat → Nat := aRow kK_281 281 101
noncomputable def kL_282 : Nat → Nat := aRow kL_281 281 4
noncomputable def iI_893 : Nat → Nat → Int32 := aRow iI_892 281 (fun _ => 0)
noncomputable def jJ_283 : Nat → Nat → Int64 := aRow jJ_282 281 (fun _ => 0)
noncomputable def rR_568 : Nat → Nat → Option Nat := aRow rR_567 281 (fun _ => none)
noncomputable def iI_894 : Nat → Nat → Int32 := aU iI_893 281 0 (Int32.ofInt 115)
noncomputable def iI_895 : Nat → Nat → Int32 := aU iI_894 281 1 (Int32.ofInt 105)
noncomputable def iI_896 : Nat → Nat → Int32 := aU iI_895 281 2 (Int32.ofInt 122)
noncomputable def iI_897 : Nat → Nat → Int32 := aU iI_896 281 3 (Int32.ofInt 101)
noncomputable def rR_569 : Nat → Nat → Option Nat := aU rR_568 209 95 (some 281)
noncomputable def kK_283 : Nat → Nat := aRow kK_282 282 101
noncomputable def kL_283 : Nat → Nat := aRow kL_282 282 4
noncomputable def iI_898 : Nat → Nat → Int32 := aRow iI_897 282 (fun _ => 0)
noncomputable def jJ_284 : Nat → Nat → Int64 := aRow jJ_283 282 (fun _ => 0)
noncomputable def rR_570 : Nat → Nat → Option Nat := aRow rR_569 282 (fun _ => none)
noncomputable def iI_899 : Nat → Nat → Int32 := aU iI_898 282 0 (Int32.ofInt 119)
noncomputable def iI_900 : Nat → Nat → Int32 := aU iI_899 282 1 (Int32.ofInt 101)
noncomputable def iI_901 : Nat → Nat → Int32 := aU iI_900 282 2 (Int32.ofInt 110)
noncomputable def iI_902 : Nat → Nat → Int32 := aU iI_901 282 3 (Int32.ofInt 116)
noncomputable def rR_571 : Nat → Nat → Option Nat := aU rR_570 209 96 (some 282)
noncomputable def kK_284 : Nat → Nat := aRow kK_283 283 101
noncomputable def kL_284 : Nat → Nat := aRow kL_283 283 5
noncomputable def iI_903 : Nat → Nat → Int32 := aRow iI_902 283 (fun _ => 0)
noncomputable def jJ_285 : Nat → Nat → Int64 := aRow jJ_284 283 (fun _ => 0)
noncomputable def rR_572 : Nat → Nat → Option Nat := aRow rR_571 283 (fun _ => none)
noncomputable def iI_904 : Nat → Nat → Int32 := aU iI_903 283 0 (Int32.ofInt 116)
noncomputable def iI_905 : Nat → Nat → Int32 := aU iI_904 283 1 (Int32.ofInt 104)
noncomputable def iI_906 : Nat → Nat → Int32 := aU iI_905 283 2 (Int32.ofInt 101)
noncomputable def iI_907 : Nat → Nat → Int32 := aU iI_906 283 3 (Int32.ofInt 114)
noncomputable def iI_908 : Nat → Nat → Int32 := aU iI_907 283 4 (Int32.ofInt 101)
noncomputable def rR_573 : Nat → Nat → Option Nat := aU rR_572 209 97 (some 283)
noncomputable def kK_285 : Nat → Nat := aRow kK_284 284 101
noncomputable def kL_285 : Nat → Nat := aRow kL_284 284 3
noncomputable def iI_909 : Nat → Nat → Int32 := aRow iI_908 284 (fun _ => 0)
noncomputable def jJ_286 : Nat → Nat → Int64 := aRow jJ_285 284 (fun _ => 0)
noncomputable def rR_574 : Nat → Nat → Option Nat := aRow rR_573 284 (fun _ => none)
noncomputable def iI_910 : Nat → Nat → Int32 := aU iI_909 284 0 (Int32.ofInt 102)
noncomputable def iI_911 : Nat → Nat → Int32 := aU iI_910 284 1 (Int32.ofInt 97)
noncomputable def iI_912 : Nat → Nat → Int32 := aU iI_911 284 2 (Int32.ofInt 114)
noncomputable def rR_575 : Nat → Nat → Option Nat := aU rR_574 209 98 (some 284)
noncomputable def kK_286 : Nat → Nat := aRow kK_285 285 100
noncomputable def kL_286 : Nat → Nat := aRow kL_285 285 1700
noncomputable def iI_913 : Nat → Nat → Int32 := aRow iI_912 285 (fun _ => 0)
noncomputable def jJ_287 : Nat → Nat → Int64 := aRow jJ_286 285 (fun _ => 0)
noncomputable def rR_576 : Nat → Nat → Option Nat := aRow rR_575 285 (fun _ => none)
noncomputable def rR_577 : Nat → Nat → Option Nat := aU rR_576 209 99 (some 285)
noncomputable def kK_287 : Nat → Nat := aRow kK_286 286 100
noncomputable def kL_287 : Nat → Nat := aRow kL_286 286 1700
noncomputable def iI_914 : Nat → Nat → Int32 := aRow iI_913 286 (fun _ => 0)
noncomputable def jJ_288 : Nat → Nat → Int64 := aRow jJ_287 286 (fun _ => 0)
noncomputable def rR_578 : Nat → Nat → Option Nat := aRow rR_577 286 (fun _ => none)
noncomputable def rR_579 : Nat → Nat → Option Nat := aU rR_578 209 101 (some 286)
noncomputable def kK_288 : Nat → Nat := aRow kK_287 287 102
noncomputable def kL_288 : Nat → Nat := aRow kL_287 287 1700
noncomputable def iI_915 : Nat → Nat → Int32 := aRow iI_914 287 (fun _ => 0)
noncomputable def jJ_289 : Nat → Nat → Int64 := aRow jJ_288 287 (fun _ => 0)
noncomputable def rR_580 : Nat → Nat → Option Nat := aRow rR_579 287 (fun _ => none)
noncomputable def rR_581 : Nat → Nat → Option Nat := aU rR_580 209 105 (some 287)
noncomputable def kK_289 : Nat → Nat := aRow kK_288 288 100
noncomputable def kL_289 : Nat → Nat := aRow kL_288 288 44
noncomputable def iI_916 : Nat → Nat → Int32 := aRow iI_915 288 (fun _ => 0)
noncomputable def jJ_290 : Nat → Nat → Int64 := aRow jJ_289 288 (fun _ => 0)
noncomputable def rR_582 : Nat → Nat → Option Nat := aRow rR_581 288 (fun _ => none)
noncomputable def rR_583 : Nat → Nat → Option Nat := aU rR_582 209 109 (some 288)
theorem eM_0 : aMs 0 = some aM0 := rfl
theorem eM_4 : aMs 4 = some aM4 := rfl
theorem eM_11 : aMs 11 = some aM11 := rfl
theorem eM_18 : aMs 18 = some aM18 := rfl
theorem eM_23 : aMs 23 = some aM23 := rfl
theorem eM_38 : aMs 38 = some aM38 := rfl
theorem eM_49 : aMs 49 = some aM49 := rfl
theorem eM_55 : aMs 55 = some aM55 := rfl
theorem eM_72 : aMs 72 = some aM72 := rfl
theorem eM_86 : aMs 86 = some aM86 := rfl
theorem eM_98 : aMs 98 = some aM98 := rfl
theorem eM_100 : aMs 100 = some aM100 := rfl
theorem eM_149 : aMs 149 = some aM149 := rfl
set_option maxRecDepth 100000 in
theorem eM_292 : aMs 292 = some aM292 := rfl
set_option maxRecDepth 100000 in
theorem eM_293 : aMs 293 = some aM293 := rfl
set_option maxRecDepth 100000 in
theorem eM_294 : aMs 294 = some aM294 := rfl
theorem eM_295 : aMs 295 = some aM295 := hM295
