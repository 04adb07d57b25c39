/-! ===== the cells behind the two constructors (wip/whole/emit_lay.py), and the frozen memory ===== -/
def shL : List (Nat × Nat) := [(11, 12), (10, 12), (20, 24), (20, 24), (21, 6), (24, 6), (23, 3), (20, 576), (1, 6), (20, 60), (20, 60), (20, 60), (20, 1440), (20, 1440), (9, 5), (20, 24), (20, 24), (20, 96), (9, 5), (20, 24), (20, 24), (20, 96), (9, 5), (20, 24), (20, 24), (20, 96), (9, 5), (20, 24), (20, 24), (20, 96), (9, 5), (20, 24), (20, 24), (20, 96), (9, 5), (20, 24), (20, 24), (20, 96), (6, 10), (20, 16), (20, 16), (20, 16), (20, 16), (20, 400), (20, 5), (20, 32), (6, 10), (20, 16), (20, 16), (20, 16), (20, 16), (20, 400), (20, 5), (20, 32), (6, 10), (20, 16), (20, 16), (20, 16), (20, 16), (20, 400), (20, 5), (20, 32), (10, 12), (20, 24), (20, 24), (21, 6), (24, 6), (23, 3), (20, 576), (1, 6), (20, 60), (20, 60), (20, 60), (20, 1440), (20, 1440), (9, 5), (20, 24), (20, 24), (20, 96), (9, 5), (20, 24), (20, 24), (20, 96), (9, 5), (20, 24), (20, 24), (20, 96), (9, 5), (20, 24), (20, 24), (20, 96), (9, 5), (20, 24), (20, 24), (20, 96), (9, 5), (20, 24), (20, 24), (20, 96), (6, 10), (20, 16), (20, 16), (20, 16), (20, 16), (20, 400), (20, 5), (20, 32), (6, 10), (20, 16), (20, 16), (20, 16), (20, 16), (20, 400), (20, 5), (20, 32), (6, 10), (20, 16), (20, 16), (20, 16), (20, 16), (20, 400), (20, 5), (20, 32), (20, 400), (5, 5), (8, 8), (20, 401), (20, 401), (20, 401), (6, 10), (20, 16), (20, 16), (20, 16), (20, 16), (20, 400), (20, 5), (20, 32), (3, 6), (20, 24), (20, 4), (0, 10), (9, 5), (20, 24), (20, 24), (20, 96), (9, 5), (20, 24), (20, 24), (20, 96), (3, 6), (20, 24), (20, 4), (20, 24), (20, 12), (20, 12), (20, 12), (20, 12), (20, 24), (4, 2), (21, 8192), (20, 8192), (2, 10), (9, 5), (20, 24), (20, 24), (20, 96), (3, 6), (20, 24), (20, 4), (20, 7), (20, 7), (7, 5), (20, 24), (9, 5), (20, 24), (20, 24), (20, 96), (12, 46), (20, 7160), (20, 7160), (20, 64), (20, 820), (20, 400), (20, 420), (20, 6), (22, 64), (20, 24), (20, 24), (20, 24), (20, 24), (20, 24), (20, 24), (20, 24), (20, 24), (22, 24), (22, 24), (20, 7), (20, 24), (20, 24), (20, 24), (20, 24)]
def SH (a : Nat) : Nat × Nat := shL.getD a (99, 0)
def rrL : List (List (Option Nat)) := [[some 1, some 62, none, some 123, none, some 124, some 137, some 140, some 158, some 161, some 171, some 173], [none, none, none, none, none, some 2, some 3, some 4, some 5, some 6, some 7, some 8], [], [], [], [some 14, some 18, some 22, some 26, some 30, some 34], [some 38, some 46, some 54], [], [none, some 9, some 10, some 11, some 12, some 13], [], [], [], [], [], [none, none, some 15, some 16, some 17], [], [], [], [none, none, some 19, some 20, some 21], [], [], [], [none, none, some 23, some 24, some 25], [], [], [], [none, none, some 27, some 28, some 29], [], [], [], [none, none, some 31, some 32, some 33], [], [], [], [none, none, some 35, some 36, some 37], [], [], [], [none, some 39, some 40, some 41, some 42, none, some 43, some 44, some 45], [], [], [], [], [], [], [], [none, some 47, some 48, some 49, some 50, none, some 51, some 52, some 53], [], [], [], [], [], [], [], [none, some 55, some 56, some 57, some 58, none, some 59, some 60, some 61], [], [], [], [], [], [], [], [none, none, none, none, none, some 63, some 64, some 65, some 66, some 67, some 68, some 69], [], [], [], [some 75, some 79, some 83, some 87, some 91, some 95], [some 99, some 107, some 115], [], [none, some 70, some 71, some 72, some 73, some 74], [], [], [], [], [], [none, none, some 76, some 77, some 78], [], [], [], [none, none, some 80, some 81, some 82], [], [], [], [none, none, some 84, some 85, some 86], [], [], [], [none, none, some 88, some 89, some 90], [], [], [], [none, none, some 92, some 93, some 94], [], [], [], [none, none, some 96, some 97, some 98], [], [], [], [none, some 100, some 101, some 102, some 103, none, some 104, some 105, some 106], [], [], [], [], [], [], [], [none, some 108, some 109, some 110, some 111, none, some 112, some 113, some 114], [], [], [], [], [], [], [], [none, some 116, some 117, some 118, some 119, none, some 120, some 121, some 122], [], [], [], [], [], [], [], [], [some 125, none, none, none, some 129], [some 126, some 127, some 128], [], [], [], [none, some 130, some 131, some 132, some 133, none, some 134, some 135, some 136], [], [], [], [], [], [], [], [some 138, some 139], [], [], [some 141, some 145, some 149, some 152, none, some 153, some 154, some 155, some 156, some 157], [none, none, some 142, some 143, some 144], [], [], [], [none, none, some 146, some 147, some 148], [], [], [], [some 150, some 151], [], [], [], [], [], [], [], [], [some 159, some 160], [], [], [some 162, some 166, some 169, some 170], [none, none, some 163, some 164, some 165], [], [], [], [some 167, some 168], [], [], [], [], [some 172], [], [none, none, some 174, some 175, some 176], [], [], [], [some 178, some 179, none, some 180, some 181, some 182, some 183, some 184, some 185, none, none, none, none, none, none, none, none, none, none, none, none, none, some 186, some 187, some 188, some 189, none, none, some 190, some 191, some 192, some 193, none, none, some 194, some 195, some 196, none, none, none, none, some 197, none, some 198, some 199, some 200], [], [], [], [], [], [], [], [], [], [], [], [], [], [], [], [], [], [], [], [], [], [], []]
def RR (a k : Nat) : Option Nat := (rrL.getD a []).getD k none
def NN : Nat := 201
def ZZ : Nat := 48153
def mk (I : Nat → Nat → Int32) (J : Nat → Nat → Int64) : Mem := (NN, ZZ, SH, RR, I, J)
section LY
variable {I : Nat → Nat → Int32} {J : Nat → Nat → Int64} {a b k : Nat} {v : Int32} {u : Int64} {f : Nat → Int32} {g : Nat → Int64}
theorem k_sh : m_sh (mk I J) = SH := rfl
theorem k_R : m_R (mk I J) = RR := rfl
theorem k_I : m_I (mk I J) = I := rfl
theorem k_J : m_J (mk I J) = J := rfl
theorem k_wI : m_wI (mk I J) a k v = mk (va_up I a (va_up (I a) k v)) J := rfl
theorem k_wJ : m_wJ (mk I J) a k u = mk I (va_up J a (va_up (J a) k u)) := rfl
theorem k_rI : m_rI (mk I J) a f = mk (va_up I a f) J := rfl
theorem k_rJ : m_rJ (mk I J) a g = mk I (va_up J a g) := rfl
end LY
theorem vu_eq {α : Type} {f : Nat → α} {a : Nat} {x : α} : va_up f a x a = x := if_pos rfl
theorem vu_ne {α : Type} {f : Nat → α} {a b : Nat} {x : α} (h : b ≠ a) : va_up f a x b = f b := if_neg h
theorem vu_vu {α : Type} {f : Nat → α} {a : Nat} {x y : α} : va_up (va_up f a x) a y = va_up f a y := by funext j; unfold va_up; split <;> rfl
theorem vu_id {α : Type} {f : Nat → α} {a : Nat} : va_up f a (f a) = f := by
  funext j; unfold va_up
  by_cases e : j = a
  · rw [if_pos e, e]
  · rw [if_neg e]
theorem vu_cm {α : Type} {f : Nat → α} {a b : Nat} {x y : α} (h : a ≠ b) : va_up (va_up f a x) b y = va_up (va_up f b y) a x := by
  funext j; unfold va_up
  by_cases h1 : j = b
  · have h2 : ¬ j = a := fun z => h (z.symm.trans h1)
    rw [if_pos h1, if_neg h2, if_pos h1]
  · rw [if_neg h1]; split <;> rfl
theorem SH_0 : SH 0 = (11, 12) := rfl
theorem SH_1 : SH 1 = (10, 12) := rfl
theorem SH_2 : SH 2 = (20, 24) := rfl
theorem SH_3 : SH 3 = (20, 24) := rfl
theorem SH_4 : SH 4 = (21, 6) := rfl
theorem SH_5 : SH 5 = (24, 6) := rfl
theorem SH_6 : SH 6 = (23, 3) := rfl
theorem SH_7 : SH 7 = (20, 576) := rfl
theorem SH_8 : SH 8 = (1, 6) := rfl
theorem SH_9 : SH 9 = (20, 60) := rfl
theorem SH_10 : SH 10 = (20, 60) := rfl
theorem SH_11 : SH 11 = (20, 60) := rfl
theorem SH_12 : SH 12 = (20, 1440) := rfl
theorem SH_13 : SH 13 = (20, 1440) := rfl
theorem SH_14 : SH 14 = (9, 5) := rfl
theorem SH_15 : SH 15 = (20, 24) := rfl
theorem SH_16 : SH 16 = (20, 24) := rfl
theorem SH_17 : SH 17 = (20, 96) := rfl
theorem SH_18 : SH 18 = (9, 5) := rfl
theorem SH_19 : SH 19 = (20, 24) := rfl
theorem SH_20 : SH 20 = (20, 24) := rfl
theorem SH_21 : SH 21 = (20, 96) := rfl
theorem SH_22 : SH 22 = (9, 5) := rfl
theorem SH_23 : SH 23 = (20, 24) := rfl
theorem SH_24 : SH 24 = (20, 24) := rfl
theorem SH_25 : SH 25 = (20, 96) := rfl
theorem SH_26 : SH 26 = (9, 5) := rfl
theorem SH_27 : SH 27 = (20, 24) := rfl
theorem SH_28 : SH 28 = (20, 24) := rfl
theorem SH_29 : SH 29 = (20, 96) := rfl
theorem SH_30 : SH 30 = (9, 5) := rfl
theorem SH_31 : SH 31 = (20, 24) := rfl
theorem SH_32 : SH 32 = (20, 24) := rfl
theorem SH_33 : SH 33 = (20, 96) := rfl
theorem SH_34 : SH 34 = (9, 5) := rfl
theorem SH_35 : SH 35 = (20, 24) := rfl
theorem SH_36 : SH 36 = (20, 24) := rfl
theorem SH_37 : SH 37 = (20, 96) := rfl
theorem SH_38 : SH 38 = (6, 10) := rfl
theorem SH_39 : SH 39 = (20, 16) := rfl
theorem SH_40 : SH 40 = (20, 16) := rfl
theorem SH_41 : SH 41 = (20, 16) := rfl
theorem SH_42 : SH 42 = (20, 16) := rfl
theorem SH_43 : SH 43 = (20, 400) := rfl
theorem SH_44 : SH 44 = (20, 5) := rfl
theorem SH_45 : SH 45 = (20, 32) := rfl
theorem SH_46 : SH 46 = (6, 10) := rfl
theorem SH_47 : SH 47 = (20, 16) := rfl
theorem SH_48 : SH 48 = (20, 16) := rfl
theorem SH_49 : SH 49 = (20, 16) := rfl
theorem SH_50 : SH 50 = (20, 16) := rfl
theorem SH_51 : SH 51 = (20, 400) := rfl
theorem SH_52 : SH 52 = (20, 5) := rfl
theorem SH_53 : SH 53 = (20, 32) := rfl
theorem SH_54 : SH 54 = (6, 10) := rfl
theorem SH_55 : SH 55 = (20, 16) := rfl
theorem SH_56 : SH 56 = (20, 16) := rfl
theorem SH_57 : SH 57 = (20, 16) := rfl
theorem SH_58 : SH 58 = (20, 16) := rfl
theorem SH_59 : SH 59 = (20, 400) := rfl
theorem SH_60 : SH 60 = (20, 5) := rfl
theorem SH_61 : SH 61 = (20, 32) := rfl
theorem SH_62 : SH 62 = (10, 12) := rfl
theorem SH_63 : SH 63 = (20, 24) := rfl
theorem SH_64 : SH 64 = (20, 24) := rfl
theorem SH_65 : SH 65 = (21, 6) := rfl
theorem SH_66 : SH 66 = (24, 6) := rfl
theorem SH_67 : SH 67 = (23, 3) := rfl
theorem SH_68 : SH 68 = (20, 576) := rfl
theorem SH_69 : SH 69 = (1, 6) := rfl
theorem SH_70 : SH 70 = (20, 60) := rfl
theorem SH_71 : SH 71 = (20, 60) := rfl
theorem SH_72 : SH 72 = (20, 60) := rfl
theorem SH_73 : SH 73 = (20, 1440) := rfl
theorem SH_74 : SH 74 = (20, 1440) := rfl
theorem SH_75 : SH 75 = (9, 5) := rfl
theorem SH_76 : SH 76 = (20, 24) := rfl
theorem SH_77 : SH 77 = (20, 24) := rfl
theorem SH_78 : SH 78 = (20, 96) := rfl
theorem SH_79 : SH 79 = (9, 5) := rfl
theorem SH_80 : SH 80 = (20, 24) := rfl
theorem SH_81 : SH 81 = (20, 24) := rfl
theorem SH_82 : SH 82 = (20, 96) := rfl
theorem SH_83 : SH 83 = (9, 5) := rfl
theorem SH_84 : SH 84 = (20, 24) := rfl
theorem SH_85 : SH 85 = (20, 24) := rfl
theorem SH_86 : SH 86 = (20, 96) := rfl
theorem SH_87 : SH 87 = (9, 5) := rfl
theorem SH_88 : SH 88 = (20, 24) := rfl
theorem SH_89 : SH 89 = (20, 24) := rfl
theorem SH_90 : SH 90 = (20, 96) := rfl
theorem SH_91 : SH 91 = (9, 5) := rfl
theorem SH_92 : SH 92 = (20, 24) := rfl
theorem SH_93 : SH 93 = (20, 24) := rfl
theorem SH_94 : SH 94 = (20, 96) := rfl
theorem SH_95 : SH 95 = (9, 5) := rfl
theorem SH_96 : SH 96 = (20, 24) := rfl
theorem SH_97 : SH 97 = (20, 24) := rfl
theorem SH_98 : SH 98 = (20, 96) := rfl
theorem SH_99 : SH 99 = (6, 10) := rfl
theorem SH_100 : SH 100 = (20, 16) := rfl
theorem SH_101 : SH 101 = (20, 16) := rfl
theorem SH_102 : SH 102 = (20, 16) := rfl
theorem SH_103 : SH 103 = (20, 16) := rfl
theorem SH_104 : SH 104 = (20, 400) := rfl
theorem SH_105 : SH 105 = (20, 5) := rfl
theorem SH_106 : SH 106 = (20, 32) := rfl
theorem SH_107 : SH 107 = (6, 10) := rfl
theorem SH_108 : SH 108 = (20, 16) := rfl
theorem SH_109 : SH 109 = (20, 16) := rfl
theorem SH_110 : SH 110 = (20, 16) := rfl
theorem SH_111 : SH 111 = (20, 16) := rfl
theorem SH_112 : SH 112 = (20, 400) := rfl
theorem SH_113 : SH 113 = (20, 5) := rfl
theorem SH_114 : SH 114 = (20, 32) := rfl
theorem SH_115 : SH 115 = (6, 10) := rfl
theorem SH_116 : SH 116 = (20, 16) := rfl
theorem SH_117 : SH 117 = (20, 16) := rfl
theorem SH_118 : SH 118 = (20, 16) := rfl
theorem SH_119 : SH 119 = (20, 16) := rfl
theorem SH_120 : SH 120 = (20, 400) := rfl
theorem SH_121 : SH 121 = (20, 5) := rfl
theorem SH_122 : SH 122 = (20, 32) := rfl
theorem SH_123 : SH 123 = (20, 400) := rfl
theorem SH_124 : SH 124 = (5, 5) := rfl
theorem SH_125 : SH 125 = (8, 8) := rfl
theorem SH_126 : SH 126 = (20, 401) := rfl
theorem SH_127 : SH 127 = (20, 401) := rfl
theorem SH_128 : SH 128 = (20, 401) := rfl
theorem SH_129 : SH 129 = (6, 10) := rfl
theorem SH_130 : SH 130 = (20, 16) := rfl
theorem SH_131 : SH 131 = (20, 16) := rfl
theorem SH_132 : SH 132 = (20, 16) := rfl
theorem SH_133 : SH 133 = (20, 16) := rfl
theorem SH_134 : SH 134 = (20, 400) := rfl
theorem SH_135 : SH 135 = (20, 5) := rfl
theorem SH_136 : SH 136 = (20, 32) := rfl
theorem SH_137 : SH 137 = (3, 6) := rfl
theorem SH_138 : SH 138 = (20, 24) := rfl
theorem SH_139 : SH 139 = (20, 4) := rfl
theorem SH_140 : SH 140 = (0, 10) := rfl
theorem SH_141 : SH 141 = (9, 5) := rfl
theorem SH_142 : SH 142 = (20, 24) := rfl
theorem SH_143 : SH 143 = (20, 24) := rfl
theorem SH_144 : SH 144 = (20, 96) := rfl
theorem SH_145 : SH 145 = (9, 5) := rfl
theorem SH_146 : SH 146 = (20, 24) := rfl
theorem SH_147 : SH 147 = (20, 24) := rfl
theorem SH_148 : SH 148 = (20, 96) := rfl
theorem SH_149 : SH 149 = (3, 6) := rfl
theorem SH_150 : SH 150 = (20, 24) := rfl
theorem SH_151 : SH 151 = (20, 4) := rfl
theorem SH_152 : SH 152 = (20, 24) := rfl
theorem SH_153 : SH 153 = (20, 12) := rfl
theorem SH_154 : SH 154 = (20, 12) := rfl
theorem SH_155 : SH 155 = (20, 12) := rfl
theorem SH_156 : SH 156 = (20, 12) := rfl
theorem SH_157 : SH 157 = (20, 24) := rfl
theorem SH_158 : SH 158 = (4, 2) := rfl
theorem SH_159 : SH 159 = (21, 8192) := rfl
theorem SH_160 : SH 160 = (20, 8192) := rfl
theorem SH_161 : SH 161 = (2, 10) := rfl
theorem SH_162 : SH 162 = (9, 5) := rfl
theorem SH_163 : SH 163 = (20, 24) := rfl
theorem SH_164 : SH 164 = (20, 24) := rfl
theorem SH_165 : SH 165 = (20, 96) := rfl
theorem SH_166 : SH 166 = (3, 6) := rfl
theorem SH_167 : SH 167 = (20, 24) := rfl
theorem SH_168 : SH 168 = (20, 4) := rfl
theorem SH_169 : SH 169 = (20, 7) := rfl
theorem SH_170 : SH 170 = (20, 7) := rfl
theorem SH_171 : SH 171 = (7, 5) := rfl
theorem SH_172 : SH 172 = (20, 24) := rfl
theorem SH_173 : SH 173 = (9, 5) := rfl
theorem SH_174 : SH 174 = (20, 24) := rfl
theorem SH_175 : SH 175 = (20, 24) := rfl
theorem SH_176 : SH 176 = (20, 96) := rfl
theorem SH_177 : SH 177 = (12, 46) := rfl
theorem SH_178 : SH 178 = (20, 7160) := rfl
theorem SH_179 : SH 179 = (20, 7160) := rfl
theorem SH_180 : SH 180 = (20, 64) := rfl
theorem SH_181 : SH 181 = (20, 820) := rfl
theorem SH_182 : SH 182 = (20, 400) := rfl
theorem SH_183 : SH 183 = (20, 420) := rfl
theorem SH_184 : SH 184 = (20, 6) := rfl
theorem SH_185 : SH 185 = (22, 64) := rfl
theorem SH_186 : SH 186 = (20, 24) := rfl
theorem SH_187 : SH 187 = (20, 24) := rfl
theorem SH_188 : SH 188 = (20, 24) := rfl
theorem SH_189 : SH 189 = (20, 24) := rfl
theorem SH_190 : SH 190 = (20, 24) := rfl
theorem SH_191 : SH 191 = (20, 24) := rfl
theorem SH_192 : SH 192 = (20, 24) := rfl
theorem SH_193 : SH 193 = (20, 24) := rfl
theorem SH_194 : SH 194 = (22, 24) := rfl
theorem SH_195 : SH 195 = (22, 24) := rfl
theorem SH_196 : SH 196 = (20, 7) := rfl
theorem SH_197 : SH 197 = (20, 24) := rfl
theorem SH_198 : SH 198 = (20, 24) := rfl
theorem SH_199 : SH 199 = (20, 24) := rfl
theorem SH_200 : SH 200 = (20, 24) := rfl
theorem RR_0_0 : RR 0 0 = some 1 := rfl
theorem RR_0_1 : RR 0 1 = some 62 := rfl
theorem RR_0_3 : RR 0 3 = some 123 := rfl
theorem RR_0_5 : RR 0 5 = some 124 := rfl
theorem RR_0_6 : RR 0 6 = some 137 := rfl
theorem RR_0_7 : RR 0 7 = some 140 := rfl
theorem RR_0_8 : RR 0 8 = some 158 := rfl
theorem RR_0_9 : RR 0 9 = some 161 := rfl
theorem RR_0_10 : RR 0 10 = some 171 := rfl
theorem RR_0_11 : RR 0 11 = some 173 := rfl
theorem RR_1_5 : RR 1 5 = some 2 := rfl
theorem RR_1_6 : RR 1 6 = some 3 := rfl
theorem RR_1_7 : RR 1 7 = some 4 := rfl
theorem RR_1_8 : RR 1 8 = some 5 := rfl
theorem RR_1_9 : RR 1 9 = some 6 := rfl
theorem RR_1_10 : RR 1 10 = some 7 := rfl
theorem RR_1_11 : RR 1 11 = some 8 := rfl
theorem RR_5_0 : RR 5 0 = some 14 := rfl
theorem RR_5_1 : RR 5 1 = some 18 := rfl
theorem RR_5_2 : RR 5 2 = some 22 := rfl
theorem RR_5_3 : RR 5 3 = some 26 := rfl
theorem RR_5_4 : RR 5 4 = some 30 := rfl
theorem RR_5_5 : RR 5 5 = some 34 := rfl
theorem RR_6_0 : RR 6 0 = some 38 := rfl
theorem RR_6_1 : RR 6 1 = some 46 := rfl
theorem RR_6_2 : RR 6 2 = some 54 := rfl
theorem RR_8_1 : RR 8 1 = some 9 := rfl
theorem RR_8_2 : RR 8 2 = some 10 := rfl
theorem RR_8_3 : RR 8 3 = some 11 := rfl
theorem RR_8_4 : RR 8 4 = some 12 := rfl
theorem RR_8_5 : RR 8 5 = some 13 := rfl
theorem RR_14_2 : RR 14 2 = some 15 := rfl
theorem RR_14_3 : RR 14 3 = some 16 := rfl
theorem RR_14_4 : RR 14 4 = some 17 := rfl
theorem RR_18_2 : RR 18 2 = some 19 := rfl
theorem RR_18_3 : RR 18 3 = some 20 := rfl
theorem RR_18_4 : RR 18 4 = some 21 := rfl
theorem RR_22_2 : RR 22 2 = some 23 := rfl
theorem RR_22_3 : RR 22 3 = some 24 := rfl
theorem RR_22_4 : RR 22 4 = some 25 := rfl
theorem RR_26_2 : RR 26 2 = some 27 := rfl
theorem RR_26_3 : RR 26 3 = some 28 := rfl
theorem RR_26_4 : RR 26 4 = some 29 := rfl
theorem RR_30_2 : RR 30 2 = some 31 := rfl
theorem RR_30_3 : RR 30 3 = some 32 := rfl
theorem RR_30_4 : RR 30 4 = some 33 := rfl
theorem RR_34_2 : RR 34 2 = some 35 := rfl
theorem RR_34_3 : RR 34 3 = some 36 := rfl
theorem RR_34_4 : RR 34 4 = some 37 := rfl
theorem RR_38_1 : RR 38 1 = some 39 := rfl
theorem RR_38_2 : RR 38 2 = some 40 := rfl
theorem RR_38_3 : RR 38 3 = some 41 := rfl
theorem RR_38_4 : RR 38 4 = some 42 := rfl
theorem RR_38_6 : RR 38 6 = some 43 := rfl
theorem RR_38_7 : RR 38 7 = some 44 := rfl
theorem RR_38_8 : RR 38 8 = some 45 := rfl
theorem RR_46_1 : RR 46 1 = some 47 := rfl
theorem RR_46_2 : RR 46 2 = some 48 := rfl
theorem RR_46_3 : RR 46 3 = some 49 := rfl
theorem RR_46_4 : RR 46 4 = some 50 := rfl
theorem RR_46_6 : RR 46 6 = some 51 := rfl
theorem RR_46_7 : RR 46 7 = some 52 := rfl
theorem RR_46_8 : RR 46 8 = some 53 := rfl
theorem RR_54_1 : RR 54 1 = some 55 := rfl
theorem RR_54_2 : RR 54 2 = some 56 := rfl
theorem RR_54_3 : RR 54 3 = some 57 := rfl
theorem RR_54_4 : RR 54 4 = some 58 := rfl
theorem RR_54_6 : RR 54 6 = some 59 := rfl
theorem RR_54_7 : RR 54 7 = some 60 := rfl
theorem RR_54_8 : RR 54 8 = some 61 := rfl
theorem RR_62_5 : RR 62 5 = some 63 := rfl
theorem RR_62_6 : RR 62 6 = some 64 := rfl
theorem RR_62_7 : RR 62 7 = some 65 := rfl
theorem RR_62_8 : RR 62 8 = some 66 := rfl
theorem RR_62_9 : RR 62 9 = some 67 := rfl
theorem RR_62_10 : RR 62 10 = some 68 := rfl
theorem RR_62_11 : RR 62 11 = some 69 := rfl
theorem RR_66_0 : RR 66 0 = some 75 := rfl
theorem RR_66_1 : RR 66 1 = some 79 := rfl
theorem RR_66_2 : RR 66 2 = some 83 := rfl
theorem RR_66_3 : RR 66 3 = some 87 := rfl
theorem RR_66_4 : RR 66 4 = some 91 := rfl
theorem RR_66_5 : RR 66 5 = some 95 := rfl
theorem RR_67_0 : RR 67 0 = some 99 := rfl
theorem RR_67_1 : RR 67 1 = some 107 := rfl
theorem RR_67_2 : RR 67 2 = some 115 := rfl
theorem RR_69_1 : RR 69 1 = some 70 := rfl
theorem RR_69_2 : RR 69 2 = some 71 := rfl
theorem RR_69_3 : RR 69 3 = some 72 := rfl
theorem RR_69_4 : RR 69 4 = some 73 := rfl
theorem RR_69_5 : RR 69 5 = some 74 := rfl
theorem RR_75_2 : RR 75 2 = some 76 := rfl
theorem RR_75_3 : RR 75 3 = some 77 := rfl
theorem RR_75_4 : RR 75 4 = some 78 := rfl
theorem RR_79_2 : RR 79 2 = some 80 := rfl
theorem RR_79_3 : RR 79 3 = some 81 := rfl
theorem RR_79_4 : RR 79 4 = some 82 := rfl
theorem RR_83_2 : RR 83 2 = some 84 := rfl
theorem RR_83_3 : RR 83 3 = some 85 := rfl
theorem RR_83_4 : RR 83 4 = some 86 := rfl
theorem RR_87_2 : RR 87 2 = some 88 := rfl
theorem RR_87_3 : RR 87 3 = some 89 := rfl
theorem RR_87_4 : RR 87 4 = some 90 := rfl
theorem RR_91_2 : RR 91 2 = some 92 := rfl
theorem RR_91_3 : RR 91 3 = some 93 := rfl
theorem RR_91_4 : RR 91 4 = some 94 := rfl
theorem RR_95_2 : RR 95 2 = some 96 := rfl
theorem RR_95_3 : RR 95 3 = some 97 := rfl
theorem RR_95_4 : RR 95 4 = some 98 := rfl
theorem RR_99_1 : RR 99 1 = some 100 := rfl
theorem RR_99_2 : RR 99 2 = some 101 := rfl
theorem RR_99_3 : RR 99 3 = some 102 := rfl
theorem RR_99_4 : RR 99 4 = some 103 := rfl
theorem RR_99_6 : RR 99 6 = some 104 := rfl
theorem RR_99_7 : RR 99 7 = some 105 := rfl
theorem RR_99_8 : RR 99 8 = some 106 := rfl
theorem RR_107_1 : RR 107 1 = some 108 := rfl
theorem RR_107_2 : RR 107 2 = some 109 := rfl
theorem RR_107_3 : RR 107 3 = some 110 := rfl
theorem RR_107_4 : RR 107 4 = some 111 := rfl
theorem RR_107_6 : RR 107 6 = some 112 := rfl
theorem RR_107_7 : RR 107 7 = some 113 := rfl
theorem RR_107_8 : RR 107 8 = some 114 := rfl
theorem RR_115_1 : RR 115 1 = some 116 := rfl
theorem RR_115_2 : RR 115 2 = some 117 := rfl
theorem RR_115_3 : RR 115 3 = some 118 := rfl
theorem RR_115_4 : RR 115 4 = some 119 := rfl
theorem RR_115_6 : RR 115 6 = some 120 := rfl
theorem RR_115_7 : RR 115 7 = some 121 := rfl
theorem RR_115_8 : RR 115 8 = some 122 := rfl
theorem RR_124_0 : RR 124 0 = some 125 := rfl
theorem RR_124_4 : RR 124 4 = some 129 := rfl
theorem RR_125_0 : RR 125 0 = some 126 := rfl
theorem RR_125_1 : RR 125 1 = some 127 := rfl
theorem RR_125_2 : RR 125 2 = some 128 := rfl
theorem RR_129_1 : RR 129 1 = some 130 := rfl
theorem RR_129_2 : RR 129 2 = some 131 := rfl
theorem RR_129_3 : RR 129 3 = some 132 := rfl
theorem RR_129_4 : RR 129 4 = some 133 := rfl
theorem RR_129_6 : RR 129 6 = some 134 := rfl
theorem RR_129_7 : RR 129 7 = some 135 := rfl
theorem RR_129_8 : RR 129 8 = some 136 := rfl
theorem RR_137_0 : RR 137 0 = some 138 := rfl
theorem RR_137_1 : RR 137 1 = some 139 := rfl
theorem RR_140_0 : RR 140 0 = some 141 := rfl
theorem RR_140_1 : RR 140 1 = some 145 := rfl
theorem RR_140_2 : RR 140 2 = some 149 := rfl
theorem RR_140_3 : RR 140 3 = some 152 := rfl
theorem RR_140_5 : RR 140 5 = some 153 := rfl
theorem RR_140_6 : RR 140 6 = some 154 := rfl
theorem RR_140_7 : RR 140 7 = some 155 := rfl
theorem RR_140_8 : RR 140 8 = some 156 := rfl
theorem RR_140_9 : RR 140 9 = some 157 := rfl
theorem RR_141_2 : RR 141 2 = some 142 := rfl
theorem RR_141_3 : RR 141 3 = some 143 := rfl
theorem RR_141_4 : RR 141 4 = some 144 := rfl
theorem RR_145_2 : RR 145 2 = some 146 := rfl
theorem RR_145_3 : RR 145 3 = some 147 := rfl
theorem RR_145_4 : RR 145 4 = some 148 := rfl
theorem RR_149_0 : RR 149 0 = some 150 := rfl
theorem RR_149_1 : RR 149 1 = some 151 := rfl
theorem RR_158_0 : RR 158 0 = some 159 := rfl
theorem RR_158_1 : RR 158 1 = some 160 := rfl
theorem RR_161_0 : RR 161 0 = some 162 := rfl
theorem RR_161_1 : RR 161 1 = some 166 := rfl
theorem RR_161_2 : RR 161 2 = some 169 := rfl
theorem RR_161_3 : RR 161 3 = some 170 := rfl
theorem RR_162_2 : RR 162 2 = some 163 := rfl
theorem RR_162_3 : RR 162 3 = some 164 := rfl
theorem RR_162_4 : RR 162 4 = some 165 := rfl
theorem RR_166_0 : RR 166 0 = some 167 := rfl
theorem RR_166_1 : RR 166 1 = some 168 := rfl
theorem RR_171_0 : RR 171 0 = some 172 := rfl
theorem RR_173_2 : RR 173 2 = some 174 := rfl
theorem RR_173_3 : RR 173 3 = some 175 := rfl
theorem RR_173_4 : RR 173 4 = some 176 := rfl
theorem RR_177_0 : RR 177 0 = some 178 := rfl
theorem RR_177_1 : RR 177 1 = some 179 := rfl
theorem RR_177_3 : RR 177 3 = some 180 := rfl
theorem RR_177_4 : RR 177 4 = some 181 := rfl
theorem RR_177_5 : RR 177 5 = some 182 := rfl
theorem RR_177_6 : RR 177 6 = some 183 := rfl
theorem RR_177_7 : RR 177 7 = some 184 := rfl
theorem RR_177_8 : RR 177 8 = some 185 := rfl
theorem RR_177_22 : RR 177 22 = some 186 := rfl
theorem RR_177_23 : RR 177 23 = some 187 := rfl
theorem RR_177_24 : RR 177 24 = some 188 := rfl
theorem RR_177_25 : RR 177 25 = some 189 := rfl
theorem RR_177_28 : RR 177 28 = some 190 := rfl
theorem RR_177_29 : RR 177 29 = some 191 := rfl
theorem RR_177_30 : RR 177 30 = some 192 := rfl
theorem RR_177_31 : RR 177 31 = some 193 := rfl
theorem RR_177_34 : RR 177 34 = some 194 := rfl
theorem RR_177_35 : RR 177 35 = some 195 := rfl
theorem RR_177_36 : RR 177 36 = some 196 := rfl
theorem RR_177_41 : RR 177 41 = some 197 := rfl
theorem RR_177_43 : RR 177 43 = some 198 := rfl
theorem RR_177_44 : RR 177 44 = some 199 := rfl
theorem RR_177_45 : RR 177 45 = some 200 := rfl
def KK := And.intro @k_sh (And.intro @k_R (And.intro @k_I (And.intro @k_J (And.intro @k_wI (And.intro @k_wJ (And.intro @k_rI (And.intro @k_rJ (And.intro @vu_eq (And.intro @vu_vu (@vu_ne))))))))))
def SHs := And.intro @SH_0 (And.intro @SH_1 (And.intro @SH_2 (And.intro @SH_3 (And.intro @SH_4 (And.intro @SH_5 (And.intro @SH_6 (And.intro @SH_7 (And.intro @SH_8 (And.intro @SH_9 (And.intro @SH_10 (And.intro @SH_11 (And.intro @SH_12 (And.intro @SH_13 (And.intro @SH_14 (And.intro @SH_15 (And.intro @SH_16 (And.intro @SH_17 (And.intro @SH_18 (And.intro @SH_19 (And.intro @SH_20 (And.intro @SH_21 (And.intro @SH_22 (And.intro @SH_23 (And.intro @SH_24 (And.intro @SH_25 (And.intro @SH_26 (And.intro @SH_27 (And.intro @SH_28 (And.intro @SH_29 (And.intro @SH_30 (And.intro @SH_31 (And.intro @SH_32 (And.intro @SH_33 (And.intro @SH_34 (And.intro @SH_35 (And.intro @SH_36 (And.intro @SH_37 (And.intro @SH_38 (And.intro @SH_39 (And.intro @SH_40 (And.intro @SH_41 (And.intro @SH_42 (And.intro @SH_43 (And.intro @SH_44 (And.intro @SH_45 (And.intro @SH_46 (And.intro @SH_47 (And.intro @SH_48 (And.intro @SH_49 (And.intro @SH_50 (And.intro @SH_51 (And.intro @SH_52 (And.intro @SH_53 (And.intro @SH_54 (And.intro @SH_55 (And.intro @SH_56 (And.intro @SH_57 (And.intro @SH_58 (And.intro @SH_59 (And.intro @SH_60 (And.intro @SH_61 (And.intro @SH_62 (And.intro @SH_63 (And.intro @SH_64 (And.intro @SH_65 (And.intro @SH_66 (And.intro @SH_67 (And.intro @SH_68 (And.intro @SH_69 (And.intro @SH_70 (And.intro @SH_71 (And.intro @SH_72 (And.intro @SH_73 (And.intro @SH_74 (And.intro @SH_75 (And.intro @SH_76 (And.intro @SH_77 (And.intro @SH_78 (And.intro @SH_79 (And.intro @SH_80 (And.intro @SH_81 (And.intro @SH_82 (And.intro @SH_83 (And.intro @SH_84 (And.intro @SH_85 (And.intro @SH_86 (And.intro @SH_87 (And.intro @SH_88 (And.intro @SH_89 (And.intro @SH_90 (And.intro @SH_91 (And.intro @SH_92 (And.intro @SH_93 (And.intro @SH_94 (And.intro @SH_95 (And.intro @SH_96 (And.intro @SH_97 (And.intro @SH_98 (And.intro @SH_99 (And.intro @SH_100 (And.intro @SH_101 (And.intro @SH_102 (And.intro @SH_103 (And.intro @SH_104 (And.intro @SH_105 (And.intro @SH_106 (And.intro @SH_107 (And.intro @SH_108 (And.intro @SH_109 (And.intro @SH_110 (And.intro @SH_111 (And.intro @SH_112 (And.intro @SH_113 (And.intro @SH_114 (And.intro @SH_115 (And.intro @SH_116 (And.intro @SH_117 (And.intro @SH_118 (And.intro @SH_119 (And.intro @SH_120 (And.intro @SH_121 (And.intro @SH_122 (And.intro @SH_123 (And.intro @SH_124 (And.intro @SH_125 (And.intro @SH_126 (And.intro @SH_127 (And.intro @SH_128 (And.intro @SH_129 (And.intro @SH_130 (And.intro @SH_131 (And.intro @SH_132 (And.intro @SH_133 (And.intro @SH_134 (And.intro @SH_135 (And.intro @SH_136 (And.intro @SH_137 (And.intro @SH_138 (And.intro @SH_139 (And.intro @SH_140 (And.intro @SH_141 (And.intro @SH_142 (And.intro @SH_143 (And.intro @SH_144 (And.intro @SH_145 (And.intro @SH_146 (And.intro @SH_147 (And.intro @SH_148 (And.intro @SH_149 (And.intro @SH_150 (And.intro @SH_151 (And.intro @SH_152 (And.intro @SH_153 (And.intro @SH_154 (And.intro @SH_155 (And.intro @SH_156 (And.intro @SH_157 (And.intro @SH_158 (And.intro @SH_159 (And.intro @SH_160 (And.intro @SH_161 (And.intro @SH_162 (And.intro @SH_163 (And.intro @SH_164 (And.intro @SH_165 (And.intro @SH_166 (And.intro @SH_167 (And.intro @SH_168 (And.intro @SH_169 (And.intro @SH_170 (And.intro @SH_171 (And.intro @SH_172 (And.intro @SH_173 (And.intro @SH_174 (And.intro @SH_175 (And.intro @SH_176 (And.intro @SH_177 (And.intro @SH_178 (And.intro @SH_179 (And.intro @SH_180 (And.intro @SH_181 (And.intro @SH_182 (And.intro @SH_183 (And.intro @SH_184 (And.intro @SH_185 (And.intro @SH_186 (And.intro @SH_187 (And.intro @SH_188 (And.intro @SH_189 (And.intro @SH_190 (And.intro @SH_191 (And.intro @SH_192 (And.intro @SH_193 (And.intro @SH_194 (And.intro @SH_195 (And.intro @SH_196 (And.intro @SH_197 (And.intro @SH_198 (And.intro @SH_199 (@SH_200))))))))))))))))))))))))))))))))))))))))))))))))))))))))))))))))))))))))))))))))))))))))))))))))))))))))))))))))))))))))))))))))))))))))))))))))))))))))))))))))))))))))))))))))))))))))))))))))))))))))
def RRs := And.intro @RR_0_0 (And.intro @RR_0_1 (And.intro @RR_0_3 (And.intro @RR_0_5 (And.intro @RR_0_6 (And.intro @RR_0_7 (And.intro @RR_0_8 (And.intro @RR_0_9 (And.intro @RR_0_10 (And.intro @RR_0_11 (And.intro @RR_1_5 (And.intro @RR_1_6 (And.intro @RR_1_7 (And.intro @RR_1_8 (And.intro @RR_1_9 (And.intro @RR_1_10 (And.intro @RR_1_11 (And.intro @RR_5_0 (And.intro @RR_5_1 (And.intro @RR_5_2 (And.intro @RR_5_3 (And.intro @RR_5_4 (And.intro @RR_5_5 (And.intro @RR_6_0 (And.intro @RR_6_1 (And.intro @RR_6_2 (And.intro @RR_8_1 (And.intro @RR_8_2 (And.intro @RR_8_3 (And.intro @RR_8_4 (And.intro @RR_8_5 (And.intro @RR_14_2 (And.intro @RR_14_3 (And.intro @RR_14_4 (And.intro @RR_18_2 (And.intro @RR_18_3 (And.intro @RR_18_4 (And.intro @RR_22_2 (And.intro @RR_22_3 (And.intro @RR_22_4 (And.intro @RR_26_2 (And.intro @RR_26_3 (And.intro @RR_26_4 (And.intro @RR_30_2 (And.intro @RR_30_3 (And.intro @RR_30_4 (And.intro @RR_34_2 (And.intro @RR_34_3 (And.intro @RR_34_4 (And.intro @RR_38_1 (And.intro @RR_38_2 (And.intro @RR_38_3 (And.intro @RR_38_4 (And.intro @RR_38_6 (And.intro @RR_38_7 (And.intro @RR_38_8 (And.intro @RR_46_1 (And.intro @RR_46_2 (And.intro @RR_46_3 (And.intro @RR_46_4 (And.intro @RR_46_6 (And.intro @RR_46_7 (And.intro @RR_46_8 (And.intro @RR_54_1 (And.intro @RR_54_2 (And.intro @RR_54_3 (And.intro @RR_54_4 (And.intro @RR_54_6 (And.intro @RR_54_7 (And.intro @RR_54_8 (And.intro @RR_62_5 (And.intro @RR_62_6 (And.intro @RR_62_7 (And.intro @RR_62_8 (And.intro @RR_62_9 (And.intro @RR_62_10 (And.intro @RR_62_11 (And.intro @RR_66_0 (And.intro @RR_66_1 (And.intro @RR_66_2 (And.intro @RR_66_3 (And.intro @RR_66_4 (And.intro @RR_66_5 (And.intro @RR_67_0 (And.intro @RR_67_1 (And.intro @RR_67_2 (And.intro @RR_69_1 (And.intro @RR_69_2 (And.intro @RR_69_3 (And.intro @RR_69_4 (And.intro @RR_69_5 (And.intro @RR_75_2 (And.intro @RR_75_3 (And.intro @RR_75_4 (And.intro @RR_79_2 (And.intro @RR_79_3 (And.intro @RR_79_4 (And.intro @RR_83_2 (And.intro @RR_83_3 (And.intro @RR_83_4 (And.intro @RR_87_2 (And.intro @RR_87_3 (And.intro @RR_87_4 (And.intro @RR_91_2 (And.intro @RR_91_3 (And.intro @RR_91_4 (And.intro @RR_95_2 (And.intro @RR_95_3 (And.intro @RR_95_4 (And.intro @RR_99_1 (And.intro @RR_99_2 (And.intro @RR_99_3 (And.intro @RR_99_4 (And.intro @RR_99_6 (And.intro @RR_99_7 (And.intro @RR_99_8 (And.intro @RR_107_1 (And.intro @RR_107_2 (And.intro @RR_107_3 (And.intro @RR_107_4 (And.intro @RR_107_6 (And.intro @RR_107_7 (And.intro @RR_107_8 (And.intro @RR_115_1 (And.intro @RR_115_2 (And.intro @RR_115_3 (And.intro @RR_115_4 (And.intro @RR_115_6 (And.intro @RR_115_7 (And.intro @RR_115_8 (And.intro @RR_124_0 (And.intro @RR_124_4 (And.intro @RR_125_0 (And.intro @RR_125_1 (And.intro @RR_125_2 (And.intro @RR_129_1 (And.intro @RR_129_2 (And.intro @RR_129_3 (And.intro @RR_129_4 (And.intro @RR_129_6 (And.intro @RR_129_7 (And.intro @RR_129_8 (And.intro @RR_137_0 (And.intro @RR_137_1 (And.intro @RR_140_0 (And.intro @RR_140_1 (And.intro @RR_140_2 (And.intro @RR_140_3 (And.intro @RR_140_5 (And.intro @RR_140_6 (And.intro @RR_140_7 (And.intro @RR_140_8 (And.intro @RR_140_9 (And.intro @RR_141_2 (And.intro @RR_141_3 (And.intro @RR_141_4 (And.intro @RR_145_2 (And.intro @RR_145_3 (And.intro @RR_145_4 (And.intro @RR_149_0 (And.intro @RR_149_1 (And.intro @RR_158_0 (And.intro @RR_158_1 (And.intro @RR_161_0 (And.intro @RR_161_1 (And.intro @RR_161_2 (And.intro @RR_161_3 (And.intro @RR_162_2 (And.intro @RR_162_3 (And.intro @RR_162_4 (And.intro @RR_166_0 (And.intro @RR_166_1 (And.intro @RR_171_0 (And.intro @RR_173_2 (And.intro @RR_173_3 (And.intro @RR_173_4 (And.intro @RR_177_0 (And.intro @RR_177_1 (And.intro @RR_177_3 (And.intro @RR_177_4 (And.intro @RR_177_5 (And.intro @RR_177_6 (And.intro @RR_177_7 (And.intro @RR_177_8 (And.intro @RR_177_22 (And.intro @RR_177_23 (And.intro @RR_177_24 (And.intro @RR_177_25 (And.intro @RR_177_28 (And.intro @RR_177_29 (And.intro @RR_177_30 (And.intro @RR_177_31 (And.intro @RR_177_34 (And.intro @RR_177_35 (And.intro @RR_177_36 (And.intro @RR_177_41 (And.intro @RR_177_43 (And.intro @RR_177_44 (@RR_177_45))))))))))))))))))))))))))))))))))))))))))))))))))))))))))))))))))))))))))))))))))))))))))))))))))))))))))))))))))))))))))))))))))))))))))))))))))))))))))))))))))))))))))))))))))))))))))))))))))))))
