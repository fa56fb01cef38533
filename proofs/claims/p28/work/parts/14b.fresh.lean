theorem zch_0 {D : va_G} {c : zC} {o : Nat} {H : Heap} (h : zL D o (zB11 c o ++ zB12 c (o + 218)) H) : ∀ i, i < 27 → va_at D vwCl (o + (0 + i), zenc c (zs0 o) (0 + i)) H := fun i hi => match i, hi with
  | 0, _ => zfr_0 h
  | 1, _ => zfr_1 h
  | 2, _ => zfr_2 h
  | 3, _ => zfr_3 h
  | 4, _ => zfr_4 h
  | 5, _ => zfr_5 h
  | 6, _ => zfr_6 h
  | 7, _ => zfr_7 h
  | 8, _ => zfr_8 h
  | 9, _ => zfr_9 h
  | 10, _ => zfr_10 h
  | 11, _ => zfr_11 h
  | 12, _ => zfr_12 h
  | 13, _ => zfr_13 h
  | 14, _ => zfr_14 h
  | 15, _ => zfr_15 h
  | 16, _ => zfr_16 h
  | 17, _ => zfr_17 h
  | 18, _ => zfr_18 h
  | 19, _ => zfr_19 h
  | 20, _ => zfr_20 h
  | 21, _ => zfr_21 h
  | 22, _ => zfr_22 h
  | 23, _ => zfr_23 h
  | 24, _ => zfr_24 h
  | 25, _ => zfr_25 h
  | 26, _ => zfr_26 h
  | i + 27, hi => absurd hi (by omega)
theorem zch_27 {D : va_G} {c : zC} {o : Nat} {H : Heap} (h : zL D o (zB11 c o ++ zB12 c (o + 218)) H) : ∀ i, i < 27 → va_at D vwCl (o + (27 + i), zenc c (zs0 o) (27 + i)) H := fun i hi => match i, hi with
  | 0, _ => zfr_27 h
  | 1, _ => zfr_28 h
  | 2, _ => zfr_29 h
  | 3, _ => zfr_30 h
  | 4, _ => zfr_31 h
  | 5, _ => zfr_32 h
  | 6, _ => zfr_33 h
  | 7, _ => zfr_34 h
  | 8, _ => zfr_35 h
  | 9, _ => zfr_36 h
  | 10, _ => zfr_37 h
  | 11, _ => zfr_38 h
  | 12, _ => zfr_39 h
  | 13, _ => zfr_40 h
  | 14, _ => zfr_41 h
  | 15, _ => zfr_42 h
  | 16, _ => zfr_43 h
  | 17, _ => zfr_44 h
  | 18, _ => zfr_45 h
  | 19, _ => zfr_46 h
  | 20, _ => zfr_47 h
  | 21, _ => zfr_48 h
  | 22, _ => zfr_49 h
  | 23, _ => zfr_50 h
  | 24, _ => zfr_51 h
  | 25, _ => zfr_52 h
  | 26, _ => zfr_53 h
  | i + 27, hi => absurd hi (by omega)
theorem zch_54 {D : va_G} {c : zC} {o : Nat} {H : Heap} (h : zL D o (zB11 c o ++ zB12 c (o + 218)) H) : ∀ i, i < 27 → va_at D vwCl (o + (54 + i), zenc c (zs0 o) (54 + i)) H := fun i hi => match i, hi with
  | 0, _ => zfr_54 h
  | 1, _ => zfr_55 h
  | 2, _ => zfr_56 h
  | 3, _ => zfr_57 h
  | 4, _ => zfr_58 h
  | 5, _ => zfr_59 h
  | 6, _ => zfr_60 h
  | 7, _ => zfr_61 h
  | 8, _ => zfr_62 h
  | 9, _ => zfr_63 h
  | 10, _ => zfr_64 h
  | 11, _ => zfr_65 h
  | 12, _ => zfr_66 h
  | 13, _ => zfr_67 h
  | 14, _ => zfr_68 h
  | 15, _ => zfr_69 h
  | 16, _ => zfr_70 h
  | 17, _ => zfr_71 h
  | 18, _ => zfr_72 h
  | 19, _ => zfr_73 h
  | 20, _ => zfr_74 h
  | 21, _ => zfr_75 h
  | 22, _ => zfr_76 h
  | 23, _ => zfr_77 h
  | 24, _ => zfr_78 h
  | 25, _ => zfr_79 h
  | 26, _ => zfr_80 h
  | i + 27, hi => absurd hi (by omega)
theorem zch_81 {D : va_G} {c : zC} {o : Nat} {H : Heap} (h : zL D o (zB11 c o ++ zB12 c (o + 218)) H) : ∀ i, i < 27 → va_at D vwCl (o + (81 + i), zenc c (zs0 o) (81 + i)) H := fun i hi => match i, hi with
  | 0, _ => zfr_81 h
  | 1, _ => zfr_82 h
  | 2, _ => zfr_83 h
  | 3, _ => zfr_84 h
  | 4, _ => zfr_85 h
  | 5, _ => zfr_86 h
  | 6, _ => zfr_87 h
  | 7, _ => zfr_88 h
  | 8, _ => zfr_89 h
  | 9, _ => zfr_90 h
  | 10, _ => zfr_91 h
  | 11, _ => zfr_92 h
  | 12, _ => zfr_93 h
  | 13, _ => zfr_94 h
  | 14, _ => zfr_95 h
  | 15, _ => zfr_96 h
  | 16, _ => zfr_97 h
  | 17, _ => zfr_98 h
  | 18, _ => zfr_99 h
  | 19, _ => zfr_100 h
  | 20, _ => zfr_101 h
  | 21, _ => zfr_102 h
  | 22, _ => zfr_103 h
  | 23, _ => zfr_104 h
  | 24, _ => zfr_105 h
  | 25, _ => zfr_106 h
  | 26, _ => zfr_107 h
  | i + 27, hi => absurd hi (by omega)
theorem zch_108 {D : va_G} {c : zC} {o : Nat} {H : Heap} (h : zL D o (zB11 c o ++ zB12 c (o + 218)) H) : ∀ i, i < 27 → va_at D vwCl (o + (108 + i), zenc c (zs0 o) (108 + i)) H := fun i hi => match i, hi with
  | 0, _ => zfr_108 h
  | 1, _ => zfr_109 h
  | 2, _ => zfr_110 h
  | 3, _ => zfr_111 h
  | 4, _ => zfr_112 h
  | 5, _ => zfr_113 h
  | 6, _ => zfr_114 h
  | 7, _ => zfr_115 h
  | 8, _ => zfr_116 h
  | 9, _ => zfr_117 h
  | 10, _ => zfr_118 h
  | 11, _ => zfr_119 h
  | 12, _ => zfr_120 h
  | 13, _ => zfr_121 h
  | 14, _ => zfr_122 h
  | 15, _ => zfr_123 h
  | 16, _ => zfr_124 h
  | 17, _ => zfr_125 h
  | 18, _ => zfr_126 h
  | 19, _ => zfr_127 h
  | 20, _ => zfr_128 h
  | 21, _ => zfr_129 h
  | 22, _ => zfr_130 h
  | 23, _ => zfr_131 h
  | 24, _ => zfr_132 h
  | 25, _ => zfr_133 h
  | 26, _ => zfr_134 h
  | i + 27, hi => absurd hi (by omega)
theorem zch_135 {D : va_G} {c : zC} {o : Nat} {H : Heap} (h : zL D o (zB11 c o ++ zB12 c (o + 218)) H) : ∀ i, i < 27 → va_at D vwCl (o + (135 + i), zenc c (zs0 o) (135 + i)) H := fun i hi => match i, hi with
  | 0, _ => zfr_135 h
  | 1, _ => zfr_136 h
  | 2, _ => zfr_137 h
  | 3, _ => zfr_138 h
  | 4, _ => zfr_139 h
  | 5, _ => zfr_140 h
  | 6, _ => zfr_141 h
  | 7, _ => zfr_142 h
  | 8, _ => zfr_143 h
  | 9, _ => zfr_144 h
  | 10, _ => zfr_145 h
  | 11, _ => zfr_146 h
  | 12, _ => zfr_147 h
  | 13, _ => zfr_148 h
  | 14, _ => zfr_149 h
  | 15, _ => zfr_150 h
  | 16, _ => zfr_151 h
  | 17, _ => zfr_152 h
  | 18, _ => zfr_153 h
  | 19, _ => zfr_154 h
  | 20, _ => zfr_155 h
  | 21, _ => zfr_156 h
  | 22, _ => zfr_157 h
  | 23, _ => zfr_158 h
  | 24, _ => zfr_159 h
  | 25, _ => zfr_160 h
  | 26, _ => zfr_161 h
  | i + 27, hi => absurd hi (by omega)
theorem zch_162 {D : va_G} {c : zC} {o : Nat} {H : Heap} (h : zL D o (zB11 c o ++ zB12 c (o + 218)) H) : ∀ i, i < 27 → va_at D vwCl (o + (162 + i), zenc c (zs0 o) (162 + i)) H := fun i hi => match i, hi with
  | 0, _ => zfr_162 h
  | 1, _ => zfr_163 h
  | 2, _ => zfr_164 h
  | 3, _ => zfr_165 h
  | 4, _ => zfr_166 h
  | 5, _ => zfr_167 h
  | 6, _ => zfr_168 h
  | 7, _ => zfr_169 h
  | 8, _ => zfr_170 h
  | 9, _ => zfr_171 h
  | 10, _ => zfr_172 h
  | 11, _ => zfr_173 h
  | 12, _ => zfr_174 h
  | 13, _ => zfr_175 h
  | 14, _ => zfr_176 h
  | 15, _ => zfr_177 h
  | 16, _ => zfr_178 h
  | 17, _ => zfr_179 h
  | 18, _ => zfr_180 h
  | 19, _ => zfr_181 h
  | 20, _ => zfr_182 h
  | 21, _ => zfr_183 h
  | 22, _ => zfr_184 h
  | 23, _ => zfr_185 h
  | 24, _ => zfr_186 h
  | 25, _ => zfr_187 h
  | 26, _ => zfr_188 h
  | i + 27, hi => absurd hi (by omega)
theorem zch_189 {D : va_G} {c : zC} {o : Nat} {H : Heap} (h : zL D o (zB11 c o ++ zB12 c (o + 218)) H) : ∀ i, i < 27 → va_at D vwCl (o + (189 + i), zenc c (zs0 o) (189 + i)) H := fun i hi => match i, hi with
  | 0, _ => zfr_189 h
  | 1, _ => zfr_190 h
  | 2, _ => zfr_191 h
  | 3, _ => zfr_192 h
  | 4, _ => zfr_193 h
  | 5, _ => zfr_194 h
  | 6, _ => zfr_195 h
  | 7, _ => zfr_196 h
  | 8, _ => zfr_197 h
  | 9, _ => zfr_198 h
  | 10, _ => zfr_199 h
  | 11, _ => zfr_200 h
  | 12, _ => zfr_201 h
  | 13, _ => zfr_202 h
  | 14, _ => zfr_203 h
  | 15, _ => zfr_204 h
  | 16, _ => zfr_205 h
  | 17, _ => zfr_206 h
  | 18, _ => zfr_207 h
  | 19, _ => zfr_208 h
  | 20, _ => zfr_209 h
  | 21, _ => zfr_210 h
  | 22, _ => zfr_211 h
  | 23, _ => zfr_212 h
  | 24, _ => zfr_213 h
  | 25, _ => zfr_214 h
  | 26, _ => zfr_215 h
  | i + 27, hi => absurd hi (by omega)
theorem zch_216 {D : va_G} {c : zC} {o : Nat} {H : Heap} (h : zL D o (zB11 c o ++ zB12 c (o + 218)) H) : ∀ i, i < 27 → va_at D vwCl (o + (216 + i), zenc c (zs0 o) (216 + i)) H := fun i hi => match i, hi with
  | 0, _ => zfr_216 h
  | 1, _ => zfr_217 h
  | 2, _ => zfr_218 h
  | 3, _ => zfr_219 h
  | 4, _ => zfr_220 h
  | 5, _ => zfr_221 h
  | 6, _ => zfr_222 h
  | 7, _ => zfr_223 h
  | 8, _ => zfr_224 h
  | 9, _ => zfr_225 h
  | 10, _ => zfr_226 h
  | 11, _ => zfr_227 h
  | 12, _ => zfr_228 h
  | 13, _ => zfr_229 h
  | 14, _ => zfr_230 h
  | 15, _ => zfr_231 h
  | 16, _ => zfr_232 h
  | 17, _ => zfr_233 h
  | 18, _ => zfr_234 h
  | 19, _ => zfr_235 h
  | 20, _ => zfr_236 h
  | 21, _ => zfr_237 h
  | 22, _ => zfr_238 h
  | 23, _ => zfr_239 h
  | 24, _ => zfr_240 h
  | 25, _ => zfr_241 h
  | 26, _ => zfr_242 h
  | i + 27, hi => absurd hi (by omega)
set_option maxRecDepth 100000 in
theorem zfresh {D : va_G} {c : zC} {o : Nat} {H : Heap} (h : zL D o (zB11 c o ++ zB12 c (o + 218)) H) : zP D c o (zs0 o) H := by
  intro k q hk
  obtain ⟨hk, rfl⟩ := zW_get hk
  by_cases q0 : k < 27
  · have h9 := zch_0 h (k - 0) (by omega)
    rw [show 0 + (k - 0) = k by omega] at h9
    exact h9
  by_cases q27 : k < 54
  · have h9 := zch_27 h (k - 27) (by omega)
    rw [show 27 + (k - 27) = k by omega] at h9
    exact h9
  by_cases q54 : k < 81
  · have h9 := zch_54 h (k - 54) (by omega)
    rw [show 54 + (k - 54) = k by omega] at h9
    exact h9
  by_cases q81 : k < 108
  · have h9 := zch_81 h (k - 81) (by omega)
    rw [show 81 + (k - 81) = k by omega] at h9
    exact h9
  by_cases q108 : k < 135
  · have h9 := zch_108 h (k - 108) (by omega)
    rw [show 108 + (k - 108) = k by omega] at h9
    exact h9
  by_cases q135 : k < 162
  · have h9 := zch_135 h (k - 135) (by omega)
    rw [show 135 + (k - 135) = k by omega] at h9
    exact h9
  by_cases q162 : k < 189
  · have h9 := zch_162 h (k - 162) (by omega)
    rw [show 162 + (k - 162) = k by omega] at h9
    exact h9
  by_cases q189 : k < 216
  · have h9 := zch_189 h (k - 189) (by omega)
    rw [show 189 + (k - 189) = k by omega] at h9
    exact h9
  by_cases q216 : k < 243
  · have h9 := zch_216 h (k - 216) (by omega)
    rw [show 216 + (k - 216) = k by omega] at h9
    exact h9
  omega
theorem zarr {args : Array Value} {s : State} {ty : FieldType} (h : (Cond.arrayClass ty).before args s = true) (hra : ∀ cA, va_RA s cA ty = (s.vm.findClass ("[" ++ ty.toString) = some cA)) : ∃ cA, ArrOfT s cA ty ∧ va_RA s cA ty := by
  obtain ⟨cA, k, comp, h1, h2, h3⟩ := Cond.arrayClass_spec h
  exact ⟨cA, fun n z => ⟨fun k h => (by cases h), k, h2, comp, h3⟩, by rw [hra]; exact h1⟩
theorem zarrq {s : State} {C : String} (h : va_AO C s) : ∃ cA, ArrOfT s cA (.object C) ∧ va_RA s cA (.object C) := by
  obtain ⟨comp, cA, k, h1, h2, h3, h4, h5⟩ := Cond.arrayOver_spec h
  exact ⟨cA, fun n z => ⟨fun k h => (by cases h), k, h3, comp, h4⟩, k, comp, h3, h4, h1, h5⟩
/-- the tables at the law's entry -/
theorem zknown {args : Array Value} {s : State} (hts : ∀ w ∈ zWl, w.before args s = true) (hX : zX s) : ∃ (D : va_G) (c : zC), zKt D c s := by
  obtain ⟨c0, i0, h0⟩ := u_known (C := RX0) (T := TX0) (N := 5) (n := 5) hts zu_X0 (hts _ zi_X0)
  obtain ⟨c1, i1, h1⟩ := u_known (C := RX1) (T := TX1) (N := 9) (n := 9) hts zu_X1 (hts _ zi_X1)
  obtain ⟨c2, i2, h2⟩ := u_known (C := RX2) (T := TX2) (N := 1) (n := 1) hts zu_X2 (hts _ zi_X2)
  obtain ⟨c3, i3, h3⟩ := u_known (C := RX3) (T := TX3) (N := 3) (n := 3) hts zu_X3 (hts _ zi_X3)
  obtain ⟨c4, i4, h4⟩ := u_known (C := RX4) (T := TX4) (N := 3) (n := 3) hts zu_X4 (hts _ zi_X4)
  obtain ⟨c5, i5, h5⟩ := u_known (C := RX5) (T := TX5) (N := 14) (n := 14) hts zu_X5 (hts _ zi_X5)
  obtain ⟨c6, i6, h6⟩ := u_known (C := RX6) (T := TX6) (N := 1) (n := 1) hts zu_X6 (hts _ zi_X6)
  obtain ⟨c7, i7, h7⟩ := u_known (C := RX7) (T := TX7) (N := 2) (n := 2) hts zu_X7 (hts _ zi_X7)
  obtain ⟨c8, i8, h8⟩ := u_known (C := RX8) (T := TX8) (N := 2) (n := 2) hts zu_X8 (hts _ zi_X8)
  obtain ⟨c9, i9, h9⟩ := u_known (C := RX9) (T := TX9) (N := 3) (n := 3) hts zu_X9 (hts _ zi_X9)
  obtain ⟨c10, i10, h10⟩ := u_known (C := RX10) (T := TX10) (N := 8) (n := 8) hts zu_X10 (hts _ zi_X10)
  obtain ⟨c11, i11, h11⟩ := u_known (C := RX11) (T := TX11) (N := 19) (n := 19) hts zu_X11 (hts _ zi_X11)
  obtain ⟨c12, i12, h12⟩ := u_known (C := RX12) (T := TX12) (N := 39) (n := 39) hts zu_X12 (hts _ zi_X12)
  obtain ⟨aB, aB1, aB2⟩ := zarr (hts _ za_byte) (fun _ => rfl)
  obtain ⟨aI, aI1, aI2⟩ := zarr (hts _ za_int) (fun _ => rfl)
  obtain ⟨aJ, aJ1, aJ2⟩ := zarr (hts _ za_long) (fun _ => rfl)
  obtain ⟨aZ, aZ1, aZ2⟩ := zarr (hts _ za_boolean) (fun _ => rfl)
  obtain ⟨aF, aF1, aF2⟩ := zarrq hX.2.1
  obtain ⟨aS, aS1, aS2⟩ := zarrq hX.2.2.1
  obtain ⟨aW, aW1, aW2⟩ := zarrq hX.2.2.2
  refine ⟨(fun k => if k = 0 then c0 else if k = 1 then c1 else if k = 2 then c2 else if k = 3 then c3 else if k = 4 then c4 else if k = 5 then c5 else if k = 6 then c6 else if k = 7 then c7 else if k = 8 then c8 else if k = 9 then c9 else if k = 10 then c10 else if k = 11 then c11 else c12, fun k => if k = 0 then i0 else if k = 1 then i1 else if k = 2 then i2 else if k = 3 then i3 else if k = 4 then i4 else if k = 5 then i5 else if k = 6 then i6 else if k = 7 then i7 else if k = 8 then i8 else if k = 9 then i9 else if k = 10 then i10 else if k = 11 then i11 else i12), (aB, aI, aJ, aZ, aF, aS, aW), ?_, ?_⟩
  · intro k q hq
    match k, hq with
    | 0, hq => cases hq; exact h0
    | 1, hq => cases hq; exact h1
    | 2, hq => cases hq; exact h2
    | 3, hq => cases hq; exact h3
    | 4, hq => cases hq; exact h4
    | 5, hq => cases hq; exact h5
    | 6, hq => cases hq; exact h6
    | 7, hq => cases hq; exact h7
    | 8, hq => cases hq; exact h8
    | 9, hq => cases hq; exact h9
    | 10, hq => cases hq; exact h10
    | 11, hq => cases hq; exact h11
    | 12, hq => cases hq; exact h12
    | k + 13, hq => simp [vwCl] at hq
  · intro k q hq
    match k, hq with
    | 0, hq => cases hq; exact ⟨aB1, aB2⟩
    | 1, hq => cases hq; exact ⟨aI1, aI2⟩
    | 2, hq => cases hq; exact ⟨aJ1, aJ2⟩
    | 3, hq => cases hq; exact ⟨aZ1, aZ2⟩
    | 4, hq => cases hq; exact ⟨aF1, aF2⟩
    | 5, hq => cases hq; exact ⟨aS1, aS2⟩
    | 6, hq => cases hq; exact ⟨aW1, aW2⟩
    | k + 7, hq => simp [zty] at hq
