theorem dX6_isLetter_0 : decode cX6_isLetter 0 = .ok (.iload_n 0, 1) := by decide +kernel
theorem dX6_isLetter_1 : decode cX6_isLetter 1 = .ok (.bipush 97, 2) := by decide +kernel
theorem dX6_isLetter_3 : decode cX6_isLetter 3 = .ok (.if_icmp .lt 13, 3) := by decide +kernel
theorem dX6_isLetter_6 : decode cX6_isLetter 6 = .ok (.iload_n 0, 1) := by decide +kernel
theorem dX6_isLetter_7 : decode cX6_isLetter 7 = .ok (.bipush 122, 2) := by decide +kernel
theorem dX6_isLetter_9 : decode cX6_isLetter 9 = .ok (.if_icmp .gt 7, 3) := by decide +kernel
theorem dX6_isLetter_12 : decode cX6_isLetter 12 = .ok (.iconst 1, 1) := by decide +kernel
theorem dX6_isLetter_13 : decode cX6_isLetter 13 = .ok (.goto 4, 3) := by decide +kernel
theorem dX6_isLetter_16 : decode cX6_isLetter 16 = .ok (.iconst 0, 1) := by decide +kernel
theorem dX6_isLetter_17 : decode cX6_isLetter 17 = .ok (.ireturn, 1) := by decide +kernel
theorem me_X6_isLetter : cx_Ms yX6_isLetter cX6_isLetter 1 (some .boolean) 1 := ⟨⟨⟨by decide +kernel, by decide +kernel, by decide +kernel⟩, hw_5, hw_502⟩, hw_501⟩
noncomputable def f_X6_isLetter (p0 : Int32) : Option Int32 := if p0 < 97 then (some 0) else (if 122 < p0 then (some 0) else (some 1))
set_option maxHeartbeats 4000000 in
set_option maxRecDepth 100000 in
theorem c_X6_isLetter (l : Launch) (D : va_G) (k : Nat → ClassId) (p0 : Int32) (y : Int32) (hf : f_X6_isLetter p0 = some y) : cx_M l yX6_isLetter cX6_isLetter 1 (some .boolean) 1 D k [.int p0] ([] : va_W) (fun sz => cx_Qi D y ([] : va_W) ([] : va_W) sz) := by
  refine cx_met (own := "NamelessBox$Text") (by decide) rfl (Nat.le_of_ble_eq_true rfl) ?_
  intro p e s m args below meth c A Q C hA hQ hr hlk
  refine cx_lv (lv' := [(0, .int p0)]) [0] rfl ?_
  unfold f_X6_isLetter at hf
  refine cx_iload_n C dX6_isLetter_0 0 rfl ?_
  refine cx_bipush (v := 97) C dX6_isLetter_1 (by decide) ?_
  refine cx_icmp_lt (tgt := 16) C dX6_isLetter_3 (by decide) (fun c1 => ?_) (fun c1 => ?_)
  · have hf := cx_if_t hf c1
    clear c1
    refine cx_iconst (v := 0) C dX6_isLetter_16 (by decide) ?_
    obtain rfl := Option.some.inj hf
    exact cx_zret C hA hQ hr hlk dX6_isLetter_17 rfl rfl rfl
  · have hf := cx_if_f hf c1
    clear c1
    refine cx_iload_n C dX6_isLetter_6 0 rfl ?_
    refine cx_bipush (v := 122) C dX6_isLetter_7 (by decide) ?_
    refine cx_icmp_gt (tgt := 16) C dX6_isLetter_9 (by decide) (fun c2 => ?_) (fun c2 => ?_)
    · have hf := cx_if_t hf c2
      clear c2
      refine cx_iconst (v := 0) C dX6_isLetter_16 (by decide) ?_
      obtain rfl := Option.some.inj hf
      exact cx_zret C hA hQ hr hlk dX6_isLetter_17 rfl rfl rfl
    · have hf := cx_if_f hf c2
      clear c2
      refine cx_iconst (v := 1) C dX6_isLetter_12 (by decide) ?_
      refine cx_goto (tgt := 17) C dX6_isLetter_13 (by decide) ?_
      obtain rfl := Option.some.inj hf
      exact cx_zret C hA hQ hr hlk dX6_isLetter_17 rfl rfl rfl
theorem dX6_isFigure_0 : decode cX6_isFigure 0 = .ok (.iload_n 0, 1) := by decide +kernel
theorem dX6_isFigure_1 : decode cX6_isFigure 1 = .ok (.bipush 48, 2) := by decide +kernel
theorem dX6_isFigure_3 : decode cX6_isFigure 3 = .ok (.if_icmp .lt 13, 3) := by decide +kernel
theorem dX6_isFigure_6 : decode cX6_isFigure 6 = .ok (.iload_n 0, 1) := by decide +kernel
theorem dX6_isFigure_7 : decode cX6_isFigure 7 = .ok (.bipush 57, 2) := by decide +kernel
theorem dX6_isFigure_9 : decode cX6_isFigure 9 = .ok (.if_icmp .gt 7, 3) := by decide +kernel
theorem dX6_isFigure_12 : decode cX6_isFigure 12 = .ok (.iconst 1, 1) := by decide +kernel
theorem dX6_isFigure_13 : decode cX6_isFigure 13 = .ok (.goto 4, 3) := by decide +kernel
theorem dX6_isFigure_16 : decode cX6_isFigure 16 = .ok (.iconst 0, 1) := by decide +kernel
theorem dX6_isFigure_17 : decode cX6_isFigure 17 = .ok (.ireturn, 1) := by decide +kernel
theorem me_X6_isFigure : cx_Ms yX6_isFigure cX6_isFigure 1 (some .boolean) 1 := ⟨⟨⟨by decide +kernel, by decide +kernel, by decide +kernel⟩, hw_5, hw_505⟩, hw_504⟩
noncomputable def f_X6_isFigure (p0 : Int32) : Option Int32 := if p0 < 48 then (some 0) else (if 57 < p0 then (some 0) else (some 1))
set_option maxHeartbeats 4000000 in
set_option maxRecDepth 100000 in
theorem c_X6_isFigure (l : Launch) (D : va_G) (k : Nat → ClassId) (p0 : Int32) (y : Int32) (hf : f_X6_isFigure p0 = some y) : cx_M l yX6_isFigure cX6_isFigure 1 (some .boolean) 1 D k [.int p0] ([] : va_W) (fun sz => cx_Qi D y ([] : va_W) ([] : va_W) sz) := by
  refine cx_met (own := "NamelessBox$Text") (by decide) rfl (Nat.le_of_ble_eq_true rfl) ?_
  intro p e s m args below meth c A Q C hA hQ hr hlk
  refine cx_lv (lv' := [(0, .int p0)]) [0] rfl ?_
  unfold f_X6_isFigure at hf
  refine cx_iload_n C dX6_isFigure_0 0 rfl ?_
  refine cx_bipush (v := 48) C dX6_isFigure_1 (by decide) ?_
  refine cx_icmp_lt (tgt := 16) C dX6_isFigure_3 (by decide) (fun c1 => ?_) (fun c1 => ?_)
  · have hf := cx_if_t hf c1
    clear c1
    refine cx_iconst (v := 0) C dX6_isFigure_16 (by decide) ?_
    obtain rfl := Option.some.inj hf
    exact cx_zret C hA hQ hr hlk dX6_isFigure_17 rfl rfl rfl
  · have hf := cx_if_f hf c1
    clear c1
    refine cx_iload_n C dX6_isFigure_6 0 rfl ?_
    refine cx_bipush (v := 57) C dX6_isFigure_7 (by decide) ?_
    refine cx_icmp_gt (tgt := 16) C dX6_isFigure_9 (by decide) (fun c2 => ?_) (fun c2 => ?_)
    · have hf := cx_if_t hf c2
      clear c2
      refine cx_iconst (v := 0) C dX6_isFigure_16 (by decide) ?_
      obtain rfl := Option.some.inj hf
      exact cx_zret C hA hQ hr hlk dX6_isFigure_17 rfl rfl rfl
    · have hf := cx_if_f hf c2
      clear c2
      refine cx_iconst (v := 1) C dX6_isFigure_12 (by decide) ?_
      refine cx_goto (tgt := 17) C dX6_isFigure_13 (by decide) ?_
      obtain rfl := Option.some.inj hf
      exact cx_zret C hA hQ hr hlk dX6_isFigure_17 rfl rfl rfl
theorem dX6_advance_0 : decode cX6_advance 0 = .ok (.aload_n 0, 1) := by decide +kernel
theorem dX6_advance_1 : decode cX6_advance 1 = .ok (.aload_n 0, 1) := by decide +kernel
theorem dX6_advance_2 : decode cX6_advance 2 = .ok (.getfield 22, 3) := by decide +kernel
theorem dX6_advance_5 : decode cX6_advance 5 = .ok (.putfield 19, 3) := by decide +kernel
theorem dX6_advance_8 : decode cX6_advance 8 = .ok (.aload_n 0, 1) := by decide +kernel
theorem dX6_advance_9 : decode cX6_advance 9 = .ok (.getfield 19, 3) := by decide +kernel
theorem dX6_advance_12 : decode cX6_advance 12 = .ok (.aload_n 0, 1) := by decide +kernel
theorem dX6_advance_13 : decode cX6_advance 13 = .ok (.getfield 15, 3) := by decide +kernel
theorem dX6_advance_16 : decode cX6_advance 16 = .ok (.if_icmp .ge 30, 3) := by decide +kernel
theorem dX6_advance_19 : decode cX6_advance 19 = .ok (.aload_n 0, 1) := by decide +kernel
theorem dX6_advance_20 : decode cX6_advance 20 = .ok (.getfield 11, 3) := by decide +kernel
theorem dX6_advance_23 : decode cX6_advance 23 = .ok (.aload_n 0, 1) := by decide +kernel
theorem dX6_advance_24 : decode cX6_advance 24 = .ok (.getfield 19, 3) := by decide +kernel
theorem dX6_advance_27 : decode cX6_advance 27 = .ok (.caload, 1) := by decide +kernel
theorem dX6_advance_28 : decode cX6_advance 28 = .ok (.bipush 32, 2) := by decide +kernel
theorem dX6_advance_30 : decode cX6_advance 30 = .ok (.if_icmp .ne 16, 3) := by decide +kernel
theorem dX6_advance_33 : decode cX6_advance 33 = .ok (.aload_n 0, 1) := by decide +kernel
theorem dX6_advance_34 : decode cX6_advance 34 = .ok (.dup, 1) := by decide +kernel
theorem dX6_advance_35 : decode cX6_advance 35 = .ok (.getfield 19, 3) := by decide +kernel
theorem dX6_advance_38 : decode cX6_advance 38 = .ok (.iconst 1, 1) := by decide +kernel
theorem dX6_advance_39 : decode cX6_advance 39 = .ok (.iadd, 1) := by decide +kernel
theorem dX6_advance_40 : decode cX6_advance 40 = .ok (.putfield 19, 3) := by decide +kernel
theorem dX6_advance_43 : decode cX6_advance 43 = .ok (.goto (-35), 3) := by decide +kernel
theorem dX6_advance_46 : decode cX6_advance 46 = .ok (.aload_n 0, 1) := by decide +kernel
theorem dX6_advance_47 : decode cX6_advance 47 = .ok (.aload_n 0, 1) := by decide +kernel
theorem dX6_advance_48 : decode cX6_advance 48 = .ok (.getfield 19, 3) := by decide +kernel
theorem dX6_advance_51 : decode cX6_advance 51 = .ok (.putfield 22, 3) := by decide +kernel
theorem dX6_advance_54 : decode cX6_advance 54 = .ok (.aload_n 0, 1) := by decide +kernel
theorem dX6_advance_55 : decode cX6_advance 55 = .ok (.getfield 19, 3) := by decide +kernel
theorem dX6_advance_58 : decode cX6_advance 58 = .ok (.aload_n 0, 1) := by decide +kernel
theorem dX6_advance_59 : decode cX6_advance 59 = .ok (.getfield 15, 3) := by decide +kernel
theorem dX6_advance_62 : decode cX6_advance 62 = .ok (.if_icmp .lt 5, 3) := by decide +kernel
theorem dX6_advance_65 : decode cX6_advance 65 = .ok (.iconst 0, 1) := by decide +kernel
theorem dX6_advance_66 : decode cX6_advance 66 = .ok (.ireturn, 1) := by decide +kernel
theorem dX6_advance_67 : decode cX6_advance 67 = .ok (.aload_n 0, 1) := by decide +kernel
theorem dX6_advance_68 : decode cX6_advance 68 = .ok (.getfield 11, 3) := by decide +kernel
theorem dX6_advance_71 : decode cX6_advance 71 = .ok (.aload_n 0, 1) := by decide +kernel
theorem dX6_advance_72 : decode cX6_advance 72 = .ok (.getfield 19, 3) := by decide +kernel
theorem dX6_advance_75 : decode cX6_advance 75 = .ok (.caload, 1) := by decide +kernel
theorem dX6_advance_76 : decode cX6_advance 76 = .ok (.invokestatic 105, 3) := by decide +kernel
theorem dX6_advance_79 : decode cX6_advance 79 = .ok (.ifCond .eq 44, 3) := by decide +kernel
theorem dX6_advance_82 : decode cX6_advance 82 = .ok (.aload_n 0, 1) := by decide +kernel
theorem dX6_advance_83 : decode cX6_advance 83 = .ok (.getfield 22, 3) := by decide +kernel
theorem dX6_advance_86 : decode cX6_advance 86 = .ok (.aload_n 0, 1) := by decide +kernel
theorem dX6_advance_87 : decode cX6_advance 87 = .ok (.getfield 15, 3) := by decide +kernel
theorem dX6_advance_90 : decode cX6_advance 90 = .ok (.if_icmp .ge 31, 3) := by decide +kernel
theorem dX6_advance_93 : decode cX6_advance 93 = .ok (.aload_n 0, 1) := by decide +kernel
theorem dX6_advance_94 : decode cX6_advance 94 = .ok (.getfield 11, 3) := by decide +kernel
theorem dX6_advance_97 : decode cX6_advance 97 = .ok (.aload_n 0, 1) := by decide +kernel
theorem dX6_advance_98 : decode cX6_advance 98 = .ok (.getfield 22, 3) := by decide +kernel
theorem dX6_advance_101 : decode cX6_advance 101 = .ok (.caload, 1) := by decide +kernel
theorem dX6_advance_102 : decode cX6_advance 102 = .ok (.invokestatic 105, 3) := by decide +kernel
theorem dX6_advance_105 : decode cX6_advance 105 = .ok (.ifCond .eq 16, 3) := by decide +kernel
theorem dX6_advance_108 : decode cX6_advance 108 = .ok (.aload_n 0, 1) := by decide +kernel
theorem dX6_advance_109 : decode cX6_advance 109 = .ok (.dup, 1) := by decide +kernel
theorem dX6_advance_110 : decode cX6_advance 110 = .ok (.getfield 22, 3) := by decide +kernel
theorem dX6_advance_113 : decode cX6_advance 113 = .ok (.iconst 1, 1) := by decide +kernel
theorem dX6_advance_114 : decode cX6_advance 114 = .ok (.iadd, 1) := by decide +kernel
theorem dX6_advance_115 : decode cX6_advance 115 = .ok (.putfield 22, 3) := by decide +kernel
theorem dX6_advance_118 : decode cX6_advance 118 = .ok (.goto (-36), 3) := by decide +kernel
theorem dX6_advance_121 : decode cX6_advance 121 = .ok (.iconst 1, 1) := by decide +kernel
theorem dX6_advance_122 : decode cX6_advance 122 = .ok (.ireturn, 1) := by decide +kernel
theorem dX6_advance_123 : decode cX6_advance 123 = .ok (.aload_n 0, 1) := by decide +kernel
theorem dX6_advance_124 : decode cX6_advance 124 = .ok (.getfield 11, 3) := by decide +kernel
theorem dX6_advance_127 : decode cX6_advance 127 = .ok (.aload_n 0, 1) := by decide +kernel
theorem dX6_advance_128 : decode cX6_advance 128 = .ok (.getfield 19, 3) := by decide +kernel
theorem dX6_advance_131 : decode cX6_advance 131 = .ok (.caload, 1) := by decide +kernel
theorem dX6_advance_132 : decode cX6_advance 132 = .ok (.invokestatic 109, 3) := by decide +kernel
theorem dX6_advance_135 : decode cX6_advance 135 = .ok (.ifCond .eq 61, 3) := by decide +kernel
theorem dX6_advance_138 : decode cX6_advance 138 = .ok (.aload_n 0, 1) := by decide +kernel
theorem dX6_advance_139 : decode cX6_advance 139 = .ok (.getfield 22, 3) := by decide +kernel
theorem dX6_advance_142 : decode cX6_advance 142 = .ok (.aload_n 0, 1) := by decide +kernel
theorem dX6_advance_143 : decode cX6_advance 143 = .ok (.getfield 15, 3) := by decide +kernel
theorem dX6_advance_146 : decode cX6_advance 146 = .ok (.if_icmp .ge 31, 3) := by decide +kernel
theorem dX6_advance_149 : decode cX6_advance 149 = .ok (.aload_n 0, 1) := by decide +kernel
theorem dX6_advance_150 : decode cX6_advance 150 = .ok (.getfield 11, 3) := by decide +kernel
theorem dX6_advance_153 : decode cX6_advance 153 = .ok (.aload_n 0, 1) := by decide +kernel
theorem dX6_advance_154 : decode cX6_advance 154 = .ok (.getfield 22, 3) := by decide +kernel
theorem dX6_advance_157 : decode cX6_advance 157 = .ok (.caload, 1) := by decide +kernel
theorem dX6_advance_158 : decode cX6_advance 158 = .ok (.invokestatic 109, 3) := by decide +kernel
theorem dX6_advance_161 : decode cX6_advance 161 = .ok (.ifCond .eq 16, 3) := by decide +kernel
theorem dX6_advance_164 : decode cX6_advance 164 = .ok (.aload_n 0, 1) := by decide +kernel
theorem dX6_advance_165 : decode cX6_advance 165 = .ok (.dup, 1) := by decide +kernel
theorem dX6_advance_166 : decode cX6_advance 166 = .ok (.getfield 22, 3) := by decide +kernel
theorem dX6_advance_169 : decode cX6_advance 169 = .ok (.iconst 1, 1) := by decide +kernel
theorem dX6_advance_170 : decode cX6_advance 170 = .ok (.iadd, 1) := by decide +kernel
theorem dX6_advance_171 : decode cX6_advance 171 = .ok (.putfield 22, 3) := by decide +kernel
theorem dX6_advance_174 : decode cX6_advance 174 = .ok (.goto (-36), 3) := by decide +kernel
theorem dX6_advance_177 : decode cX6_advance 177 = .ok (.aload_n 0, 1) := by decide +kernel
theorem dX6_advance_178 : decode cX6_advance 178 = .ok (.getfield 22, 3) := by decide +kernel
theorem dX6_advance_181 : decode cX6_advance 181 = .ok (.aload_n 0, 1) := by decide +kernel
theorem dX6_advance_182 : decode cX6_advance 182 = .ok (.getfield 19, 3) := by decide +kernel
theorem dX6_advance_185 : decode cX6_advance 185 = .ok (.isub, 1) := by decide +kernel
theorem dX6_advance_186 : decode cX6_advance 186 = .ok (.iconst 3, 1) := by decide +kernel
theorem dX6_advance_187 : decode cX6_advance 187 = .ok (.if_icmp .gt 7, 3) := by decide +kernel
theorem dX6_advance_190 : decode cX6_advance 190 = .ok (.iconst 2, 1) := by decide +kernel
theorem dX6_advance_191 : decode cX6_advance 191 = .ok (.goto 4, 3) := by decide +kernel
theorem dX6_advance_194 : decode cX6_advance 194 = .ok (.iconst 4, 1) := by decide +kernel
theorem dX6_advance_195 : decode cX6_advance 195 = .ok (.ireturn, 1) := by decide +kernel
theorem dX6_advance_196 : decode cX6_advance 196 = .ok (.aload_n 0, 1) := by decide +kernel
theorem dX6_advance_197 : decode cX6_advance 197 = .ok (.dup, 1) := by decide +kernel
theorem dX6_advance_198 : decode cX6_advance 198 = .ok (.getfield 22, 3) := by decide +kernel
theorem dX6_advance_201 : decode cX6_advance 201 = .ok (.iconst 1, 1) := by decide +kernel
theorem dX6_advance_202 : decode cX6_advance 202 = .ok (.iadd, 1) := by decide +kernel
theorem dX6_advance_203 : decode cX6_advance 203 = .ok (.putfield 22, 3) := by decide +kernel
theorem dX6_advance_206 : decode cX6_advance 206 = .ok (.aload_n 0, 1) := by decide +kernel
theorem dX6_advance_207 : decode cX6_advance 207 = .ok (.getfield 11, 3) := by decide +kernel
theorem dX6_advance_210 : decode cX6_advance 210 = .ok (.aload_n 0, 1) := by decide +kernel
theorem dX6_advance_211 : decode cX6_advance 211 = .ok (.getfield 19, 3) := by decide +kernel
theorem dX6_advance_214 : decode cX6_advance 214 = .ok (.caload, 1) := by decide +kernel
theorem dX6_advance_215 : decode cX6_advance 215 = .ok (.bipush 59, 2) := by decide +kernel
theorem dX6_advance_217 : decode cX6_advance 217 = .ok (.if_icmp .ne 7, 3) := by decide +kernel
theorem dX6_advance_220 : decode cX6_advance 220 = .ok (.iconst 3, 1) := by decide +kernel
theorem dX6_advance_221 : decode cX6_advance 221 = .ok (.goto 4, 3) := by decide +kernel
theorem dX6_advance_224 : decode cX6_advance 224 = .ok (.iconst 4, 1) := by decide +kernel
theorem dX6_advance_225 : decode cX6_advance 225 = .ok (.ireturn, 1) := by decide +kernel
theorem me_X6_advance : cx_Mv yX6_advance cX6_advance 1 (some .int) 0 := ⟨⟨⟨by decide +kernel, by decide +kernel, by decide +kernel⟩, hw_5, hw_499⟩, hw_498, hs_4⟩
noncomputable def f_X6_advance_J177 (h_18 : Int32) (h_19 : Int32) : Option (Int32 × Int32 × Int32) := if 3 < (h_19 - h_18) then (some ((4, h_18, h_19))) else (some ((2, h_18, h_19)))
noncomputable def f_X6_advance_L138 (t_bytes : Nat → Int32) (t_length : Int32) (h_15 : Int32) (rc138 : Int32 → Option (Int32 × Int32 × Int32)) (h_16 : Int32) : Option (Int32 × Int32 × Int32) := if t_length ≤ h_16 then (f_X6_advance_J177 h_15 h_16) else (cx_gd (cx_ib h_16 300) (Option.bind (f_X6_isFigure (t_bytes (cx_ix h_16))) (fun u22 => if u22 = 0 then (f_X6_advance_J177 h_15 h_16) else (rc138 (h_16 + 1)))))
noncomputable def f_X6_advance_L138w (t_bytes : Nat → Int32) (t_length : Int32) (h_15 : Int32) (n : Nat) : Int32 → Option (Int32 × Int32 × Int32) := Nat.rec (fun _ => none) (fun _ r => f_X6_advance_L138 t_bytes t_length h_15 r) n
noncomputable def f_X6_advance_L82 (t_bytes : Nat → Int32) (t_length : Int32) (h_25 : Int32) (rc82 : Int32 → Option (Int32 × Int32 × Int32)) (h_26 : Int32) : Option (Int32 × Int32 × Int32) := if t_length ≤ h_26 then (some ((1, h_25, h_26))) else (cx_gd (cx_ib h_26 300) (Option.bind (f_X6_isLetter (t_bytes (cx_ix h_26))) (fun u29 => if u29 = 0 then (some ((1, h_25, h_26))) else (rc82 (h_26 + 1)))))
noncomputable def f_X6_advance_L82w (t_bytes : Nat → Int32) (t_length : Int32) (h_25 : Int32) (n : Nat) : Int32 → Option (Int32 × Int32 × Int32) := Nat.rec (fun _ => none) (fun _ r => f_X6_advance_L82 t_bytes t_length h_25 r) n
noncomputable def f_X6_advance_J46 (t_bytes : Nat → Int32) (t_length : Int32) (h_3 : Int32) : Option (Int32 × Int32 × Int32) := if h_3 < t_length then (cx_gd (cx_ib h_3 300) (Option.bind (f_X6_isLetter (t_bytes (cx_ix h_3))) (fun u6 => if u6 = 0 then (cx_gd (cx_ib h_3 300) (Option.bind (f_X6_isFigure (t_bytes (cx_ix h_3))) (fun u10 => if u10 = 0 then (cx_gd (cx_ib h_3 300) (if (t_bytes (cx_ix h_3)) = 59 then (some ((3, h_3, h_3 + 1))) else (some ((4, h_3, h_3 + 1))))) else (f_X6_advance_L138w t_bytes t_length h_3 cx_N0 h_3)))) else (f_X6_advance_L82w t_bytes t_length h_3 cx_N0 h_3)))) else (some ((0, h_3, h_3)))
noncomputable def f_X6_advance_L8 (t_bytes : Nat → Int32) (t_length : Int32) (rc8 : Int32 → Option (Int32 × Int32 × Int32)) (h_1 : Int32) : Option (Int32 × Int32 × Int32) := if t_length ≤ h_1 then (f_X6_advance_J46 t_bytes t_length h_1) else (cx_gd (cx_ib h_1 300) (if (t_bytes (cx_ix h_1)) = 32 then (rc8 (h_1 + 1)) else (f_X6_advance_J46 t_bytes t_length h_1)))
noncomputable def f_X6_advance_L8w (t_bytes : Nat → Int32) (t_length : Int32) (n : Nat) : Int32 → Option (Int32 × Int32 × Int32) := Nat.rec (fun _ => none) (fun _ r => f_X6_advance_L8 t_bytes t_length r) n
noncomputable def f_X6_advance (t_bytes : Nat → Int32) (t_length : Int32) (t_end : Int32) : Option (Int32 × Int32 × Int32) := f_X6_advance_L8w t_bytes t_length cx_N0 t_end
set_option maxHeartbeats 4000000 in
set_option maxRecDepth 100000 in
theorem c_X6_advance (l : Launch) (D : va_G) (k : Nat → ClassId) (t_a : Nat → Nat) (t_bytes : Nat → Int32) (t_length : Int32) (t_start : Int32) (t_end : Int32) (t_item : Int32) (t_numbers : Nat → Int32) (y : Int32 × Int32 × Int32) (hf : f_X6_advance t_bytes t_length t_end = some y) : cx_M l yX6_advance cX6_advance 1 (some .int) 2 D k [.ref (t_a 0)] (wd_Text k t_a t_bytes t_length t_start t_end t_item t_numbers) (fun sz => cx_Qi D y.1 (wd_Text k t_a t_bytes t_length t_start t_end t_item t_numbers) (wd_Text k t_a t_bytes t_length y.2.1 y.2.2 t_item t_numbers) sz) := by
  refine cx_met (own := "NamelessBox$Text") (by decide) rfl (Nat.le_of_ble_eq_true rfl) ?_
  intro p e s m args below meth c A Q C hA hQ hr hlk
  refine cx_lv (lv' := [(0, .ref (t_a 0))]) [0] rfl ?_
  have J177 : ∀ (h_18 : Int32) (h_19 : Int32), f_X6_advance_J177 h_18 h_19 = some y → cx_S p l e (cx_rm 2) s m args below meth c A D 1 0 0 Q 177 [(0, .ref (t_a 0))] [] (wd_Text k t_a t_bytes t_length h_18 h_19 t_item t_numbers) := by
    intro h_18 h_19 hf
    unfold f_X6_advance_J177 at hf
    refine cx_aload_n C dX6_advance_177 0 rfl ?_
    refine cx_get (v := .int h_19) (ci := 5) C iX6 dX6_advance_178 0 rfl rfl 3 (by decide) hw_101 rfl ?_
    refine cx_aload_n C dX6_advance_181 0 rfl ?_
    refine cx_get (v := .int h_18) (ci := 5) C iX6 dX6_advance_182 0 rfl rfl 2 (by decide) hw_100 rfl ?_
    refine cx_isub C dX6_advance_185 ?_
    refine cx_iconst (v := 3) C dX6_advance_186 (by decide) ?_
    refine cx_icmp_gt (tgt := 194) C dX6_advance_187 (by decide) (fun c20 => ?_) (fun c20 => ?_)
    · have hf := cx_if_t hf c20
      clear c20
      refine cx_iconst (v := 4) C dX6_advance_194 (by decide) ?_
      obtain rfl := Option.some.inj hf
      exact cx_iret C hA hQ hr hlk dX6_advance_195 rfl rfl
    · have hf := cx_if_f hf c20
      clear c20
      refine cx_iconst (v := 2) C dX6_advance_190 (by decide) ?_
      refine cx_goto (tgt := 195) C dX6_advance_191 (by decide) ?_
      obtain rfl := Option.some.inj hf
      exact cx_iret C hA hQ hr hlk dX6_advance_195 rfl rfl
  have L138 : ∀ (h_15 : Int32) (n138 : Nat) (h_16 : Int32), f_X6_advance_L138w t_bytes t_length h_15 n138 h_16 = some y → cx_S p l e (cx_rm 2) s m args below meth c A D 1 0 0 Q 138 [(0, .ref (t_a 0))] [] (wd_Text k t_a t_bytes t_length h_15 h_16 t_item t_numbers) := by
    intro h_15 n138
    induction n138 with
    | zero =>
      intro h_16 hf
      exact absurd (show (none : Option (Int32 × Int32 × Int32)) = some y from hf) (fun h => by cases h)
    | succ n138 ih138 =>
      intro h_16 hf
      have hf : f_X6_advance_L138 t_bytes t_length h_15 (f_X6_advance_L138w t_bytes t_length h_15 n138) h_16 = some y := hf
      unfold f_X6_advance_L138 at hf
      refine cx_aload_n C dX6_advance_138 0 rfl ?_
      refine cx_get (v := .int h_16) (ci := 5) C iX6 dX6_advance_139 0 rfl rfl 3 (by decide) hw_101 rfl ?_
      refine cx_aload_n C dX6_advance_142 0 rfl ?_
      refine cx_get (v := .int t_length) (ci := 5) C iX6 dX6_advance_143 0 rfl rfl 1 (by decide) hw_98 rfl ?_
      refine cx_icmp_ge (tgt := 177) C dX6_advance_146 (by decide) (fun c17 => ?_) (fun c17 => ?_)
      · have hf := cx_if_t hf c17
        clear c17
        exact J177 h_15 h_16 hf
      · have hf := cx_if_f hf c17
        clear c17
        refine cx_aload_n C dX6_advance_149 0 rfl ?_
        refine cx_get (v := .ref (t_a 1)) (ci := 5) C iX6 dX6_advance_150 0 rfl rfl 0 (by decide) hw_97 rfl ?_
        refine cx_aload_n C dX6_advance_153 0 rfl ?_
        refine cx_get (v := .int h_16) (ci := 5) C iX6 dX6_advance_154 0 rfl rfl 3 (by decide) hw_101 rfl ?_
        obtain ⟨g21, hf⟩ := cx_gd_at hf
        refine cx_cald C dX6_advance_157 1 rfl (cx_ib_in g21) ?_
        clear g21
        obtain ⟨u22, e23, hf⟩ := cx_bd_at hf
        refine cx_Ksi (As := [.int (t_bytes (cx_ix h_16))]) (rest := []) hA C me_X6_isFigure hw_503 (c_X6_isFigure l D k (t_bytes (cx_ix h_16)) u22 e23) dX6_advance_158 ⟨Nat.le_of_ble_eq_true rfl, Nat.le_of_ble_eq_true rfl⟩ ⟨Nat.zero_le _, Nat.zero_le _⟩ rfl rfl (Nat.le_of_ble_eq_true rfl) [] rfl (by decide) ?_
        clear e23
        refine cx_if_eq (tgt := 177) C dX6_advance_161 (by decide) (fun c24 => ?_) (fun c24 => ?_)
        · have hf := cx_if_t hf c24
          clear c24
          exact J177 h_15 h_16 hf
        · have hf := cx_if_f hf c24
          clear c24
          refine cx_aload_n C dX6_advance_164 0 rfl ?_
          refine cx_dup C dX6_advance_165 rfl ?_
          refine cx_get (v := .int h_16) (ci := 5) C iX6 dX6_advance_166 0 rfl rfl 3 (by decide) hw_101 rfl ?_
          refine cx_iconst (v := 1) C dX6_advance_169 (by decide) ?_
          refine cx_iadd C dX6_advance_170 ?_
          refine cx_putf (v := .int (h_16 + 1)) (ty := .int) (ci := 5) (ws' := (wd_Text k t_a t_bytes t_length h_15 (h_16 + 1) t_item t_numbers)) C iX6 tyX6 tyX6_ok nmX6 dX6_advance_171 0 rfl rfl 3 (by decide) hw_101 rfl (by decide +kernel) rfl rfl (Nat.le_of_ble_eq_true rfl) rfl ?_
          refine cx_goto (tgt := 138) C dX6_advance_174 (by decide) ?_
          exact ih138 (h_16 + 1) hf
  have L82 : ∀ (h_25 : Int32) (n82 : Nat) (h_26 : Int32), f_X6_advance_L82w t_bytes t_length h_25 n82 h_26 = some y → cx_S p l e (cx_rm 2) s m args below meth c A D 1 0 0 Q 82 [(0, .ref (t_a 0))] [] (wd_Text k t_a t_bytes t_length h_25 h_26 t_item t_numbers) := by
    intro h_25 n82
    induction n82 with
    | zero =>
      intro h_26 hf
      exact absurd (show (none : Option (Int32 × Int32 × Int32)) = some y from hf) (fun h => by cases h)
    | succ n82 ih82 =>
      intro h_26 hf
      have hf : f_X6_advance_L82 t_bytes t_length h_25 (f_X6_advance_L82w t_bytes t_length h_25 n82) h_26 = some y := hf
      unfold f_X6_advance_L82 at hf
      refine cx_aload_n C dX6_advance_82 0 rfl ?_
      refine cx_get (v := .int h_26) (ci := 5) C iX6 dX6_advance_83 0 rfl rfl 3 (by decide) hw_101 rfl ?_
      refine cx_aload_n C dX6_advance_86 0 rfl ?_
      refine cx_get (v := .int t_length) (ci := 5) C iX6 dX6_advance_87 0 rfl rfl 1 (by decide) hw_98 rfl ?_
      refine cx_icmp_ge (tgt := 121) C dX6_advance_90 (by decide) (fun c27 => ?_) (fun c27 => ?_)
      · have hf := cx_if_t hf c27
        clear c27
        refine cx_iconst (v := 1) C dX6_advance_121 (by decide) ?_
        obtain rfl := Option.some.inj hf
        exact cx_iret C hA hQ hr hlk dX6_advance_122 rfl rfl
      · have hf := cx_if_f hf c27
        clear c27
        refine cx_aload_n C dX6_advance_93 0 rfl ?_
        refine cx_get (v := .ref (t_a 1)) (ci := 5) C iX6 dX6_advance_94 0 rfl rfl 0 (by decide) hw_97 rfl ?_
        refine cx_aload_n C dX6_advance_97 0 rfl ?_
        refine cx_get (v := .int h_26) (ci := 5) C iX6 dX6_advance_98 0 rfl rfl 3 (by decide) hw_101 rfl ?_
        obtain ⟨g28, hf⟩ := cx_gd_at hf
        refine cx_cald C dX6_advance_101 1 rfl (cx_ib_in g28) ?_
        clear g28
        obtain ⟨u29, e30, hf⟩ := cx_bd_at hf
        refine cx_Ksi (As := [.int (t_bytes (cx_ix h_26))]) (rest := []) hA C me_X6_isLetter hw_500 (c_X6_isLetter l D k (t_bytes (cx_ix h_26)) u29 e30) dX6_advance_102 ⟨Nat.le_of_ble_eq_true rfl, Nat.le_of_ble_eq_true rfl⟩ ⟨Nat.zero_le _, Nat.zero_le _⟩ rfl rfl (Nat.le_of_ble_eq_true rfl) [] rfl (by decide) ?_
        clear e30
        refine cx_if_eq (tgt := 121) C dX6_advance_105 (by decide) (fun c31 => ?_) (fun c31 => ?_)
        · have hf := cx_if_t hf c31
          clear c31
          refine cx_iconst (v := 1) C dX6_advance_121 (by decide) ?_
          obtain rfl := Option.some.inj hf
          exact cx_iret C hA hQ hr hlk dX6_advance_122 rfl rfl
        · have hf := cx_if_f hf c31
          clear c31
          refine cx_aload_n C dX6_advance_108 0 rfl ?_
          refine cx_dup C dX6_advance_109 rfl ?_
          refine cx_get (v := .int h_26) (ci := 5) C iX6 dX6_advance_110 0 rfl rfl 3 (by decide) hw_101 rfl ?_
          refine cx_iconst (v := 1) C dX6_advance_113 (by decide) ?_
          refine cx_iadd C dX6_advance_114 ?_
          refine cx_putf (v := .int (h_26 + 1)) (ty := .int) (ci := 5) (ws' := (wd_Text k t_a t_bytes t_length h_25 (h_26 + 1) t_item t_numbers)) C iX6 tyX6 tyX6_ok nmX6 dX6_advance_115 0 rfl rfl 3 (by decide) hw_101 rfl (by decide +kernel) rfl rfl (Nat.le_of_ble_eq_true rfl) rfl ?_
          refine cx_goto (tgt := 82) C dX6_advance_118 (by decide) ?_
          exact ih82 (h_26 + 1) hf
  have J46 : ∀ (h_3 : Int32), f_X6_advance_J46 t_bytes t_length h_3 = some y → cx_S p l e (cx_rm 2) s m args below meth c A D 1 0 0 Q 46 [(0, .ref (t_a 0))] [] (wd_Text k t_a t_bytes t_length h_3 t_end t_item t_numbers) := by
    intro h_3 hf
    unfold f_X6_advance_J46 at hf
    refine cx_aload_n C dX6_advance_46 0 rfl ?_
    refine cx_aload_n C dX6_advance_47 0 rfl ?_
    refine cx_get (v := .int h_3) (ci := 5) C iX6 dX6_advance_48 0 rfl rfl 2 (by decide) hw_100 rfl ?_
    refine cx_putf (v := .int h_3) (ty := .int) (ci := 5) (ws' := (wd_Text k t_a t_bytes t_length h_3 h_3 t_item t_numbers)) C iX6 tyX6 tyX6_ok nmX6 dX6_advance_51 0 rfl rfl 3 (by decide) hw_101 rfl (by decide +kernel) rfl rfl (Nat.le_of_ble_eq_true rfl) rfl ?_
    refine cx_aload_n C dX6_advance_54 0 rfl ?_
    refine cx_get (v := .int h_3) (ci := 5) C iX6 dX6_advance_55 0 rfl rfl 2 (by decide) hw_100 rfl ?_
    refine cx_aload_n C dX6_advance_58 0 rfl ?_
    refine cx_get (v := .int t_length) (ci := 5) C iX6 dX6_advance_59 0 rfl rfl 1 (by decide) hw_98 rfl ?_
    refine cx_icmp_lt (tgt := 67) C dX6_advance_62 (by decide) (fun c4 => ?_) (fun c4 => ?_)
    · have hf := cx_if_t hf c4
      clear c4
      refine cx_aload_n C dX6_advance_67 0 rfl ?_
      refine cx_get (v := .ref (t_a 1)) (ci := 5) C iX6 dX6_advance_68 0 rfl rfl 0 (by decide) hw_97 rfl ?_
      refine cx_aload_n C dX6_advance_71 0 rfl ?_
      refine cx_get (v := .int h_3) (ci := 5) C iX6 dX6_advance_72 0 rfl rfl 2 (by decide) hw_100 rfl ?_
      obtain ⟨g5, hf⟩ := cx_gd_at hf
      refine cx_cald C dX6_advance_75 1 rfl (cx_ib_in g5) ?_
      clear g5
      obtain ⟨u6, e7, hf⟩ := cx_bd_at hf
      refine cx_Ksi (As := [.int (t_bytes (cx_ix h_3))]) (rest := []) hA C me_X6_isLetter hw_500 (c_X6_isLetter l D k (t_bytes (cx_ix h_3)) u6 e7) dX6_advance_76 ⟨Nat.le_of_ble_eq_true rfl, Nat.le_of_ble_eq_true rfl⟩ ⟨Nat.zero_le _, Nat.zero_le _⟩ rfl rfl (Nat.le_of_ble_eq_true rfl) [] rfl (by decide) ?_
      clear e7
      refine cx_if_eq (tgt := 123) C dX6_advance_79 (by decide) (fun c8 => ?_) (fun c8 => ?_)
      · have hf := cx_if_t hf c8
        clear c8
        refine cx_aload_n C dX6_advance_123 0 rfl ?_
        refine cx_get (v := .ref (t_a 1)) (ci := 5) C iX6 dX6_advance_124 0 rfl rfl 0 (by decide) hw_97 rfl ?_
        refine cx_aload_n C dX6_advance_127 0 rfl ?_
        refine cx_get (v := .int h_3) (ci := 5) C iX6 dX6_advance_128 0 rfl rfl 2 (by decide) hw_100 rfl ?_
        obtain ⟨g9, hf⟩ := cx_gd_at hf
        refine cx_cald C dX6_advance_131 1 rfl (cx_ib_in g9) ?_
        clear g9
        obtain ⟨u10, e11, hf⟩ := cx_bd_at hf
        refine cx_Ksi (As := [.int (t_bytes (cx_ix h_3))]) (rest := []) hA C me_X6_isFigure hw_503 (c_X6_isFigure l D k (t_bytes (cx_ix h_3)) u10 e11) dX6_advance_132 ⟨Nat.le_of_ble_eq_true rfl, Nat.le_of_ble_eq_true rfl⟩ ⟨Nat.zero_le _, Nat.zero_le _⟩ rfl rfl (Nat.le_of_ble_eq_true rfl) [] rfl (by decide) ?_
        clear e11
        refine cx_if_eq (tgt := 196) C dX6_advance_135 (by decide) (fun c12 => ?_) (fun c12 => ?_)
        · have hf := cx_if_t hf c12
          clear c12
          refine cx_aload_n C dX6_advance_196 0 rfl ?_
          refine cx_dup C dX6_advance_197 rfl ?_
          refine cx_get (v := .int h_3) (ci := 5) C iX6 dX6_advance_198 0 rfl rfl 3 (by decide) hw_101 rfl ?_
          refine cx_iconst (v := 1) C dX6_advance_201 (by decide) ?_
          refine cx_iadd C dX6_advance_202 ?_
          refine cx_putf (v := .int (h_3 + 1)) (ty := .int) (ci := 5) (ws' := (wd_Text k t_a t_bytes t_length h_3 (h_3 + 1) t_item t_numbers)) C iX6 tyX6 tyX6_ok nmX6 dX6_advance_203 0 rfl rfl 3 (by decide) hw_101 rfl (by decide +kernel) rfl rfl (Nat.le_of_ble_eq_true rfl) rfl ?_
          refine cx_aload_n C dX6_advance_206 0 rfl ?_
          refine cx_get (v := .ref (t_a 1)) (ci := 5) C iX6 dX6_advance_207 0 rfl rfl 0 (by decide) hw_97 rfl ?_
          refine cx_aload_n C dX6_advance_210 0 rfl ?_
          refine cx_get (v := .int h_3) (ci := 5) C iX6 dX6_advance_211 0 rfl rfl 2 (by decide) hw_100 rfl ?_
          obtain ⟨g13, hf⟩ := cx_gd_at hf
          refine cx_cald C dX6_advance_214 1 rfl (cx_ib_in g13) ?_
          clear g13
          refine cx_bipush (v := 59) C dX6_advance_215 (by decide) ?_
          refine cx_icmp_ne (tgt := 224) C dX6_advance_217 (by decide) (fun c14 => ?_) (fun c14 => ?_)
          · have hf := cx_if_f hf c14
            clear c14
            refine cx_iconst (v := 4) C dX6_advance_224 (by decide) ?_
            obtain rfl := Option.some.inj hf
            exact cx_iret C hA hQ hr hlk dX6_advance_225 rfl rfl
          · have hf := cx_if_t hf c14
            clear c14
            refine cx_iconst (v := 3) C dX6_advance_220 (by decide) ?_
            refine cx_goto (tgt := 225) C dX6_advance_221 (by decide) ?_
            obtain rfl := Option.some.inj hf
            exact cx_iret C hA hQ hr hlk dX6_advance_225 rfl rfl
        · have hf := cx_if_f hf c12
          clear c12
          exact L138 h_3 cx_N0 h_3 hf
      · have hf := cx_if_f hf c8
        clear c8
        exact L82 h_3 cx_N0 h_3 hf
    · have hf := cx_if_f hf c4
      clear c4
      refine cx_iconst (v := 0) C dX6_advance_65 (by decide) ?_
      obtain rfl := Option.some.inj hf
      exact cx_iret C hA hQ hr hlk dX6_advance_66 rfl rfl
  have L8 : ∀ (n8 : Nat) (h_1 : Int32), f_X6_advance_L8w t_bytes t_length n8 h_1 = some y → cx_S p l e (cx_rm 2) s m args below meth c A D 1 0 0 Q 8 [(0, .ref (t_a 0))] [] (wd_Text k t_a t_bytes t_length h_1 t_end t_item t_numbers) := by
    intro  n8
    induction n8 with
    | zero =>
      intro h_1 hf
      exact absurd (show (none : Option (Int32 × Int32 × Int32)) = some y from hf) (fun h => by cases h)
    | succ n8 ih8 =>
      intro h_1 hf
      have hf : f_X6_advance_L8 t_bytes t_length (f_X6_advance_L8w t_bytes t_length n8) h_1 = some y := hf
      unfold f_X6_advance_L8 at hf
      refine cx_aload_n C dX6_advance_8 0 rfl ?_
      refine cx_get (v := .int h_1) (ci := 5) C iX6 dX6_advance_9 0 rfl rfl 2 (by decide) hw_100 rfl ?_
      refine cx_aload_n C dX6_advance_12 0 rfl ?_
      refine cx_get (v := .int t_length) (ci := 5) C iX6 dX6_advance_13 0 rfl rfl 1 (by decide) hw_98 rfl ?_
      refine cx_icmp_ge (tgt := 46) C dX6_advance_16 (by decide) (fun c2 => ?_) (fun c2 => ?_)
      · have hf := cx_if_t hf c2
        clear c2
        exact J46 h_1 hf
      · have hf := cx_if_f hf c2
        clear c2
        refine cx_aload_n C dX6_advance_19 0 rfl ?_
        refine cx_get (v := .ref (t_a 1)) (ci := 5) C iX6 dX6_advance_20 0 rfl rfl 0 (by decide) hw_97 rfl ?_
        refine cx_aload_n C dX6_advance_23 0 rfl ?_
        refine cx_get (v := .int h_1) (ci := 5) C iX6 dX6_advance_24 0 rfl rfl 2 (by decide) hw_100 rfl ?_
        obtain ⟨g32, hf⟩ := cx_gd_at hf
        refine cx_cald C dX6_advance_27 1 rfl (cx_ib_in g32) ?_
        clear g32
        refine cx_bipush (v := 32) C dX6_advance_28 (by decide) ?_
        refine cx_icmp_ne (tgt := 46) C dX6_advance_30 (by decide) (fun c33 => ?_) (fun c33 => ?_)
        · have hf := cx_if_f hf c33
          clear c33
          exact J46 h_1 hf
        · have hf := cx_if_t hf c33
          clear c33
          refine cx_aload_n C dX6_advance_33 0 rfl ?_
          refine cx_dup C dX6_advance_34 rfl ?_
          refine cx_get (v := .int h_1) (ci := 5) C iX6 dX6_advance_35 0 rfl rfl 2 (by decide) hw_100 rfl ?_
          refine cx_iconst (v := 1) C dX6_advance_38 (by decide) ?_
          refine cx_iadd C dX6_advance_39 ?_
          refine cx_putf (v := .int (h_1 + 1)) (ty := .int) (ci := 5) (ws' := (wd_Text k t_a t_bytes t_length (h_1 + 1) t_end t_item t_numbers)) C iX6 tyX6 tyX6_ok nmX6 dX6_advance_40 0 rfl rfl 2 (by decide) hw_100 rfl (by decide +kernel) rfl rfl (Nat.le_of_ble_eq_true rfl) rfl ?_
          refine cx_goto (tgt := 8) C dX6_advance_43 (by decide) ?_
          exact ih8 (h_1 + 1) hf
  unfold f_X6_advance at hf
  refine cx_aload_n C dX6_advance_0 0 rfl ?_
  refine cx_aload_n C dX6_advance_1 0 rfl ?_
  refine cx_get (v := .int t_end) (ci := 5) C iX6 dX6_advance_2 0 rfl rfl 3 (by decide) hw_101 rfl ?_
  refine cx_putf (v := .int t_end) (ty := .int) (ci := 5) (ws' := (wd_Text k t_a t_bytes t_length t_end t_end t_item t_numbers)) C iX6 tyX6 tyX6_ok nmX6 dX6_advance_5 0 rfl rfl 2 (by decide) hw_100 rfl (by decide +kernel) rfl rfl (Nat.le_of_ble_eq_true rfl) rfl ?_
  exact L8 cx_N0 t_end hf
theorem dX6_numberOf_0 : decode cX6_numberOf 0 = .ok (.iconst 0, 1) := by decide +kernel
theorem dX6_numberOf_1 : decode cX6_numberOf 1 = .ok (.istore_n 1, 1) := by decide +kernel
theorem dX6_numberOf_2 : decode cX6_numberOf 2 = .ok (.aload_n 0, 1) := by decide +kernel
theorem dX6_numberOf_3 : decode cX6_numberOf 3 = .ok (.getfield 19, 3) := by decide +kernel
theorem dX6_numberOf_6 : decode cX6_numberOf 6 = .ok (.istore_n 2, 1) := by decide +kernel
theorem dX6_numberOf_7 : decode cX6_numberOf 7 = .ok (.iload_n 2, 1) := by decide +kernel
theorem dX6_numberOf_8 : decode cX6_numberOf 8 = .ok (.aload_n 0, 1) := by decide +kernel
theorem dX6_numberOf_9 : decode cX6_numberOf 9 = .ok (.getfield 22, 3) := by decide +kernel
theorem dX6_numberOf_12 : decode cX6_numberOf 12 = .ok (.if_icmp .ge 24, 3) := by decide +kernel
theorem dX6_numberOf_15 : decode cX6_numberOf 15 = .ok (.bipush 10, 2) := by decide +kernel
theorem dX6_numberOf_17 : decode cX6_numberOf 17 = .ok (.iload_n 1, 1) := by decide +kernel
theorem dX6_numberOf_18 : decode cX6_numberOf 18 = .ok (.imul, 1) := by decide +kernel
theorem dX6_numberOf_19 : decode cX6_numberOf 19 = .ok (.aload_n 0, 1) := by decide +kernel
theorem dX6_numberOf_20 : decode cX6_numberOf 20 = .ok (.getfield 11, 3) := by decide +kernel
theorem dX6_numberOf_23 : decode cX6_numberOf 23 = .ok (.iload_n 2, 1) := by decide +kernel
theorem dX6_numberOf_24 : decode cX6_numberOf 24 = .ok (.caload, 1) := by decide +kernel
theorem dX6_numberOf_25 : decode cX6_numberOf 25 = .ok (.bipush 48, 2) := by decide +kernel
theorem dX6_numberOf_27 : decode cX6_numberOf 27 = .ok (.isub, 1) := by decide +kernel
theorem dX6_numberOf_28 : decode cX6_numberOf 28 = .ok (.iadd, 1) := by decide +kernel
theorem dX6_numberOf_29 : decode cX6_numberOf 29 = .ok (.istore_n 1, 1) := by decide +kernel
theorem dX6_numberOf_30 : decode cX6_numberOf 30 = .ok (.iinc 2 1, 3) := by decide +kernel
theorem dX6_numberOf_33 : decode cX6_numberOf 33 = .ok (.goto (-26), 3) := by decide +kernel
theorem dX6_numberOf_36 : decode cX6_numberOf 36 = .ok (.iload_n 1, 1) := by decide +kernel
theorem dX6_numberOf_37 : decode cX6_numberOf 37 = .ok (.ireturn, 1) := by decide +kernel
theorem me_X6_numberOf : cx_Mv yX6_numberOf cX6_numberOf 3 (some .int) 0 := ⟨⟨⟨by decide +kernel, by decide +kernel, by decide +kernel⟩, hw_5, hw_582⟩, hw_581, hs_8⟩
noncomputable def f_X6_numberOf_L7 (t_bytes : Nat → Int32) (t_end : Int32) (rc7 : Int32 → Int32 → Option Int32) (x1_1 : Int32) (x2_2 : Int32) : Option Int32 := if t_end ≤ x2_2 then (some x1_1) else (cx_gd (cx_ib x2_2 300) (cx_let ((10 * x1_1) + ((t_bytes (cx_ix x2_2)) - 48)) (fun v5 => rc7 v5 (x2_2 + 1))))
noncomputable def f_X6_numberOf_L7w (t_bytes : Nat → Int32) (t_end : Int32) (n : Nat) : Int32 → Int32 → Option Int32 := Nat.rec (fun _ _ => none) (fun _ r => f_X6_numberOf_L7 t_bytes t_end r) n
noncomputable def f_X6_numberOf (t_bytes : Nat → Int32) (t_start : Int32) (t_end : Int32) : Option Int32 := f_X6_numberOf_L7w t_bytes t_end cx_N0 0 t_start
set_option maxHeartbeats 4000000 in
set_option maxRecDepth 100000 in
theorem c_X6_numberOf (l : Launch) (D : va_G) (k : Nat → ClassId) (t_a : Nat → Nat) (t_bytes : Nat → Int32) (t_length : Int32) (t_start : Int32) (t_end : Int32) (t_item : Int32) (t_numbers : Nat → Int32) (y : Int32) (hf : f_X6_numberOf t_bytes t_start t_end = some y) : cx_M l yX6_numberOf cX6_numberOf 3 (some .int) 1 D k [.ref (t_a 0)] (wd_Text k t_a t_bytes t_length t_start t_end t_item t_numbers) (fun sz => cx_Qi D y (wd_Text k t_a t_bytes t_length t_start t_end t_item t_numbers) (wd_Text k t_a t_bytes t_length t_start t_end t_item t_numbers) sz) := by
  refine cx_met (own := "NamelessBox$Text") (by decide) rfl (Nat.le_of_ble_eq_true rfl) ?_
  intro p e s m args below meth c A Q C hA hQ hr hlk
  refine cx_lv (lv' := [(0, .ref (t_a 0))]) [0] rfl ?_
  have L7 : ∀ (n7 : Nat) (x1_1 : Int32) (x2_2 : Int32), f_X6_numberOf_L7w t_bytes t_end n7 x1_1 x2_2 = some y → cx_S p l e (cx_rm 1) s m args below meth c A D 3 0 0 Q 7 [(0, .ref (t_a 0)), (1, .int x1_1), (2, .int x2_2)] [] (wd_Text k t_a t_bytes t_length t_start t_end t_item t_numbers) := by
    intro  n7
    induction n7 with
    | zero =>
      intro x1_1 x2_2 hf
      exact absurd (show (none : Option Int32) = some y from hf) (fun h => by cases h)
    | succ n7 ih7 =>
      intro x1_1 x2_2 hf
      have hf : f_X6_numberOf_L7 t_bytes t_end (f_X6_numberOf_L7w t_bytes t_end n7) x1_1 x2_2 = some y := hf
      unfold f_X6_numberOf_L7 at hf
      refine cx_iload_n C dX6_numberOf_7 2 rfl ?_
      refine cx_aload_n C dX6_numberOf_8 0 rfl ?_
      refine cx_get (v := .int t_end) (ci := 5) C iX6 dX6_numberOf_9 0 rfl rfl 3 (by decide) hw_101 rfl ?_
      refine cx_icmp_ge (tgt := 36) C dX6_numberOf_12 (by decide) (fun c3 => ?_) (fun c3 => ?_)
      · have hf := cx_if_t hf c3
        clear c3
        refine cx_iload_n C dX6_numberOf_36 1 rfl ?_
        obtain rfl := Option.some.inj hf
        exact cx_iret C hA hQ hr hlk dX6_numberOf_37 rfl rfl
      · have hf := cx_if_f hf c3
        clear c3
        refine cx_bipush (v := 10) C dX6_numberOf_15 (by decide) ?_
        refine cx_iload_n C dX6_numberOf_17 1 rfl ?_
        refine cx_imul C dX6_numberOf_18 ?_
        refine cx_aload_n C dX6_numberOf_19 0 rfl ?_
        refine cx_get (v := .ref (t_a 1)) (ci := 5) C iX6 dX6_numberOf_20 0 rfl rfl 0 (by decide) hw_97 rfl ?_
        refine cx_iload_n C dX6_numberOf_23 2 rfl ?_
        obtain ⟨g4, hf⟩ := cx_gd_at hf
        refine cx_cald C dX6_numberOf_24 1 rfl (cx_ib_in g4) ?_
        clear g4
        refine cx_bipush (v := 48) C dX6_numberOf_25 (by decide) ?_
        refine cx_isub C dX6_numberOf_27 ?_
        refine cx_iadd C dX6_numberOf_28 ?_
        refine cx_topi (fun v5 ev5 => ?_)
        have hf := cx_let_at hf ev5
        clear ev5
        refine cx_istore_n (lv' := [(1, .int v5), (0, .ref (t_a 0)), (2, .int x2_2)]) C dX6_numberOf_29 rfl (by decide) rfl ?_
        refine cx_iinc (v := x2_2 + 1) (lv' := [(2, .int (x2_2 + 1)), (1, .int v5), (0, .ref (t_a 0))]) C dX6_numberOf_30 2 rfl rfl (by decide) rfl ?_
        refine cx_goto (tgt := 7) C dX6_numberOf_33 (by decide) ?_
        refine cx_lv [2, 1, 0] rfl ?_
        exact ih7 v5 (x2_2 + 1) hf
  unfold f_X6_numberOf at hf
  refine cx_iconst (v := 0) C dX6_numberOf_0 (by decide) ?_
  refine cx_istore_n (lv' := [(1, .int 0), (0, .ref (t_a 0))]) C dX6_numberOf_1 rfl (by decide) rfl ?_
  refine cx_aload_n C dX6_numberOf_2 1 rfl ?_
  refine cx_get (v := .int t_start) (ci := 5) C iX6 dX6_numberOf_3 0 rfl rfl 2 (by decide) hw_100 rfl ?_
  refine cx_istore_n (lv' := [(2, .int t_start), (1, .int 0), (0, .ref (t_a 0))]) C dX6_numberOf_6 rfl (by decide) rfl ?_
  refine cx_lv [2, 1, 0] rfl ?_
  exact L7 cx_N0 0 t_start hf
theorem dX6_wordOf_0 : decode cX6_wordOf 0 = .ok (.iload_n 0, 1) := by decide +kernel
theorem dX6_wordOf_1 : decode cX6_wordOf 1 = .ok (.tableswitch 64 0 6 #[43, 46, 49, 52, 55, 58, 61], 43) := by decide +kernel
theorem dX6_wordOf_44 : decode cX6_wordOf 44 = .ok (.ldc 89, 2) := by decide +kernel
theorem dX6_wordOf_46 : decode cX6_wordOf 46 = .ok (.areturn, 1) := by decide +kernel
theorem dX6_wordOf_47 : decode cX6_wordOf 47 = .ok (.ldc 91, 2) := by decide +kernel
theorem dX6_wordOf_49 : decode cX6_wordOf 49 = .ok (.areturn, 1) := by decide +kernel
theorem dX6_wordOf_50 : decode cX6_wordOf 50 = .ok (.ldc 93, 2) := by decide +kernel
theorem dX6_wordOf_52 : decode cX6_wordOf 52 = .ok (.areturn, 1) := by decide +kernel
theorem dX6_wordOf_53 : decode cX6_wordOf 53 = .ok (.ldc 95, 2) := by decide +kernel
theorem dX6_wordOf_55 : decode cX6_wordOf 55 = .ok (.areturn, 1) := by decide +kernel
theorem dX6_wordOf_56 : decode cX6_wordOf 56 = .ok (.ldc 97, 2) := by decide +kernel
theorem dX6_wordOf_58 : decode cX6_wordOf 58 = .ok (.areturn, 1) := by decide +kernel
theorem dX6_wordOf_59 : decode cX6_wordOf 59 = .ok (.ldc 99, 2) := by decide +kernel
theorem dX6_wordOf_61 : decode cX6_wordOf 61 = .ok (.areturn, 1) := by decide +kernel
theorem dX6_wordOf_62 : decode cX6_wordOf 62 = .ok (.ldc 101, 2) := by decide +kernel
theorem dX6_wordOf_64 : decode cX6_wordOf 64 = .ok (.areturn, 1) := by decide +kernel
theorem dX6_wordOf_65 : decode cX6_wordOf 65 = .ok (.ldc 103, 2) := by decide +kernel
theorem dX6_wordOf_67 : decode cX6_wordOf 67 = .ok (.areturn, 1) := by decide +kernel
theorem me_X6_wordOf : cx_Ms yX6_wordOf cX6_wordOf 1 (some (.object "java/lang/String")) 1 := ⟨⟨⟨by decide +kernel, by decide +kernel, by decide +kernel⟩, hw_5, hw_516⟩, hw_515⟩
noncomputable def f_X6_wordOf (p0 : Int32) : Option Nat := if p0 = 0 then (some 0) else (if p0 = 1 then (some 1) else (if p0 = 2 then (some 2) else (if p0 = 3 then (some 3) else (if p0 = 4 then (some 4) else (if p0 = 5 then (some 5) else (if p0 = 6 then (some 6) else (some 7)))))))
set_option maxHeartbeats 4000000 in
set_option maxRecDepth 100000 in
theorem c_X6_wordOf (l : Launch) (D : va_G) (k : Nat → ClassId) (te : Nat) (adK adV : Nat → Nat) (p0 : Int32) (y : Nat) (hf : f_X6_wordOf p0 = some y) : cx_ME l yX6_wordOf cX6_wordOf 1 (some (.object "java/lang/String")) 1 D k te adK adV [.int p0] ([] : va_W) (fun sz => cx_Qr D (adK y) ([] : va_W) ([] : va_W) sz) := by
  refine cx_metE (own := "NamelessBox$Text") (by decide) rfl (Nat.le_of_ble_eq_true rfl) ?_
  intro p e s m args below meth c A Q C hE hA hQ hr hlk
  refine cx_lv (lv' := [(0, .int p0)]) [0] rfl ?_
  unfold f_X6_wordOf at hf
  refine cx_iload_n C dX6_wordOf_0 0 rfl ?_
  by_cases c1_0 : p0 = 0
  · have hf := cx_if_t hf c1_0
    refine cx_tabIn (off := 43) (tgt := 44) C dX6_wordOf_1 (by rw [c1_0]; decide) (by rw [c1_0]; decide) (by rw [c1_0]; decide) (by decide) ?_
    clear c1_0
    refine cx_ldcS (a := adK 0) C dX6_wordOf_44 (hE.2.2.2.2.2 0 (by decide)) ?_
    obtain rfl := Option.some.inj hf
    exact cx_aret C hA hQ hr hlk dX6_wordOf_46 rfl rfl
  · have hf := cx_if_f hf c1_0
    by_cases c1_1 : p0 = 1
    · have hf := cx_if_t hf c1_1
      refine cx_tabIn (off := 46) (tgt := 47) C dX6_wordOf_1 (by rw [c1_1]; decide) (by rw [c1_1]; decide) (by rw [c1_1]; decide) (by decide) ?_
      clear c1_1
      refine cx_ldcS (a := adK 1) C dX6_wordOf_47 (hE.2.2.2.2.2 1 (by decide)) ?_
      obtain rfl := Option.some.inj hf
      exact cx_aret C hA hQ hr hlk dX6_wordOf_49 rfl rfl
    · have hf := cx_if_f hf c1_1
      by_cases c1_2 : p0 = 2
      · have hf := cx_if_t hf c1_2
        refine cx_tabIn (off := 49) (tgt := 50) C dX6_wordOf_1 (by rw [c1_2]; decide) (by rw [c1_2]; decide) (by rw [c1_2]; decide) (by decide) ?_
        clear c1_2
        refine cx_ldcS (a := adK 2) C dX6_wordOf_50 (hE.2.2.2.2.2 2 (by decide)) ?_
        obtain rfl := Option.some.inj hf
        exact cx_aret C hA hQ hr hlk dX6_wordOf_52 rfl rfl
      · have hf := cx_if_f hf c1_2
        by_cases c1_3 : p0 = 3
        · have hf := cx_if_t hf c1_3
          refine cx_tabIn (off := 52) (tgt := 53) C dX6_wordOf_1 (by rw [c1_3]; decide) (by rw [c1_3]; decide) (by rw [c1_3]; decide) (by decide) ?_
          clear c1_3
          refine cx_ldcS (a := adK 3) C dX6_wordOf_53 (hE.2.2.2.2.2 3 (by decide)) ?_
          obtain rfl := Option.some.inj hf
          exact cx_aret C hA hQ hr hlk dX6_wordOf_55 rfl rfl
        · have hf := cx_if_f hf c1_3
          by_cases c1_4 : p0 = 4
          · have hf := cx_if_t hf c1_4
            refine cx_tabIn (off := 55) (tgt := 56) C dX6_wordOf_1 (by rw [c1_4]; decide) (by rw [c1_4]; decide) (by rw [c1_4]; decide) (by decide) ?_
            clear c1_4
            refine cx_ldcS (a := adK 4) C dX6_wordOf_56 (hE.2.2.2.2.2 4 (by decide)) ?_
            obtain rfl := Option.some.inj hf
            exact cx_aret C hA hQ hr hlk dX6_wordOf_58 rfl rfl
          · have hf := cx_if_f hf c1_4
            by_cases c1_5 : p0 = 5
            · have hf := cx_if_t hf c1_5
              refine cx_tabIn (off := 58) (tgt := 59) C dX6_wordOf_1 (by rw [c1_5]; decide) (by rw [c1_5]; decide) (by rw [c1_5]; decide) (by decide) ?_
              clear c1_5
              refine cx_ldcS (a := adK 5) C dX6_wordOf_59 (hE.2.2.2.2.2 5 (by decide)) ?_
              obtain rfl := Option.some.inj hf
              exact cx_aret C hA hQ hr hlk dX6_wordOf_61 rfl rfl
            · have hf := cx_if_f hf c1_5
              by_cases c1_6 : p0 = 6
              · have hf := cx_if_t hf c1_6
                refine cx_tabIn (off := 61) (tgt := 62) C dX6_wordOf_1 (by rw [c1_6]; decide) (by rw [c1_6]; decide) (by rw [c1_6]; decide) (by decide) ?_
                clear c1_6
                refine cx_ldcS (a := adK 6) C dX6_wordOf_62 (hE.2.2.2.2.2 6 (by decide)) ?_
                obtain rfl := Option.some.inj hf
                exact cx_aret C hA hQ hr hlk dX6_wordOf_64 rfl rfl
              · have hf := cx_if_f hf c1_6
                refine cx_tabOut (tgt := 65) C dX6_wordOf_1 (by have q0 := lv_neT (a := 0) c1_0 (by decide); have q1 := lv_neT (a := 1) c1_1 (by decide); have q2 := lv_neT (a := 2) c1_2 (by decide); have q3 := lv_neT (a := 3) c1_3 (by decide); have q4 := lv_neT (a := 4) c1_4 (by decide); have q5 := lv_neT (a := 5) c1_5 (by decide); have q6 := lv_neT (a := 6) c1_6 (by decide); omega) (by decide) ?_
                refine cx_ldcS (a := adK 7) C dX6_wordOf_65 (hE.2.2.2.2.2 7 (by decide)) ?_
                obtain rfl := Option.some.inj hf
                exact cx_aret C hA hQ hr hlk dX6_wordOf_67 rfl rfl
theorem dX6_isWord_0 : decode cX6_isWord 0 = .ok (.aload_n 1, 1) := by decide +kernel
theorem dX6_isWord_1 : decode cX6_isWord 1 = .ok (.invokevirtual 120, 3) := by decide +kernel
theorem dX6_isWord_4 : decode cX6_isWord 4 = .ok (.aload_n 0, 1) := by decide +kernel
theorem dX6_isWord_5 : decode cX6_isWord 5 = .ok (.getfield 22, 3) := by decide +kernel
theorem dX6_isWord_8 : decode cX6_isWord 8 = .ok (.aload_n 0, 1) := by decide +kernel
theorem dX6_isWord_9 : decode cX6_isWord 9 = .ok (.getfield 19, 3) := by decide +kernel
theorem dX6_isWord_12 : decode cX6_isWord 12 = .ok (.isub, 1) := by decide +kernel
theorem dX6_isWord_13 : decode cX6_isWord 13 = .ok (.if_icmp .eq 5, 3) := by decide +kernel
theorem dX6_isWord_16 : decode cX6_isWord 16 = .ok (.iconst 0, 1) := by decide +kernel
theorem dX6_isWord_17 : decode cX6_isWord 17 = .ok (.ireturn, 1) := by decide +kernel
theorem dX6_isWord_18 : decode cX6_isWord 18 = .ok (.iconst 0, 1) := by decide +kernel
theorem dX6_isWord_19 : decode cX6_isWord 19 = .ok (.istore_n 2, 1) := by decide +kernel
theorem dX6_isWord_20 : decode cX6_isWord 20 = .ok (.iload_n 2, 1) := by decide +kernel
theorem dX6_isWord_21 : decode cX6_isWord 21 = .ok (.aload_n 1, 1) := by decide +kernel
theorem dX6_isWord_22 : decode cX6_isWord 22 = .ok (.invokevirtual 120, 3) := by decide +kernel
theorem dX6_isWord_25 : decode cX6_isWord 25 = .ok (.if_icmp .ge 30, 3) := by decide +kernel
theorem dX6_isWord_28 : decode cX6_isWord 28 = .ok (.aload_n 0, 1) := by decide +kernel
theorem dX6_isWord_29 : decode cX6_isWord 29 = .ok (.getfield 11, 3) := by decide +kernel
theorem dX6_isWord_32 : decode cX6_isWord 32 = .ok (.aload_n 0, 1) := by decide +kernel
theorem dX6_isWord_33 : decode cX6_isWord 33 = .ok (.getfield 19, 3) := by decide +kernel
theorem dX6_isWord_36 : decode cX6_isWord 36 = .ok (.iload_n 2, 1) := by decide +kernel
theorem dX6_isWord_37 : decode cX6_isWord 37 = .ok (.iadd, 1) := by decide +kernel
theorem dX6_isWord_38 : decode cX6_isWord 38 = .ok (.caload, 1) := by decide +kernel
theorem dX6_isWord_39 : decode cX6_isWord 39 = .ok (.aload_n 1, 1) := by decide +kernel
theorem dX6_isWord_40 : decode cX6_isWord 40 = .ok (.iload_n 2, 1) := by decide +kernel
theorem dX6_isWord_41 : decode cX6_isWord 41 = .ok (.invokevirtual 124, 3) := by decide +kernel
theorem dX6_isWord_44 : decode cX6_isWord 44 = .ok (.if_icmp .eq 5, 3) := by decide +kernel
theorem dX6_isWord_47 : decode cX6_isWord 47 = .ok (.iconst 0, 1) := by decide +kernel
theorem dX6_isWord_48 : decode cX6_isWord 48 = .ok (.ireturn, 1) := by decide +kernel
theorem dX6_isWord_49 : decode cX6_isWord 49 = .ok (.iinc 2 1, 3) := by decide +kernel
theorem dX6_isWord_52 : decode cX6_isWord 52 = .ok (.goto (-32), 3) := by decide +kernel
theorem dX6_isWord_55 : decode cX6_isWord 55 = .ok (.iconst 1, 1) := by decide +kernel
theorem dX6_isWord_56 : decode cX6_isWord 56 = .ok (.ireturn, 1) := by decide +kernel
theorem me_X6_isWord : cx_Mv yX6_isWord cX6_isWord 3 (some .boolean) 1 := ⟨⟨⟨by decide +kernel, by decide +kernel, by decide +kernel⟩, hw_5, hw_528⟩, hw_527, hs_7⟩
noncomputable def f_X6_isWord_L20 (t_bytes : Nat → Int32) (t_start : Int32) (e1 : Nat) (rc20 : Int32 → Option Int32) (x2_3 : Int32) : Option Int32 := cx_gd (decide (e1 < 8)) (if (cx_sl e1) ≤ x2_3 then (some 1) else (cx_gd (cx_ib (t_start + x2_3) 300) (cx_gd (decide (e1 < 8)) (cx_gd (cx_ib x2_3 (cx_lens.getD e1 0)) (if (t_bytes (cx_ix (t_start + x2_3))) = (cx_sc e1 x2_3) then (rc20 (x2_3 + 1)) else (some 0))))))
noncomputable def f_X6_isWord_L20w (t_bytes : Nat → Int32) (t_start : Int32) (e1 : Nat) (n : Nat) : Int32 → Option Int32 := Nat.rec (fun _ => none) (fun _ r => f_X6_isWord_L20 t_bytes t_start e1 r) n
noncomputable def f_X6_isWord (t_bytes : Nat → Int32) (t_start : Int32) (t_end : Int32) (e1 : Nat) : Option Int32 := cx_gd (decide (e1 < 8)) (if (cx_sl e1) = (t_end - t_start) then (f_X6_isWord_L20w t_bytes t_start e1 cx_N0 0) else (some 0))
set_option maxHeartbeats 4000000 in
set_option maxRecDepth 100000 in
theorem c_X6_isWord (l : Launch) (D : va_G) (k : Nat → ClassId) (te : Nat) (adK adV : Nat → Nat) (t_a : Nat → Nat) (t_bytes : Nat → Int32) (t_length : Int32) (t_start : Int32) (t_end : Int32) (t_item : Int32) (t_numbers : Nat → Int32) (e1 : Nat) (y : Int32) (hf : f_X6_isWord t_bytes t_start t_end e1 = some y) : cx_ME l yX6_isWord cX6_isWord 3 (some .boolean) 5 D k te adK adV [.ref (t_a 0), .ref (adK e1)] (wd_Text k t_a t_bytes t_length t_start t_end t_item t_numbers) (fun sz => cx_Qi D y (wd_Text k t_a t_bytes t_length t_start t_end t_item t_numbers) (wd_Text k t_a t_bytes t_length t_start t_end t_item t_numbers) sz) := by
  refine cx_metE (own := "NamelessBox$Text") (by decide) rfl (Nat.le_of_ble_eq_true rfl) ?_
  intro p e s m args below meth c A Q C hE hA hQ hr hlk
  refine cx_lv (lv' := [(0, .ref (t_a 0)), (1, .ref (adK e1))]) [0, 1] rfl ?_
  have L20 : ∀ (n20 : Nat) (x2_3 : Int32), f_X6_isWord_L20w t_bytes t_start e1 n20 x2_3 = some y → cx_S p l e (cx_rm 5) s m args below meth c A D 3 0 0 Q 20 [(0, .ref (t_a 0)), (1, .ref (adK e1)), (2, .int x2_3)] [] (wd_Text k t_a t_bytes t_length t_start t_end t_item t_numbers) := by
    intro  n20
    induction n20 with
    | zero =>
      intro x2_3 hf
      exact absurd (show (none : Option Int32) = some y from hf) (fun h => by cases h)
    | succ n20 ih20 =>
      intro x2_3 hf
      have hf : f_X6_isWord_L20 t_bytes t_start e1 (f_X6_isWord_L20w t_bytes t_start e1 n20) x2_3 = some y := hf
      unfold f_X6_isWord_L20 at hf
      refine cx_iload_n C dX6_isWord_20 2 rfl ?_
      refine cx_aload_n C dX6_isWord_21 1 rfl ?_
      obtain ⟨g4, hf⟩ := cx_gd_at hf
      refine cx_EKzi (As := []) (rest := [.int x2_3]) hE hA C me_J0_length_8abf5 hw_529 (c_slen l D k te adK adV e1 (of_decide_eq_true g4)) dX6_isWord_22 ⟨Nat.le_of_ble_eq_true rfl, Nat.le_of_ble_eq_true rfl⟩ ⟨Nat.zero_le _, Nat.zero_le _⟩ rfl rfl (Nat.le_of_ble_eq_true rfl) (fun hS => vk_recv hE.2.2.2.2.1 (of_decide_eq_true g4) hS) [] rfl (by decide) ?_
      refine cx_icmp_ge (tgt := 55) C dX6_isWord_25 (by decide) (fun c5 => ?_) (fun c5 => ?_)
      · have hf := cx_if_t hf c5
        clear c5
        refine cx_iconst (v := 1) C dX6_isWord_55 (by decide) ?_
        obtain rfl := Option.some.inj hf
        exact cx_zret C hA hQ hr hlk dX6_isWord_56 rfl rfl rfl
      · have hf := cx_if_f hf c5
        clear c5
        refine cx_aload_n C dX6_isWord_28 0 rfl ?_
        refine cx_get (v := .ref (t_a 1)) (ci := 5) C iX6 dX6_isWord_29 0 rfl rfl 0 (by decide) hw_97 rfl ?_
        refine cx_aload_n C dX6_isWord_32 0 rfl ?_
        refine cx_get (v := .int t_start) (ci := 5) C iX6 dX6_isWord_33 0 rfl rfl 2 (by decide) hw_100 rfl ?_
        refine cx_iload_n C dX6_isWord_36 2 rfl ?_
        refine cx_iadd C dX6_isWord_37 ?_
        obtain ⟨g6, hf⟩ := cx_gd_at hf
        refine cx_cald C dX6_isWord_38 1 rfl (cx_ib_in g6) ?_
        clear g6
        refine cx_aload_n C dX6_isWord_39 1 rfl ?_
        refine cx_iload_n C dX6_isWord_40 2 rfl ?_
        obtain ⟨g7, hf⟩ := cx_gd_at hf
        obtain ⟨g8, hf⟩ := cx_gd_at hf
        refine cx_EKzi (As := [.int x2_3]) (rest := [.int (t_bytes (cx_ix (t_start + x2_3)))]) hE hA C me_J0_charAt_5068e hw_539 (c_schar l D k te adK adV e1 (of_decide_eq_true g7) x2_3 (cx_ib_in g8)) dX6_isWord_41 ⟨Nat.le_of_ble_eq_true rfl, Nat.le_of_ble_eq_true rfl⟩ ⟨Nat.zero_le _, Nat.zero_le _⟩ rfl rfl (Nat.le_of_ble_eq_true rfl) (fun hS => vk_recv hE.2.2.2.2.1 (of_decide_eq_true g7) hS) [] rfl (by decide) ?_
        refine cx_icmp_eq (tgt := 49) C dX6_isWord_44 (by decide) (fun c9 => ?_) (fun c9 => ?_)
        · have hf := cx_if_t hf c9
          clear c9
          refine cx_iinc (v := x2_3 + 1) (lv' := [(2, .int (x2_3 + 1)), (0, .ref (t_a 0)), (1, .ref (adK e1))]) C dX6_isWord_49 2 rfl rfl (by decide) rfl ?_
          refine cx_goto (tgt := 20) C dX6_isWord_52 (by decide) ?_
          refine cx_lv [1, 2, 0] rfl ?_
          exact ih20 (x2_3 + 1) hf
        · have hf := cx_if_f hf c9
          clear c9
          refine cx_iconst (v := 0) C dX6_isWord_47 (by decide) ?_
          obtain rfl := Option.some.inj hf
          exact cx_zret C hA hQ hr hlk dX6_isWord_48 rfl rfl rfl
  unfold f_X6_isWord at hf
  refine cx_aload_n C dX6_isWord_0 1 rfl ?_
  obtain ⟨g1, hf⟩ := cx_gd_at hf
  refine cx_EKzi (As := []) (rest := []) hE hA C me_J0_length_8abf5 hw_529 (c_slen l D k te adK adV e1 (of_decide_eq_true g1)) dX6_isWord_1 ⟨Nat.le_of_ble_eq_true rfl, Nat.le_of_ble_eq_true rfl⟩ ⟨Nat.zero_le _, Nat.zero_le _⟩ rfl rfl (Nat.le_of_ble_eq_true rfl) (fun hS => vk_recv hE.2.2.2.2.1 (of_decide_eq_true g1) hS) [] rfl (by decide) ?_
  refine cx_aload_n C dX6_isWord_4 0 rfl ?_
  refine cx_get (v := .int t_end) (ci := 5) C iX6 dX6_isWord_5 0 rfl rfl 3 (by decide) hw_101 rfl ?_
  refine cx_aload_n C dX6_isWord_8 0 rfl ?_
  refine cx_get (v := .int t_start) (ci := 5) C iX6 dX6_isWord_9 0 rfl rfl 2 (by decide) hw_100 rfl ?_
  refine cx_isub C dX6_isWord_12 ?_
  refine cx_icmp_eq (tgt := 18) C dX6_isWord_13 (by decide) (fun c2 => ?_) (fun c2 => ?_)
  · have hf := cx_if_t hf c2
    clear c2
    refine cx_iconst (v := 0) C dX6_isWord_18 (by decide) ?_
    refine cx_istore_n (lv' := [(2, .int 0), (0, .ref (t_a 0)), (1, .ref (adK e1))]) C dX6_isWord_19 rfl (by decide) rfl ?_
    refine cx_lv [1, 2, 0] rfl ?_
    exact L20 cx_N0 0 hf
  · have hf := cx_if_f hf c2
    clear c2
    refine cx_iconst (v := 0) C dX6_isWord_16 (by decide) ?_
    obtain rfl := Option.some.inj hf
    exact cx_zret C hA hQ hr hlk dX6_isWord_17 rfl rfl rfl
theorem dX6_itemOf_0 : decode cX6_itemOf 0 = .ok (.iconst 0, 1) := by decide +kernel
theorem dX6_itemOf_1 : decode cX6_itemOf 1 = .ok (.istore_n 1, 1) := by decide +kernel
theorem dX6_itemOf_2 : decode cX6_itemOf 2 = .ok (.iload_n 1, 1) := by decide +kernel
theorem dX6_itemOf_3 : decode cX6_itemOf 3 = .ok (.bipush 8, 2) := by decide +kernel
theorem dX6_itemOf_5 : decode cX6_itemOf 5 = .ok (.if_icmp .ge 22, 3) := by decide +kernel
theorem dX6_itemOf_8 : decode cX6_itemOf 8 = .ok (.aload_n 0, 1) := by decide +kernel
theorem dX6_itemOf_9 : decode cX6_itemOf 9 = .ok (.iload_n 1, 1) := by decide +kernel
theorem dX6_itemOf_10 : decode cX6_itemOf 10 = .ok (.invokestatic 112, 3) := by decide +kernel
theorem dX6_itemOf_13 : decode cX6_itemOf 13 = .ok (.invokevirtual 116, 3) := by decide +kernel
theorem dX6_itemOf_16 : decode cX6_itemOf 16 = .ok (.ifCond .eq 5, 3) := by decide +kernel
theorem dX6_itemOf_19 : decode cX6_itemOf 19 = .ok (.iload_n 1, 1) := by decide +kernel
theorem dX6_itemOf_20 : decode cX6_itemOf 20 = .ok (.ireturn, 1) := by decide +kernel
theorem dX6_itemOf_21 : decode cX6_itemOf 21 = .ok (.iinc 1 1, 3) := by decide +kernel
theorem dX6_itemOf_24 : decode cX6_itemOf 24 = .ok (.goto (-22), 3) := by decide +kernel
theorem dX6_itemOf_27 : decode cX6_itemOf 27 = .ok (.iconst (-1), 1) := by decide +kernel
theorem dX6_itemOf_28 : decode cX6_itemOf 28 = .ok (.ireturn, 1) := by decide +kernel
theorem me_X6_itemOf : cx_Mv yX6_itemOf cX6_itemOf 2 (some .int) 0 := ⟨⟨⟨by decide +kernel, by decide +kernel, by decide +kernel⟩, hw_5, hw_513⟩, hw_512, hs_6⟩
noncomputable def f_X6_itemOf_L2 (t_bytes : Nat → Int32) (t_start : Int32) (t_end : Int32) (rc2 : Int32 → Option Int32) (x1_1 : Int32) : Option Int32 := if 8 ≤ x1_1 then (some ((-1))) else (Option.bind (f_X6_wordOf x1_1) (fun u3 => Option.bind (f_X6_isWord t_bytes t_start t_end u3) (fun u5 => if u5 = 0 then (rc2 (x1_1 + 1)) else (some x1_1))))
noncomputable def f_X6_itemOf_L2w (t_bytes : Nat → Int32) (t_start : Int32) (t_end : Int32) (n : Nat) : Int32 → Option Int32 := Nat.rec (fun _ => none) (fun _ r => f_X6_itemOf_L2 t_bytes t_start t_end r) n
noncomputable def f_X6_itemOf (t_bytes : Nat → Int32) (t_start : Int32) (t_end : Int32) : Option Int32 := f_X6_itemOf_L2w t_bytes t_start t_end cx_N0 0
set_option maxHeartbeats 4000000 in
set_option maxRecDepth 100000 in
theorem c_X6_itemOf (l : Launch) (D : va_G) (k : Nat → ClassId) (te : Nat) (adK adV : Nat → Nat) (t_a : Nat → Nat) (t_bytes : Nat → Int32) (t_length : Int32) (t_start : Int32) (t_end : Int32) (t_item : Int32) (t_numbers : Nat → Int32) (y : Int32) (hf : f_X6_itemOf t_bytes t_start t_end = some y) : cx_ME l yX6_itemOf cX6_itemOf 2 (some .int) 6 D k te adK adV [.ref (t_a 0)] (wd_Text k t_a t_bytes t_length t_start t_end t_item t_numbers) (fun sz => cx_Qi D y (wd_Text k t_a t_bytes t_length t_start t_end t_item t_numbers) (wd_Text k t_a t_bytes t_length t_start t_end t_item t_numbers) sz) := by
  refine cx_metE (own := "NamelessBox$Text") (by decide) rfl (Nat.le_of_ble_eq_true rfl) ?_
  intro p e s m args below meth c A Q C hE hA hQ hr hlk
  refine cx_lv (lv' := [(0, .ref (t_a 0))]) [0] rfl ?_
  have L2 : ∀ (n2 : Nat) (x1_1 : Int32), f_X6_itemOf_L2w t_bytes t_start t_end n2 x1_1 = some y → cx_S p l e (cx_rm 6) s m args below meth c A D 2 0 0 Q 2 [(0, .ref (t_a 0)), (1, .int x1_1)] [] (wd_Text k t_a t_bytes t_length t_start t_end t_item t_numbers) := by
    intro  n2
    induction n2 with
    | zero =>
      intro x1_1 hf
      exact absurd (show (none : Option Int32) = some y from hf) (fun h => by cases h)
    | succ n2 ih2 =>
      intro x1_1 hf
      have hf : f_X6_itemOf_L2 t_bytes t_start t_end (f_X6_itemOf_L2w t_bytes t_start t_end n2) x1_1 = some y := hf
      unfold f_X6_itemOf_L2 at hf
      refine cx_iload_n C dX6_itemOf_2 1 rfl ?_
      refine cx_bipush (v := 8) C dX6_itemOf_3 (by decide) ?_
      refine cx_icmp_ge (tgt := 27) C dX6_itemOf_5 (by decide) (fun c2 => ?_) (fun c2 => ?_)
      · have hf := cx_if_t hf c2
        clear c2
        refine cx_iconst (v := (-1)) C dX6_itemOf_27 (by decide) ?_
        obtain rfl := Option.some.inj hf
        exact cx_iret C hA hQ hr hlk dX6_itemOf_28 rfl rfl
      · have hf := cx_if_f hf c2
        clear c2
        refine cx_aload_n C dX6_itemOf_8 0 rfl ?_
        refine cx_iload_n C dX6_itemOf_9 1 rfl ?_
        obtain ⟨u3, e4, hf⟩ := cx_bd_at hf
        refine cx_EKsr (As := [.int x1_1]) (rest := [.ref (t_a 0)]) hE hA C me_X6_wordOf hw_514 (c_X6_wordOf l D k te adK adV x1_1 u3 e4) dX6_itemOf_10 ⟨Nat.le_of_ble_eq_true rfl, Nat.le_of_ble_eq_true rfl⟩ ⟨Nat.zero_le _, Nat.zero_le _⟩ rfl rfl (Nat.le_of_ble_eq_true rfl) [] rfl (by decide) ?_
        clear e4
        obtain ⟨u5, e6, hf⟩ := cx_bd_at hf
        refine cx_EFvi (q := (RX6, TX6, 6)) (As := [.ref (adK u3)]) (rest := []) (w1 := (wd_Text k t_a t_bytes t_length t_start t_end t_item t_numbers)) hE hA C me_X6_isWord hw_525 (c_X6_isWord l D k te adK adV t_a t_bytes t_length t_start t_end t_item t_numbers u3 u5 e6) dX6_itemOf_13 ⟨Nat.le_of_ble_eq_true rfl, Nat.le_of_ble_eq_true rfl⟩ ⟨Nat.zero_le _, Nat.zero_le _⟩ rfl rfl (Nat.le_of_ble_eq_true rfl) rfl rfl rfl ?_
        clear e6
        refine cx_if_eq (tgt := 21) C dX6_itemOf_16 (by decide) (fun c7 => ?_) (fun c7 => ?_)
        · have hf := cx_if_t hf c7
          clear c7
          refine cx_iinc (v := x1_1 + 1) (lv' := [(1, .int (x1_1 + 1)), (0, .ref (t_a 0))]) C dX6_itemOf_21 1 rfl rfl (by decide) rfl ?_
          refine cx_goto (tgt := 2) C dX6_itemOf_24 (by decide) ?_
          refine cx_lv [1, 0] rfl ?_
          exact ih2 (x1_1 + 1) hf
        · have hf := cx_if_f hf c7
          clear c7
          refine cx_iload_n C dX6_itemOf_19 1 rfl ?_
          obtain rfl := Option.some.inj hf
          exact cx_iret C hA hQ hr hlk dX6_itemOf_20 rfl rfl
  unfold f_X6_itemOf at hf
  refine cx_iconst (v := 0) C dX6_itemOf_0 (by decide) ?_
  refine cx_istore_n (lv' := [(1, .int 0), (0, .ref (t_a 0))]) C dX6_itemOf_1 rfl (by decide) rfl ?_
  refine cx_lv [1, 0] rfl ?_
  exact L2 cx_N0 0 hf
theorem dX6_takeItem_0 : decode cX6_takeItem 0 = .ok (.iload_n 1, 1) := by decide +kernel
theorem dX6_takeItem_1 : decode cX6_takeItem 1 = .ok (.iconst 1, 1) := by decide +kernel
theorem dX6_takeItem_2 : decode cX6_takeItem 2 = .ok (.if_icmp .eq 5, 3) := by decide +kernel
theorem dX6_takeItem_5 : decode cX6_takeItem 5 = .ok (.iconst 0, 1) := by decide +kernel
theorem dX6_takeItem_6 : decode cX6_takeItem 6 = .ok (.ireturn, 1) := by decide +kernel
theorem dX6_takeItem_7 : decode cX6_takeItem 7 = .ok (.aload_n 0, 1) := by decide +kernel
theorem dX6_takeItem_8 : decode cX6_takeItem 8 = .ok (.aload_n 0, 1) := by decide +kernel
theorem dX6_takeItem_9 : decode cX6_takeItem 9 = .ok (.invokevirtual 51, 3) := by decide +kernel
theorem dX6_takeItem_12 : decode cX6_takeItem 12 = .ok (.putfield 25, 3) := by decide +kernel
theorem dX6_takeItem_15 : decode cX6_takeItem 15 = .ok (.aload_n 0, 1) := by decide +kernel
theorem dX6_takeItem_16 : decode cX6_takeItem 16 = .ok (.getfield 25, 3) := by decide +kernel
theorem dX6_takeItem_19 : decode cX6_takeItem 19 = .ok (.iconst (-1), 1) := by decide +kernel
theorem dX6_takeItem_20 : decode cX6_takeItem 20 = .ok (.if_icmp .ne 5, 3) := by decide +kernel
theorem dX6_takeItem_23 : decode cX6_takeItem 23 = .ok (.iconst 0, 1) := by decide +kernel
theorem dX6_takeItem_24 : decode cX6_takeItem 24 = .ok (.ireturn, 1) := by decide +kernel
theorem dX6_takeItem_25 : decode cX6_takeItem 25 = .ok (.iconst 0, 1) := by decide +kernel
theorem dX6_takeItem_26 : decode cX6_takeItem 26 = .ok (.istore_n 2, 1) := by decide +kernel
theorem dX6_takeItem_27 : decode cX6_takeItem 27 = .ok (.iload_n 2, 1) := by decide +kernel
theorem dX6_takeItem_28 : decode cX6_takeItem 28 = .ok (.getstatic 54, 3) := by decide +kernel
theorem dX6_takeItem_31 : decode cX6_takeItem 31 = .ok (.aload_n 0, 1) := by decide +kernel
theorem dX6_takeItem_32 : decode cX6_takeItem 32 = .ok (.getfield 25, 3) := by decide +kernel
theorem dX6_takeItem_35 : decode cX6_takeItem 35 = .ok (.iaload, 1) := by decide +kernel
theorem dX6_takeItem_36 : decode cX6_takeItem 36 = .ok (.if_icmp .ge 29, 3) := by decide +kernel
theorem dX6_takeItem_39 : decode cX6_takeItem 39 = .ok (.aload_n 0, 1) := by decide +kernel
theorem dX6_takeItem_40 : decode cX6_takeItem 40 = .ok (.invokevirtual 34, 3) := by decide +kernel
theorem dX6_takeItem_43 : decode cX6_takeItem 43 = .ok (.iconst 2, 1) := by decide +kernel
theorem dX6_takeItem_44 : decode cX6_takeItem 44 = .ok (.if_icmp .eq 5, 3) := by decide +kernel
theorem dX6_takeItem_47 : decode cX6_takeItem 47 = .ok (.iconst 0, 1) := by decide +kernel
theorem dX6_takeItem_48 : decode cX6_takeItem 48 = .ok (.ireturn, 1) := by decide +kernel
theorem dX6_takeItem_49 : decode cX6_takeItem 49 = .ok (.aload_n 0, 1) := by decide +kernel
theorem dX6_takeItem_50 : decode cX6_takeItem 50 = .ok (.getfield 28, 3) := by decide +kernel
theorem dX6_takeItem_53 : decode cX6_takeItem 53 = .ok (.iload_n 2, 1) := by decide +kernel
theorem dX6_takeItem_54 : decode cX6_takeItem 54 = .ok (.aload_n 0, 1) := by decide +kernel
theorem dX6_takeItem_55 : decode cX6_takeItem 55 = .ok (.invokevirtual 57, 3) := by decide +kernel
theorem dX6_takeItem_58 : decode cX6_takeItem 58 = .ok (.iastore, 1) := by decide +kernel
theorem dX6_takeItem_59 : decode cX6_takeItem 59 = .ok (.iinc 2 1, 3) := by decide +kernel
theorem dX6_takeItem_62 : decode cX6_takeItem 62 = .ok (.goto (-35), 3) := by decide +kernel
theorem dX6_takeItem_65 : decode cX6_takeItem 65 = .ok (.aload_n 0, 1) := by decide +kernel
theorem dX6_takeItem_66 : decode cX6_takeItem 66 = .ok (.invokevirtual 34, 3) := by decide +kernel
theorem dX6_takeItem_69 : decode cX6_takeItem 69 = .ok (.iconst 3, 1) := by decide +kernel
theorem dX6_takeItem_70 : decode cX6_takeItem 70 = .ok (.if_icmp .ne 7, 3) := by decide +kernel
theorem dX6_takeItem_73 : decode cX6_takeItem 73 = .ok (.iconst 1, 1) := by decide +kernel
theorem dX6_takeItem_74 : decode cX6_takeItem 74 = .ok (.goto 4, 3) := by decide +kernel
theorem dX6_takeItem_77 : decode cX6_takeItem 77 = .ok (.iconst 0, 1) := by decide +kernel
theorem dX6_takeItem_78 : decode cX6_takeItem 78 = .ok (.ireturn, 1) := by decide +kernel
theorem me_X6_takeItem : cx_Mv yX6_takeItem cX6_takeItem 3 (some .boolean) 1 := ⟨⟨⟨by decide +kernel, by decide +kernel, by decide +kernel⟩, hw_5, hw_509⟩, hw_508, hs_5⟩
noncomputable def f_X6_takeItem_L27 (t_bytes : Nat → Int32) (t_length : Int32) (h_7 : Int32) (rc27 : Int32 → Int32 → (Nat → Int32) → Int32 → Option (Int32 × Int32 × Int32 × Int32 × (Nat → Int32))) (h_5 : Int32) (h_6 : Int32) (a_8 : Nat → Int32) (x2_9 : Int32) : Option (Int32 × Int32 × Int32 × Int32 × (Nat → Int32)) := cx_gd (cx_ib h_7 8) (if (cx_tabs.getD (cx_ix h_7) 0) ≤ x2_9 then (Option.bind (f_X6_advance t_bytes t_length h_6) (fun u12 => if u12.1 = 3 then (some ((1, u12.2.1, u12.2.2, h_7, a_8))) else (some ((0, u12.2.1, u12.2.2, h_7, a_8))))) else (Option.bind (f_X6_advance t_bytes t_length h_6) (fun u15 => if u15.1 = 2 then (Option.bind (f_X6_numberOf t_bytes u15.2.1 u15.2.2) (fun u18 => cx_gd (cx_ib x2_9 5) (cx_let (upd a_8 (cx_ix x2_9) u18) (fun a21 => rc27 u15.2.1 u15.2.2 a21 (x2_9 + 1))))) else (some ((0, u15.2.1, u15.2.2, h_7, a_8))))))
noncomputable def f_X6_takeItem_L27w (t_bytes : Nat → Int32) (t_length : Int32) (h_7 : Int32) (n : Nat) : Int32 → Int32 → (Nat → Int32) → Int32 → Option (Int32 × Int32 × Int32 × Int32 × (Nat → Int32)) := Nat.rec (fun _ _ _ _ => none) (fun _ r => f_X6_takeItem_L27 t_bytes t_length h_7 r) n
noncomputable def f_X6_takeItem (t_bytes : Nat → Int32) (t_length : Int32) (t_start : Int32) (t_end : Int32) (t_item : Int32) (t_numbers : Nat → Int32) (p1 : Int32) : Option (Int32 × Int32 × Int32 × Int32 × (Nat → Int32)) := if p1 = 1 then (Option.bind (f_X6_itemOf t_bytes t_start t_end) (fun u2 => if u2 = ((-1)) then (some ((0, t_start, t_end, u2, t_numbers))) else (f_X6_takeItem_L27w t_bytes t_length u2 cx_N0 t_start t_end t_numbers 0))) else (some ((0, t_start, t_end, t_item, t_numbers)))
set_option maxHeartbeats 4000000 in
set_option maxRecDepth 100000 in
theorem c_X6_takeItem (l : Launch) (D : va_G) (k : Nat → ClassId) (te : Nat) (adK adV : Nat → Nat) (t_a : Nat → Nat) (t_bytes : Nat → Int32) (t_length : Int32) (t_start : Int32) (t_end : Int32) (t_item : Int32) (t_numbers : Nat → Int32) (p1 : Int32) (y : Int32 × Int32 × Int32 × Int32 × (Nat → Int32)) (hf : f_X6_takeItem t_bytes t_length t_start t_end t_item t_numbers p1 = some y) : cx_ME l yX6_takeItem cX6_takeItem 3 (some .boolean) 7 D k te adK adV [.ref (t_a 0), .int p1] (wd_Text k t_a t_bytes t_length t_start t_end t_item t_numbers) (fun sz => cx_Qi D y.1 (wd_Text k t_a t_bytes t_length t_start t_end t_item t_numbers) (wd_Text k t_a t_bytes t_length y.2.1 y.2.2.1 y.2.2.2.1 y.2.2.2.2) sz) := by
  refine cx_metE (own := "NamelessBox$Text") (by decide) rfl (Nat.le_of_ble_eq_true rfl) ?_
  intro p e s m args below meth c A Q C hE hA hQ hr hlk
  refine cx_lv (lv' := [(0, .ref (t_a 0)), (1, .int p1)]) [0, 1] rfl ?_
  have L27 : ∀ (h_7 : Int32) (n27 : Nat) (h_5 : Int32) (h_6 : Int32) (a_8 : Nat → Int32) (x2_9 : Int32), f_X6_takeItem_L27w t_bytes t_length h_7 n27 h_5 h_6 a_8 x2_9 = some y → cx_S p l e (cx_rm 7) s m args below meth c A D 3 0 0 Q 27 [(0, .ref (t_a 0)), (2, .int x2_9)] [] (wd_Text k t_a t_bytes t_length h_5 h_6 h_7 a_8) := by
    intro h_7 n27
    induction n27 with
    | zero =>
      intro h_5 h_6 a_8 x2_9 hf
      exact absurd (show (none : Option (Int32 × Int32 × Int32 × Int32 × (Nat → Int32))) = some y from hf) (fun h => by cases h)
    | succ n27 ih27 =>
      intro h_5 h_6 a_8 x2_9 hf
      have hf : f_X6_takeItem_L27 t_bytes t_length h_7 (f_X6_takeItem_L27w t_bytes t_length h_7 n27) h_5 h_6 a_8 x2_9 = some y := hf
      unfold f_X6_takeItem_L27 at hf
      refine cx_iload_n C dX6_takeItem_27 1 rfl ?_
      refine cx_gets (v := .ref te) C dX6_takeItem_28 hE.1 hw_577 ?_
      refine cx_aload_n C dX6_takeItem_31 0 rfl ?_
      refine cx_get (v := .int h_7) (ci := 5) C iX6 dX6_takeItem_32 0 rfl rfl 4 (by decide) hw_102 rfl ?_
      obtain ⟨g10, hf⟩ := cx_gd_at hf
      refine cx_ti (f := fun j => cx_tabs.getD j 0) C dX6_takeItem_35 hE.2.1 (cx_ib_in g10) ?_
      clear g10
      refine cx_icmp_ge (tgt := 65) C dX6_takeItem_36 (by decide) (fun c11 => ?_) (fun c11 => ?_)
      · have hf := cx_if_t hf c11
        clear c11
        refine cx_aload_n C dX6_takeItem_65 0 rfl ?_
        obtain ⟨u12, e13, hf⟩ := cx_bd_at hf
        refine cx_Fvi (q := (RX6, TX6, 6)) (As := []) (rest := []) (w1 := (wd_Text k t_a t_bytes t_length u12.2.1 u12.2.2 h_7 a_8)) hA C me_X6_advance hw_496 (c_X6_advance l D k t_a t_bytes t_length h_5 h_6 h_7 a_8 u12 e13) dX6_takeItem_66 ⟨Nat.le_of_ble_eq_true rfl, Nat.le_of_ble_eq_true rfl⟩ ⟨Nat.zero_le _, Nat.zero_le _⟩ rfl rfl (Nat.le_of_ble_eq_true rfl) rfl rfl rfl ?_
        clear e13
        refine cx_iconst (v := 3) C dX6_takeItem_69 (by decide) ?_
        refine cx_icmp_ne (tgt := 77) C dX6_takeItem_70 (by decide) (fun c14 => ?_) (fun c14 => ?_)
        · have hf := cx_if_f hf c14
          clear c14
          refine cx_iconst (v := 0) C dX6_takeItem_77 (by decide) ?_
          obtain rfl := Option.some.inj hf
          exact cx_zret C hA hQ hr hlk dX6_takeItem_78 rfl rfl rfl
        · have hf := cx_if_t hf c14
          clear c14
          refine cx_iconst (v := 1) C dX6_takeItem_73 (by decide) ?_
          refine cx_goto (tgt := 78) C dX6_takeItem_74 (by decide) ?_
          obtain rfl := Option.some.inj hf
          exact cx_zret C hA hQ hr hlk dX6_takeItem_78 rfl rfl rfl
      · have hf := cx_if_f hf c11
        clear c11
        refine cx_aload_n C dX6_takeItem_39 0 rfl ?_
        obtain ⟨u15, e16, hf⟩ := cx_bd_at hf
        refine cx_Fvi (q := (RX6, TX6, 6)) (As := []) (rest := []) (w1 := (wd_Text k t_a t_bytes t_length u15.2.1 u15.2.2 h_7 a_8)) hA C me_X6_advance hw_496 (c_X6_advance l D k t_a t_bytes t_length h_5 h_6 h_7 a_8 u15 e16) dX6_takeItem_40 ⟨Nat.le_of_ble_eq_true rfl, Nat.le_of_ble_eq_true rfl⟩ ⟨Nat.zero_le _, Nat.zero_le _⟩ rfl rfl (Nat.le_of_ble_eq_true rfl) rfl rfl rfl ?_
        clear e16
        refine cx_iconst (v := 2) C dX6_takeItem_43 (by decide) ?_
        refine cx_icmp_eq (tgt := 49) C dX6_takeItem_44 (by decide) (fun c17 => ?_) (fun c17 => ?_)
        · have hf := cx_if_t hf c17
          clear c17
          refine cx_aload_n C dX6_takeItem_49 0 rfl ?_
          refine cx_get (v := .ref (t_a 2)) (ci := 5) C iX6 dX6_takeItem_50 0 rfl rfl 5 (by decide) hw_103 rfl ?_
          refine cx_iload_n C dX6_takeItem_53 1 rfl ?_
          refine cx_aload_n C dX6_takeItem_54 0 rfl ?_
          obtain ⟨u18, e19, hf⟩ := cx_bd_at hf
          refine cx_Fvi (q := (RX6, TX6, 6)) (As := []) (rest := [.int x2_9, .ref (t_a 2)]) (w1 := (wd_Text k t_a t_bytes t_length u15.2.1 u15.2.2 h_7 a_8)) hA C me_X6_numberOf hw_579 (c_X6_numberOf l D k t_a t_bytes t_length u15.2.1 u15.2.2 h_7 a_8 u18 e19) dX6_takeItem_55 ⟨Nat.le_of_ble_eq_true rfl, Nat.le_of_ble_eq_true rfl⟩ ⟨Nat.zero_le _, Nat.zero_le _⟩ rfl rfl (Nat.le_of_ble_eq_true rfl) rfl rfl rfl ?_
          clear e19
          obtain ⟨g20, hf⟩ := cx_gd_at hf
          obtain ⟨a21, ea21⟩ : ∃ z, z = upd a_8 (cx_ix x2_9) u18 := ⟨_, rfl⟩
          have hf := cx_let_at hf ea21
          refine cx_iast (ws' := (wd_Text k t_a t_bytes t_length u15.2.1 u15.2.2 h_7 a21)) C dX6_takeItem_58 2 rfl (cx_ib_in g20) (by rw [ea21]; rfl) ?_
          clear ea21 g20
          refine cx_iinc (v := x2_9 + 1) (lv' := [(2, .int (x2_9 + 1)), (0, .ref (t_a 0))]) C dX6_takeItem_59 1 rfl rfl (by decide) rfl ?_
          refine cx_goto (tgt := 27) C dX6_takeItem_62 (by decide) ?_
          refine cx_lv [1, 0] rfl ?_
          exact ih27 u15.2.1 u15.2.2 a21 (x2_9 + 1) hf
        · have hf := cx_if_f hf c17
          clear c17
          refine cx_iconst (v := 0) C dX6_takeItem_47 (by decide) ?_
          obtain rfl := Option.some.inj hf
          exact cx_zret C hA hQ hr hlk dX6_takeItem_48 rfl rfl rfl
  unfold f_X6_takeItem at hf
  refine cx_iload_n C dX6_takeItem_0 1 rfl ?_
  refine cx_iconst (v := 1) C dX6_takeItem_1 (by decide) ?_
  refine cx_icmp_eq (tgt := 7) C dX6_takeItem_2 (by decide) (fun c1 => ?_) (fun c1 => ?_)
  · have hf := cx_if_t hf c1
    clear c1
    refine cx_aload_n C dX6_takeItem_7 0 rfl ?_
    refine cx_aload_n C dX6_takeItem_8 0 rfl ?_
    obtain ⟨u2, e3, hf⟩ := cx_bd_at hf
    refine cx_EFvi (q := (RX6, TX6, 6)) (As := []) (rest := [.ref (t_a 0)]) (w1 := (wd_Text k t_a t_bytes t_length t_start t_end t_item t_numbers)) hE hA C me_X6_itemOf hw_510 (c_X6_itemOf l D k te adK adV t_a t_bytes t_length t_start t_end t_item t_numbers u2 e3) dX6_takeItem_9 ⟨Nat.le_of_ble_eq_true rfl, Nat.le_of_ble_eq_true rfl⟩ ⟨Nat.zero_le _, Nat.zero_le _⟩ rfl rfl (Nat.le_of_ble_eq_true rfl) rfl rfl rfl ?_
    clear e3
    refine cx_putf (v := .int u2) (ty := .int) (ci := 5) (ws' := (wd_Text k t_a t_bytes t_length t_start t_end u2 t_numbers)) C iX6 tyX6 tyX6_ok nmX6 dX6_takeItem_12 0 rfl rfl 4 (by decide) hw_102 rfl (by decide +kernel) rfl rfl (Nat.le_of_ble_eq_true rfl) rfl ?_
    refine cx_aload_n C dX6_takeItem_15 0 rfl ?_
    refine cx_get (v := .int u2) (ci := 5) C iX6 dX6_takeItem_16 0 rfl rfl 4 (by decide) hw_102 rfl ?_
    refine cx_iconst (v := (-1)) C dX6_takeItem_19 (by decide) ?_
    refine cx_icmp_ne (tgt := 25) C dX6_takeItem_20 (by decide) (fun c4 => ?_) (fun c4 => ?_)
    · have hf := cx_if_f hf c4
      clear c4
      refine cx_iconst (v := 0) C dX6_takeItem_25 (by decide) ?_
      refine cx_istore_n (lv' := [(2, .int 0), (0, .ref (t_a 0)), (1, .int p1)]) C dX6_takeItem_26 rfl (by decide) rfl ?_
      refine cx_lv [1, 0] rfl ?_
      exact L27 u2 cx_N0 t_start t_end t_numbers 0 hf
    · have hf := cx_if_t hf c4
      clear c4
      refine cx_iconst (v := 0) C dX6_takeItem_23 (by decide) ?_
      obtain rfl := Option.some.inj hf
      exact cx_zret C hA hQ hr hlk dX6_takeItem_24 rfl rfl rfl
  · have hf := cx_if_f hf c1
    clear c1
    refine cx_iconst (v := 0) C dX6_takeItem_5 (by decide) ?_
    obtain rfl := Option.some.inj hf
    exact cx_zret C hA hQ hr hlk dX6_takeItem_6 rfl rfl rfl
theorem dX6_findFault_0 : decode cX6_findFault 0 = .ok (.aload_n 0, 1) := by decide +kernel
theorem dX6_findFault_1 : decode cX6_findFault 1 = .ok (.iconst 0, 1) := by decide +kernel
theorem dX6_findFault_2 : decode cX6_findFault 2 = .ok (.putfield 22, 3) := by decide +kernel
theorem dX6_findFault_5 : decode cX6_findFault 5 = .ok (.aload_n 0, 1) := by decide +kernel
theorem dX6_findFault_6 : decode cX6_findFault 6 = .ok (.invokevirtual 34, 3) := by decide +kernel
theorem dX6_findFault_9 : decode cX6_findFault 9 = .ok (.istore_n 1, 1) := by decide +kernel
theorem dX6_findFault_10 : decode cX6_findFault 10 = .ok (.iconst 0, 1) := by decide +kernel
theorem dX6_findFault_11 : decode cX6_findFault 11 = .ok (.istore_n 2, 1) := by decide +kernel
theorem dX6_findFault_12 : decode cX6_findFault 12 = .ok (.iload_n 2, 1) := by decide +kernel
theorem dX6_findFault_13 : decode cX6_findFault 13 = .ok (.sipush 300, 3) := by decide +kernel
theorem dX6_findFault_16 : decode cX6_findFault 16 = .ok (.if_icmp .ge 31, 3) := by decide +kernel
theorem dX6_findFault_19 : decode cX6_findFault 19 = .ok (.iload_n 1, 1) := by decide +kernel
theorem dX6_findFault_20 : decode cX6_findFault 20 = .ok (.ifCond .eq 27, 3) := by decide +kernel
theorem dX6_findFault_23 : decode cX6_findFault 23 = .ok (.aload_n 0, 1) := by decide +kernel
theorem dX6_findFault_24 : decode cX6_findFault 24 = .ok (.iload_n 1, 1) := by decide +kernel
theorem dX6_findFault_25 : decode cX6_findFault 25 = .ok (.invokevirtual 38, 3) := by decide +kernel
theorem dX6_findFault_28 : decode cX6_findFault 28 = .ok (.ifCond .ne 8, 3) := by decide +kernel
theorem dX6_findFault_31 : decode cX6_findFault 31 = .ok (.aload_n 0, 1) := by decide +kernel
theorem dX6_findFault_32 : decode cX6_findFault 32 = .ok (.getfield 19, 3) := by decide +kernel
theorem dX6_findFault_35 : decode cX6_findFault 35 = .ok (.ireturn, 1) := by decide +kernel
theorem dX6_findFault_36 : decode cX6_findFault 36 = .ok (.aload_n 0, 1) := by decide +kernel
theorem dX6_findFault_37 : decode cX6_findFault 37 = .ok (.invokevirtual 34, 3) := by decide +kernel
theorem dX6_findFault_40 : decode cX6_findFault 40 = .ok (.istore_n 1, 1) := by decide +kernel
theorem dX6_findFault_41 : decode cX6_findFault 41 = .ok (.iinc 2 1, 3) := by decide +kernel
theorem dX6_findFault_44 : decode cX6_findFault 44 = .ok (.goto (-32), 3) := by decide +kernel
theorem dX6_findFault_47 : decode cX6_findFault 47 = .ok (.iconst (-1), 1) := by decide +kernel
theorem dX6_findFault_48 : decode cX6_findFault 48 = .ok (.ireturn, 1) := by decide +kernel
theorem me_X6_findFault : cx_Mv yX6_findFault cX6_findFault 3 (some .int) 0 := ⟨⟨⟨by decide +kernel, by decide +kernel, by decide +kernel⟩, hw_5, hw_495⟩, hw_493, hw_494⟩
noncomputable def f_X6_findFault_L12 (t_bytes : Nat → Int32) (t_length : Int32) (rc12 : Int32 → Int32 → Int32 → (Nat → Int32) → Int32 → Int32 → Option (Int32 × Int32 × Int32 × Int32 × (Nat → Int32))) (h_3 : Int32) (h_4 : Int32) (h_5 : Int32) (a_6 : Nat → Int32) (x1_7 : Int32) (x2_8 : Int32) : Option (Int32 × Int32 × Int32 × Int32 × (Nat → Int32)) := if 300 ≤ x2_8 then (some (((-1), h_3, h_4, h_5, a_6))) else (if x1_7 = 0 then (some (((-1), h_3, h_4, h_5, a_6))) else (Option.bind (f_X6_takeItem t_bytes t_length h_3 h_4 h_5 a_6 x1_7) (fun u11 => if u11.1 = 0 then (some ((u11.2.1, u11.2.1, u11.2.2.1, u11.2.2.2.1, u11.2.2.2.2))) else (Option.bind (f_X6_advance t_bytes t_length u11.2.2.1) (fun u14 => rc12 u14.2.1 u14.2.2 u11.2.2.2.1 u11.2.2.2.2 u14.1 (x2_8 + 1))))))
noncomputable def f_X6_findFault_L12w (t_bytes : Nat → Int32) (t_length : Int32) (n : Nat) : Int32 → Int32 → Int32 → (Nat → Int32) → Int32 → Int32 → Option (Int32 × Int32 × Int32 × Int32 × (Nat → Int32)) := Nat.rec (fun _ _ _ _ _ _ => none) (fun _ r => f_X6_findFault_L12 t_bytes t_length r) n
noncomputable def f_X6_findFault (t_bytes : Nat → Int32) (t_length : Int32) (t_item : Int32) (t_numbers : Nat → Int32) : Option (Int32 × Int32 × Int32 × Int32 × (Nat → Int32)) := Option.bind (f_X6_advance t_bytes t_length 0) (fun u1 => f_X6_findFault_L12w t_bytes t_length cx_N0 u1.2.1 u1.2.2 t_item t_numbers u1.1 0)
set_option maxHeartbeats 4000000 in
set_option maxRecDepth 100000 in
theorem c_X6_findFault (l : Launch) (D : va_G) (k : Nat → ClassId) (te : Nat) (adK adV : Nat → Nat) (t_a : Nat → Nat) (t_bytes : Nat → Int32) (t_length : Int32) (t_start : Int32) (t_end : Int32) (t_item : Int32) (t_numbers : Nat → Int32) (y : Int32 × Int32 × Int32 × Int32 × (Nat → Int32)) (hf : f_X6_findFault t_bytes t_length t_item t_numbers = some y) : cx_ME l yX6_findFault cX6_findFault 3 (some .int) 8 D k te adK adV [.ref (t_a 0)] (wd_Text k t_a t_bytes t_length t_start t_end t_item t_numbers) (fun sz => cx_Qi D y.1 (wd_Text k t_a t_bytes t_length t_start t_end t_item t_numbers) (wd_Text k t_a t_bytes t_length y.2.1 y.2.2.1 y.2.2.2.1 y.2.2.2.2) sz) := by
  refine cx_metE (own := "NamelessBox$Text") (by decide) rfl (Nat.le_of_ble_eq_true rfl) ?_
  intro p e s m args below meth c A Q C hE hA hQ hr hlk
  refine cx_lv (lv' := [(0, .ref (t_a 0))]) [0] rfl ?_
  have L12 : ∀ (n12 : Nat) (h_3 : Int32) (h_4 : Int32) (h_5 : Int32) (a_6 : Nat → Int32) (x1_7 : Int32) (x2_8 : Int32), f_X6_findFault_L12w t_bytes t_length n12 h_3 h_4 h_5 a_6 x1_7 x2_8 = some y → cx_S p l e (cx_rm 8) s m args below meth c A D 3 0 0 Q 12 [(0, .ref (t_a 0)), (1, .int x1_7), (2, .int x2_8)] [] (wd_Text k t_a t_bytes t_length h_3 h_4 h_5 a_6) := by
    intro  n12
    induction n12 with
    | zero =>
      intro h_3 h_4 h_5 a_6 x1_7 x2_8 hf
      exact absurd (show (none : Option (Int32 × Int32 × Int32 × Int32 × (Nat → Int32))) = some y from hf) (fun h => by cases h)
    | succ n12 ih12 =>
      intro h_3 h_4 h_5 a_6 x1_7 x2_8 hf
      have hf : f_X6_findFault_L12 t_bytes t_length (f_X6_findFault_L12w t_bytes t_length n12) h_3 h_4 h_5 a_6 x1_7 x2_8 = some y := hf
      unfold f_X6_findFault_L12 at hf
      refine cx_iload_n C dX6_findFault_12 2 rfl ?_
      refine cx_sipush (v := 300) C dX6_findFault_13 (by decide) ?_
      refine cx_icmp_ge (tgt := 47) C dX6_findFault_16 (by decide) (fun c9 => ?_) (fun c9 => ?_)
      · have hf := cx_if_t hf c9
        clear c9
        refine cx_iconst (v := (-1)) C dX6_findFault_47 (by decide) ?_
        obtain rfl := Option.some.inj hf
        exact cx_iret C hA hQ hr hlk dX6_findFault_48 rfl rfl
      · have hf := cx_if_f hf c9
        clear c9
        refine cx_iload_n C dX6_findFault_19 1 rfl ?_
        refine cx_if_eq (tgt := 47) C dX6_findFault_20 (by decide) (fun c10 => ?_) (fun c10 => ?_)
        · have hf := cx_if_t hf c10
          clear c10
          refine cx_iconst (v := (-1)) C dX6_findFault_47 (by decide) ?_
          obtain rfl := Option.some.inj hf
          exact cx_iret C hA hQ hr hlk dX6_findFault_48 rfl rfl
        · have hf := cx_if_f hf c10
          clear c10
          refine cx_aload_n C dX6_findFault_23 0 rfl ?_
          refine cx_iload_n C dX6_findFault_24 1 rfl ?_
          obtain ⟨u11, e12, hf⟩ := cx_bd_at hf
          refine cx_EFvi (q := (RX6, TX6, 6)) (As := [.int x1_7]) (rest := []) (w1 := (wd_Text k t_a t_bytes t_length u11.2.1 u11.2.2.1 u11.2.2.2.1 u11.2.2.2.2)) hE hA C me_X6_takeItem hw_506 (c_X6_takeItem l D k te adK adV t_a t_bytes t_length h_3 h_4 h_5 a_6 x1_7 u11 e12) dX6_findFault_25 ⟨Nat.le_of_ble_eq_true rfl, Nat.le_of_ble_eq_true rfl⟩ ⟨Nat.zero_le _, Nat.zero_le _⟩ rfl rfl (Nat.le_of_ble_eq_true rfl) rfl rfl rfl ?_
          clear e12
          refine cx_if_ne (tgt := 36) C dX6_findFault_28 (by decide) (fun c13 => ?_) (fun c13 => ?_)
          · have hf := cx_if_f hf c13
            clear c13
            refine cx_aload_n C dX6_findFault_36 0 rfl ?_
            obtain ⟨u14, e15, hf⟩ := cx_bd_at hf
            refine cx_Fvi (q := (RX6, TX6, 6)) (As := []) (rest := []) (w1 := (wd_Text k t_a t_bytes t_length u14.2.1 u14.2.2 u11.2.2.2.1 u11.2.2.2.2)) hA C me_X6_advance hw_496 (c_X6_advance l D k t_a t_bytes t_length u11.2.1 u11.2.2.1 u11.2.2.2.1 u11.2.2.2.2 u14 e15) dX6_findFault_37 ⟨Nat.le_of_ble_eq_true rfl, Nat.le_of_ble_eq_true rfl⟩ ⟨Nat.zero_le _, Nat.zero_le _⟩ rfl rfl (Nat.le_of_ble_eq_true rfl) rfl rfl rfl ?_
            clear e15
            refine cx_istore_n (lv' := [(1, .int u14.1), (0, .ref (t_a 0)), (2, .int x2_8)]) C dX6_findFault_40 rfl (by decide) rfl ?_
            refine cx_iinc (v := x2_8 + 1) (lv' := [(2, .int (x2_8 + 1)), (1, .int u14.1), (0, .ref (t_a 0))]) C dX6_findFault_41 2 rfl rfl (by decide) rfl ?_
            refine cx_goto (tgt := 12) C dX6_findFault_44 (by decide) ?_
            refine cx_lv [2, 1, 0] rfl ?_
            exact ih12 u14.2.1 u14.2.2 u11.2.2.2.1 u11.2.2.2.2 u14.1 (x2_8 + 1) hf
          · have hf := cx_if_t hf c13
            clear c13
            refine cx_aload_n C dX6_findFault_31 0 rfl ?_
            refine cx_get (v := .int u11.2.1) (ci := 5) C iX6 dX6_findFault_32 0 rfl rfl 2 (by decide) hw_100 rfl ?_
            obtain rfl := Option.some.inj hf
            exact cx_iret C hA hQ hr hlk dX6_findFault_35 rfl rfl
  unfold f_X6_findFault at hf
  refine cx_aload_n C dX6_findFault_0 0 rfl ?_
  refine cx_iconst (v := 0) C dX6_findFault_1 (by decide) ?_
  refine cx_putf (v := .int 0) (ty := .int) (ci := 5) (ws' := (wd_Text k t_a t_bytes t_length t_start 0 t_item t_numbers)) C iX6 tyX6 tyX6_ok nmX6 dX6_findFault_2 0 rfl rfl 3 (by decide) hw_101 rfl (by decide +kernel) rfl rfl (Nat.le_of_ble_eq_true rfl) rfl ?_
  refine cx_aload_n C dX6_findFault_5 0 rfl ?_
  obtain ⟨u1, e2, hf⟩ := cx_bd_at hf
  refine cx_Fvi (q := (RX6, TX6, 6)) (As := []) (rest := []) (w1 := (wd_Text k t_a t_bytes t_length u1.2.1 u1.2.2 t_item t_numbers)) hA C me_X6_advance hw_496 (c_X6_advance l D k t_a t_bytes t_length t_start 0 t_item t_numbers u1 e2) dX6_findFault_6 ⟨Nat.le_of_ble_eq_true rfl, Nat.le_of_ble_eq_true rfl⟩ ⟨Nat.zero_le _, Nat.zero_le _⟩ rfl rfl (Nat.le_of_ble_eq_true rfl) rfl rfl rfl ?_
  clear e2
  refine cx_istore_n (lv' := [(1, .int u1.1), (0, .ref (t_a 0))]) C dX6_findFault_9 rfl (by decide) rfl ?_
  refine cx_iconst (v := 0) C dX6_findFault_10 (by decide) ?_
  refine cx_istore_n (lv' := [(2, .int 0), (1, .int u1.1), (0, .ref (t_a 0))]) C dX6_findFault_11 rfl (by decide) rfl ?_
  refine cx_lv [2, 1, 0] rfl ?_
  exact L12 cx_N0 u1.2.1 u1.2.2 t_item t_numbers u1.1 0 hf
theorem dX6_tellItem_0 : decode cX6_tellItem 0 = .ok (.aload_n 0, 1) := by decide +kernel
theorem dX6_tellItem_1 : decode cX6_tellItem 1 = .ok (.getfield 28, 3) := by decide +kernel
theorem dX6_tellItem_4 : decode cX6_tellItem 4 = .ok (.astore_n 2, 1) := by decide +kernel
theorem dX6_tellItem_5 : decode cX6_tellItem 5 = .ok (.aload_n 0, 1) := by decide +kernel
theorem dX6_tellItem_6 : decode cX6_tellItem 6 = .ok (.getfield 25, 3) := by decide +kernel
theorem dX6_tellItem_9 : decode cX6_tellItem 9 = .ok (.tableswitch 144 0 6 #[43, 60, 71, 82, 93, 113, 130], 43) := by decide +kernel
theorem dX6_tellItem_52 : decode cX6_tellItem 52 = .ok (.aload_n 1, 1) := by decide +kernel
theorem dX6_tellItem_53 : decode cX6_tellItem 53 = .ok (.aload_n 2, 1) := by decide +kernel
theorem dX6_tellItem_54 : decode cX6_tellItem 54 = .ok (.iconst 0, 1) := by decide +kernel
theorem dX6_tellItem_55 : decode cX6_tellItem 55 = .ok (.iaload, 1) := by decide +kernel
theorem dX6_tellItem_56 : decode cX6_tellItem 56 = .ok (.aload_n 2, 1) := by decide +kernel
theorem dX6_tellItem_57 : decode cX6_tellItem 57 = .ok (.iconst 1, 1) := by decide +kernel
theorem dX6_tellItem_58 : decode cX6_tellItem 58 = .ok (.iaload, 1) := by decide +kernel
theorem dX6_tellItem_59 : decode cX6_tellItem 59 = .ok (.aload_n 2, 1) := by decide +kernel
theorem dX6_tellItem_60 : decode cX6_tellItem 60 = .ok (.iconst 2, 1) := by decide +kernel
theorem dX6_tellItem_61 : decode cX6_tellItem 61 = .ok (.iaload, 1) := by decide +kernel
theorem dX6_tellItem_62 : decode cX6_tellItem 62 = .ok (.aload_n 2, 1) := by decide +kernel
theorem dX6_tellItem_63 : decode cX6_tellItem 63 = .ok (.iconst 3, 1) := by decide +kernel
theorem dX6_tellItem_64 : decode cX6_tellItem 64 = .ok (.iaload, 1) := by decide +kernel
theorem dX6_tellItem_65 : decode cX6_tellItem 65 = .ok (.invokevirtual 60, 3) := by decide +kernel
theorem dX6_tellItem_68 : decode cX6_tellItem 68 = .ok (.ireturn, 1) := by decide +kernel
theorem dX6_tellItem_69 : decode cX6_tellItem 69 = .ok (.aload_n 1, 1) := by decide +kernel
theorem dX6_tellItem_70 : decode cX6_tellItem 70 = .ok (.aload_n 2, 1) := by decide +kernel
theorem dX6_tellItem_71 : decode cX6_tellItem 71 = .ok (.iconst 0, 1) := by decide +kernel
theorem dX6_tellItem_72 : decode cX6_tellItem 72 = .ok (.iaload, 1) := by decide +kernel
theorem dX6_tellItem_73 : decode cX6_tellItem 73 = .ok (.aload_n 2, 1) := by decide +kernel
theorem dX6_tellItem_74 : decode cX6_tellItem 74 = .ok (.iconst 1, 1) := by decide +kernel
theorem dX6_tellItem_75 : decode cX6_tellItem 75 = .ok (.iaload, 1) := by decide +kernel
theorem dX6_tellItem_76 : decode cX6_tellItem 76 = .ok (.invokevirtual 64, 3) := by decide +kernel
theorem dX6_tellItem_79 : decode cX6_tellItem 79 = .ok (.ireturn, 1) := by decide +kernel
theorem dX6_tellItem_80 : decode cX6_tellItem 80 = .ok (.aload_n 1, 1) := by decide +kernel
theorem dX6_tellItem_81 : decode cX6_tellItem 81 = .ok (.aload_n 2, 1) := by decide +kernel
theorem dX6_tellItem_82 : decode cX6_tellItem 82 = .ok (.iconst 0, 1) := by decide +kernel
theorem dX6_tellItem_83 : decode cX6_tellItem 83 = .ok (.iaload, 1) := by decide +kernel
theorem dX6_tellItem_84 : decode cX6_tellItem 84 = .ok (.aload_n 2, 1) := by decide +kernel
theorem dX6_tellItem_85 : decode cX6_tellItem 85 = .ok (.iconst 1, 1) := by decide +kernel
theorem dX6_tellItem_86 : decode cX6_tellItem 86 = .ok (.iaload, 1) := by decide +kernel
theorem dX6_tellItem_87 : decode cX6_tellItem 87 = .ok (.invokevirtual 68, 3) := by decide +kernel
theorem dX6_tellItem_90 : decode cX6_tellItem 90 = .ok (.ireturn, 1) := by decide +kernel
theorem dX6_tellItem_91 : decode cX6_tellItem 91 = .ok (.aload_n 1, 1) := by decide +kernel
theorem dX6_tellItem_92 : decode cX6_tellItem 92 = .ok (.aload_n 2, 1) := by decide +kernel
theorem dX6_tellItem_93 : decode cX6_tellItem 93 = .ok (.iconst 0, 1) := by decide +kernel
theorem dX6_tellItem_94 : decode cX6_tellItem 94 = .ok (.iaload, 1) := by decide +kernel
theorem dX6_tellItem_95 : decode cX6_tellItem 95 = .ok (.aload_n 2, 1) := by decide +kernel
theorem dX6_tellItem_96 : decode cX6_tellItem 96 = .ok (.iconst 1, 1) := by decide +kernel
theorem dX6_tellItem_97 : decode cX6_tellItem 97 = .ok (.iaload, 1) := by decide +kernel
theorem dX6_tellItem_98 : decode cX6_tellItem 98 = .ok (.invokevirtual 71, 3) := by decide +kernel
theorem dX6_tellItem_101 : decode cX6_tellItem 101 = .ok (.ireturn, 1) := by decide +kernel
theorem dX6_tellItem_102 : decode cX6_tellItem 102 = .ok (.aload_n 1, 1) := by decide +kernel
theorem dX6_tellItem_103 : decode cX6_tellItem 103 = .ok (.aload_n 2, 1) := by decide +kernel
theorem dX6_tellItem_104 : decode cX6_tellItem 104 = .ok (.iconst 0, 1) := by decide +kernel
theorem dX6_tellItem_105 : decode cX6_tellItem 105 = .ok (.iaload, 1) := by decide +kernel
theorem dX6_tellItem_106 : decode cX6_tellItem 106 = .ok (.aload_n 2, 1) := by decide +kernel
theorem dX6_tellItem_107 : decode cX6_tellItem 107 = .ok (.iconst 1, 1) := by decide +kernel
theorem dX6_tellItem_108 : decode cX6_tellItem 108 = .ok (.iaload, 1) := by decide +kernel
theorem dX6_tellItem_109 : decode cX6_tellItem 109 = .ok (.aload_n 2, 1) := by decide +kernel
theorem dX6_tellItem_110 : decode cX6_tellItem 110 = .ok (.iconst 2, 1) := by decide +kernel
theorem dX6_tellItem_111 : decode cX6_tellItem 111 = .ok (.iaload, 1) := by decide +kernel
theorem dX6_tellItem_112 : decode cX6_tellItem 112 = .ok (.aload_n 2, 1) := by decide +kernel
theorem dX6_tellItem_113 : decode cX6_tellItem 113 = .ok (.iconst 3, 1) := by decide +kernel
theorem dX6_tellItem_114 : decode cX6_tellItem 114 = .ok (.iaload, 1) := by decide +kernel
theorem dX6_tellItem_115 : decode cX6_tellItem 115 = .ok (.aload_n 2, 1) := by decide +kernel
theorem dX6_tellItem_116 : decode cX6_tellItem 116 = .ok (.iconst 4, 1) := by decide +kernel
theorem dX6_tellItem_117 : decode cX6_tellItem 117 = .ok (.iaload, 1) := by decide +kernel
theorem dX6_tellItem_118 : decode cX6_tellItem 118 = .ok (.invokevirtual 74, 3) := by decide +kernel
theorem dX6_tellItem_121 : decode cX6_tellItem 121 = .ok (.ireturn, 1) := by decide +kernel
theorem dX6_tellItem_122 : decode cX6_tellItem 122 = .ok (.aload_n 1, 1) := by decide +kernel
theorem dX6_tellItem_123 : decode cX6_tellItem 123 = .ok (.aload_n 2, 1) := by decide +kernel
theorem dX6_tellItem_124 : decode cX6_tellItem 124 = .ok (.iconst 0, 1) := by decide +kernel
theorem dX6_tellItem_125 : decode cX6_tellItem 125 = .ok (.iaload, 1) := by decide +kernel
theorem dX6_tellItem_126 : decode cX6_tellItem 126 = .ok (.aload_n 2, 1) := by decide +kernel
theorem dX6_tellItem_127 : decode cX6_tellItem 127 = .ok (.iconst 1, 1) := by decide +kernel
theorem dX6_tellItem_128 : decode cX6_tellItem 128 = .ok (.iaload, 1) := by decide +kernel
theorem dX6_tellItem_129 : decode cX6_tellItem 129 = .ok (.aload_n 2, 1) := by decide +kernel
theorem dX6_tellItem_130 : decode cX6_tellItem 130 = .ok (.iconst 2, 1) := by decide +kernel
theorem dX6_tellItem_131 : decode cX6_tellItem 131 = .ok (.iaload, 1) := by decide +kernel
theorem dX6_tellItem_132 : decode cX6_tellItem 132 = .ok (.aload_n 2, 1) := by decide +kernel
theorem dX6_tellItem_133 : decode cX6_tellItem 133 = .ok (.iconst 3, 1) := by decide +kernel
theorem dX6_tellItem_134 : decode cX6_tellItem 134 = .ok (.iaload, 1) := by decide +kernel
theorem dX6_tellItem_135 : decode cX6_tellItem 135 = .ok (.invokevirtual 78, 3) := by decide +kernel
theorem dX6_tellItem_138 : decode cX6_tellItem 138 = .ok (.ireturn, 1) := by decide +kernel
theorem dX6_tellItem_139 : decode cX6_tellItem 139 = .ok (.aload_n 1, 1) := by decide +kernel
theorem dX6_tellItem_140 : decode cX6_tellItem 140 = .ok (.aload_n 2, 1) := by decide +kernel
theorem dX6_tellItem_141 : decode cX6_tellItem 141 = .ok (.iconst 0, 1) := by decide +kernel
theorem dX6_tellItem_142 : decode cX6_tellItem 142 = .ok (.iaload, 1) := by decide +kernel
theorem dX6_tellItem_143 : decode cX6_tellItem 143 = .ok (.aload_n 2, 1) := by decide +kernel
theorem dX6_tellItem_144 : decode cX6_tellItem 144 = .ok (.iconst 1, 1) := by decide +kernel
theorem dX6_tellItem_145 : decode cX6_tellItem 145 = .ok (.iaload, 1) := by decide +kernel
theorem dX6_tellItem_146 : decode cX6_tellItem 146 = .ok (.aload_n 2, 1) := by decide +kernel
theorem dX6_tellItem_147 : decode cX6_tellItem 147 = .ok (.iconst 2, 1) := by decide +kernel
theorem dX6_tellItem_148 : decode cX6_tellItem 148 = .ok (.iaload, 1) := by decide +kernel
theorem dX6_tellItem_149 : decode cX6_tellItem 149 = .ok (.invokevirtual 81, 3) := by decide +kernel
theorem dX6_tellItem_152 : decode cX6_tellItem 152 = .ok (.ireturn, 1) := by decide +kernel
theorem dX6_tellItem_153 : decode cX6_tellItem 153 = .ok (.aload_n 1, 1) := by decide +kernel
theorem dX6_tellItem_154 : decode cX6_tellItem 154 = .ok (.aload_n 2, 1) := by decide +kernel
theorem dX6_tellItem_155 : decode cX6_tellItem 155 = .ok (.iconst 0, 1) := by decide +kernel
theorem dX6_tellItem_156 : decode cX6_tellItem 156 = .ok (.iaload, 1) := by decide +kernel
theorem dX6_tellItem_157 : decode cX6_tellItem 157 = .ok (.invokevirtual 85, 3) := by decide +kernel
theorem dX6_tellItem_160 : decode cX6_tellItem 160 = .ok (.ireturn, 1) := by decide +kernel
theorem me_X6_tellItem : cx_Mv yX6_tellItem cX6_tellItem 3 (some .int) 1 := ⟨⟨⟨by decide +kernel, by decide +kernel, by decide +kernel⟩, hw_5, hw_594⟩, hw_593, hs_9⟩
noncomputable def f_X6_tellItem (t_item : Int32) (t_numbers : Nat → Int32) (e1_c0 : Nat → Int32) (e1_z0 : Int32) (e1_c1 : Nat → Int32) (e1_z1 : Int32) (e1_c2 : Nat → Int32) (e1_z2 : Int32) (e1_c3 : Nat → Int32) (e1_z3 : Int32) (e1_c4 : Nat → Int32) (e1_z4 : Int32) (e1_sg : Int32) : Option (Int32 × Int32 × Int32 × (Nat → Int32) × Int32 × (Nat → Int32) × Int32 × (Nat → Int32) × Int32 × (Nat → Int32) × Int32 × (Nat → Int32)) := if t_item = 0 then (cx_gd (cx_ib 0 5) (cx_gd (cx_ib 1 5) (cx_gd (cx_ib 2 5) (cx_gd (cx_ib 3 5) (Option.bind (f_X1_addPerson e1_c0 e1_z0 (t_numbers (cx_ix 0)) (t_numbers (cx_ix 1)) (t_numbers (cx_ix 2)) (t_numbers (cx_ix 3))) (fun u39 => some ((u39.1, e1_sg, u39.2.1, u39.2.2, e1_z1, e1_c1, e1_z2, e1_c2, e1_z3, e1_c3, e1_z4, e1_c4)))))))) else (if t_item = 1 then (cx_gd (cx_ib 0 5) (cx_gd (cx_ib 1 5) (Option.bind (f_X1_setParent e1_c0 e1_z0 (t_numbers (cx_ix 0)) (t_numbers (cx_ix 1))) (fun u33 => some ((u33.1, e1_sg, e1_z0, u33.2, e1_z1, e1_c1, e1_z2, e1_c2, e1_z3, e1_c3, e1_z4, e1_c4)))))) else (if t_item = 2 then (cx_gd (cx_ib 0 5) (cx_gd (cx_ib 1 5) (Option.bind (f_X1_setNear e1_c0 e1_z0 (t_numbers (cx_ix 0)) (t_numbers (cx_ix 1))) (fun u29 => some ((u29.1, e1_sg, e1_z0, u29.2, e1_z1, e1_c1, e1_z2, e1_c2, e1_z3, e1_c3, e1_z4, e1_c4)))))) else (if t_item = 3 then (cx_gd (cx_ib 0 5) (cx_gd (cx_ib 1 5) (Option.bind (f_X1_addPicture e1_c1 e1_z1 (t_numbers (cx_ix 0)) (t_numbers (cx_ix 1))) (fun u25 => some ((u25.1, e1_sg, e1_z0, e1_c0, u25.2.1, u25.2.2, e1_z2, e1_c2, e1_z3, e1_c3, e1_z4, e1_c4)))))) else (if t_item = 4 then (cx_gd (cx_ib 0 5) (cx_gd (cx_ib 1 5) (cx_gd (cx_ib 2 5) (cx_gd (cx_ib 3 5) (cx_gd (cx_ib 4 5) (Option.bind (f_X1_addHead e1_z1 e1_c2 e1_z2 (t_numbers (cx_ix 0)) (t_numbers (cx_ix 1)) (t_numbers (cx_ix 2)) (t_numbers (cx_ix 3)) (t_numbers (cx_ix 4))) (fun u21 => some ((u21.1, e1_sg, e1_z0, e1_c0, e1_z1, e1_c1, u21.2.1, u21.2.2, e1_z3, e1_c3, e1_z4, e1_c4))))))))) else (if t_item = 5 then (cx_gd (cx_ib 0 5) (cx_gd (cx_ib 1 5) (cx_gd (cx_ib 2 5) (cx_gd (cx_ib 3 5) (Option.bind (f_X1_addName e1_z0 e1_z2 e1_c3 e1_z3 (t_numbers (cx_ix 0)) (t_numbers (cx_ix 1)) (t_numbers (cx_ix 2)) (t_numbers (cx_ix 3))) (fun u14 => some ((u14.1, e1_sg, e1_z0, e1_c0, e1_z1, e1_c1, e1_z2, e1_c2, u14.2.1, u14.2.2, e1_z4, e1_c4)))))))) else (if t_item = 6 then (cx_gd (cx_ib 0 5) (cx_gd (cx_ib 1 5) (cx_gd (cx_ib 2 5) (Option.bind (f_X1_addJoin e1_c2 e1_z2 e1_c4 e1_z4 (t_numbers (cx_ix 0)) (t_numbers (cx_ix 1)) (t_numbers (cx_ix 2))) (fun u8 => some ((u8.1, e1_sg, e1_z0, e1_c0, e1_z1, e1_c1, e1_z2, e1_c2, e1_z3, e1_c3, u8.2.1, u8.2.2))))))) else (cx_gd (cx_ib 0 5) (Option.bind (f_X1_setStrange e1_sg (t_numbers (cx_ix 0))) (fun u3 => some ((u3.1, u3.2, e1_z0, e1_c0, e1_z1, e1_c1, e1_z2, e1_c2, e1_z3, e1_c3, e1_z4, e1_c4)))))))))))
set_option maxHeartbeats 4000000 in
set_option maxRecDepth 100000 in
theorem c_X6_tellItem (l : Launch) (D : va_G) (k : Nat → ClassId) (t_a : Nat → Nat) (e1_a : Nat → Nat) (t_bytes : Nat → Int32) (t_length : Int32) (t_start : Int32) (t_end : Int32) (t_item : Int32) (t_numbers : Nat → Int32) (e1_c0 : Nat → Int32) (e1_z0 : Int32) (e1_c1 : Nat → Int32) (e1_z1 : Int32) (e1_c2 : Nat → Int32) (e1_z2 : Int32) (e1_c3 : Nat → Int32) (e1_z3 : Int32) (e1_c4 : Nat → Int32) (e1_z4 : Int32) (e1_sg : Int32) (y : Int32 × Int32 × Int32 × (Nat → Int32) × Int32 × (Nat → Int32) × Int32 × (Nat → Int32) × Int32 × (Nat → Int32) × Int32 × (Nat → Int32)) (hf : f_X6_tellItem t_item t_numbers e1_c0 e1_z0 e1_c1 e1_z1 e1_c2 e1_z2 e1_c3 e1_z3 e1_c4 e1_z4 e1_sg = some y) : cx_M l yX6_tellItem cX6_tellItem 3 (some .int) 4 D k [.ref (t_a 0), .ref (e1_a 0)] (wd_Text k t_a t_bytes t_length t_start t_end t_item t_numbers ++ (wd_Box k e1_a e1_c0 e1_z0 e1_c1 e1_z1 e1_c2 e1_z2 e1_c3 e1_z3 e1_c4 e1_z4 e1_sg)) (fun sz => cx_Qi D y.1 (wd_Text k t_a t_bytes t_length t_start t_end t_item t_numbers ++ (wd_Box k e1_a e1_c0 e1_z0 e1_c1 e1_z1 e1_c2 e1_z2 e1_c3 e1_z3 e1_c4 e1_z4 e1_sg)) (wd_Text k t_a t_bytes t_length t_start t_end t_item t_numbers ++ (wd_Box k e1_a y.2.2.2.1 y.2.2.1 y.2.2.2.2.2.1 y.2.2.2.2.1 y.2.2.2.2.2.2.2.1 y.2.2.2.2.2.2.1 y.2.2.2.2.2.2.2.2.2.1 y.2.2.2.2.2.2.2.2.1 y.2.2.2.2.2.2.2.2.2.2.2 y.2.2.2.2.2.2.2.2.2.2.1 y.2.1)) sz) := by
  refine cx_met (own := "NamelessBox$Text") (by decide) rfl (Nat.le_of_ble_eq_true rfl) ?_
  intro p e s m args below meth c A Q C hA hQ hr hlk
  refine cx_lv (lv' := [(0, .ref (t_a 0)), (1, .ref (e1_a 0))]) [0, 1] rfl ?_
  unfold f_X6_tellItem at hf
  refine cx_aload_n C dX6_tellItem_0 0 rfl ?_
  refine cx_get (v := .ref (t_a 2)) (ci := 5) C iX6 dX6_tellItem_1 0 rfl rfl 5 (by decide) hw_103 rfl ?_
  refine cx_astore_n (lv' := [(2, .ref (t_a 2)), (0, .ref (t_a 0)), (1, .ref (e1_a 0))]) C dX6_tellItem_4 rfl (by decide) rfl ?_
  refine cx_aload_n C dX6_tellItem_5 1 rfl ?_
  refine cx_get (v := .int t_item) (ci := 5) C iX6 dX6_tellItem_6 0 rfl rfl 4 (by decide) hw_102 rfl ?_
  by_cases c1_0 : t_item = 0
  · have hf := cx_if_t hf c1_0
    refine cx_tabIn (off := 43) (tgt := 52) C dX6_tellItem_9 (by rw [c1_0]; decide) (by rw [c1_0]; decide) (by rw [c1_0]; decide) (by decide) ?_
    clear c1_0
    refine cx_aload_n C dX6_tellItem_52 2 rfl ?_
    refine cx_aload_n C dX6_tellItem_53 0 rfl ?_
    refine cx_iconst (v := 0) C dX6_tellItem_54 (by decide) ?_
    obtain ⟨g35, hf⟩ := cx_gd_at hf
    refine cx_iald C dX6_tellItem_55 2 rfl (cx_ib_in g35) ?_
    clear g35
    refine cx_aload_n C dX6_tellItem_56 0 rfl ?_
    refine cx_iconst (v := 1) C dX6_tellItem_57 (by decide) ?_
    obtain ⟨g36, hf⟩ := cx_gd_at hf
    refine cx_iald C dX6_tellItem_58 2 rfl (cx_ib_in g36) ?_
    clear g36
    refine cx_aload_n C dX6_tellItem_59 0 rfl ?_
    refine cx_iconst (v := 2) C dX6_tellItem_60 (by decide) ?_
    obtain ⟨g37, hf⟩ := cx_gd_at hf
    refine cx_iald C dX6_tellItem_61 2 rfl (cx_ib_in g37) ?_
    clear g37
    refine cx_aload_n C dX6_tellItem_62 0 rfl ?_
    refine cx_iconst (v := 3) C dX6_tellItem_63 (by decide) ?_
    obtain ⟨g38, hf⟩ := cx_gd_at hf
    refine cx_iald C dX6_tellItem_64 2 rfl (cx_ib_in g38) ?_
    clear g38
    obtain ⟨u39, e40, hf⟩ := cx_bd_at hf
    refine cx_cvi (q := (RX1, TX1, 6)) (As := [.int (t_numbers (cx_ix 0)), .int (t_numbers (cx_ix 1)), .int (t_numbers (cx_ix 2)), .int (t_numbers (cx_ix 3))]) (rest := []) (ws' := (wd_Text k t_a t_bytes t_length t_start t_end t_item t_numbers ++ (wd_Box k e1_a u39.2.2 u39.2.1 e1_c1 e1_z1 e1_c2 e1_z2 e1_c3 e1_z3 e1_c4 e1_z4 e1_sg))) hA C me_X1_addPerson hw_595 (c_X1_addPerson l D k e1_a e1_c0 e1_z0 e1_c1 e1_z1 e1_c2 e1_z2 e1_c3 e1_z3 e1_c4 e1_z4 e1_sg (t_numbers (cx_ix 0)) (t_numbers (cx_ix 1)) (t_numbers (cx_ix 2)) (t_numbers (cx_ix 3)) u39 e40) dX6_tellItem_65 ⟨Nat.le_of_ble_eq_true rfl, Nat.le_of_ble_eq_true rfl⟩ ⟨Nat.zero_le _, Nat.zero_le _⟩ rfl rfl (Nat.le_of_ble_eq_true rfl) rfl rfl [3, 4, 5, 6, 7, 8, 9, 10, 11, 12, 13] rfl (by decide) rfl rfl ?_
    clear e40
    obtain rfl := Option.some.inj hf
    exact cx_iret C hA hQ hr hlk dX6_tellItem_68 rfl rfl
  · have hf := cx_if_f hf c1_0
    by_cases c1_1 : t_item = 1
    · have hf := cx_if_t hf c1_1
      refine cx_tabIn (off := 60) (tgt := 69) C dX6_tellItem_9 (by rw [c1_1]; decide) (by rw [c1_1]; decide) (by rw [c1_1]; decide) (by decide) ?_
      clear c1_1
      refine cx_aload_n C dX6_tellItem_69 2 rfl ?_
      refine cx_aload_n C dX6_tellItem_70 0 rfl ?_
      refine cx_iconst (v := 0) C dX6_tellItem_71 (by decide) ?_
      obtain ⟨g31, hf⟩ := cx_gd_at hf
      refine cx_iald C dX6_tellItem_72 2 rfl (cx_ib_in g31) ?_
      clear g31
      refine cx_aload_n C dX6_tellItem_73 0 rfl ?_
      refine cx_iconst (v := 1) C dX6_tellItem_74 (by decide) ?_
      obtain ⟨g32, hf⟩ := cx_gd_at hf
      refine cx_iald C dX6_tellItem_75 2 rfl (cx_ib_in g32) ?_
      clear g32
      obtain ⟨u33, e34, hf⟩ := cx_bd_at hf
      refine cx_cvi (q := (RX1, TX1, 6)) (As := [.int (t_numbers (cx_ix 0)), .int (t_numbers (cx_ix 1))]) (rest := []) (ws' := (wd_Text k t_a t_bytes t_length t_start t_end t_item t_numbers ++ (wd_Box k e1_a u33.2 e1_z0 e1_c1 e1_z1 e1_c2 e1_z2 e1_c3 e1_z3 e1_c4 e1_z4 e1_sg))) hA C me_X1_setParent hw_596 (c_X1_setParent l D k e1_a e1_c0 e1_z0 e1_c1 e1_z1 e1_c2 e1_z2 e1_c3 e1_z3 e1_c4 e1_z4 e1_sg (t_numbers (cx_ix 0)) (t_numbers (cx_ix 1)) u33 e34) dX6_tellItem_76 ⟨Nat.le_of_ble_eq_true rfl, Nat.le_of_ble_eq_true rfl⟩ ⟨Nat.zero_le _, Nat.zero_le _⟩ rfl rfl (Nat.le_of_ble_eq_true rfl) rfl rfl [3, 4, 5, 6, 7, 8, 9, 10, 11, 12, 13] rfl (by decide) rfl rfl ?_
      clear e34
      obtain rfl := Option.some.inj hf
      exact cx_iret C hA hQ hr hlk dX6_tellItem_79 rfl rfl
    · have hf := cx_if_f hf c1_1
      by_cases c1_2 : t_item = 2
      · have hf := cx_if_t hf c1_2
        refine cx_tabIn (off := 71) (tgt := 80) C dX6_tellItem_9 (by rw [c1_2]; decide) (by rw [c1_2]; decide) (by rw [c1_2]; decide) (by decide) ?_
        clear c1_2
        refine cx_aload_n C dX6_tellItem_80 2 rfl ?_
        refine cx_aload_n C dX6_tellItem_81 0 rfl ?_
        refine cx_iconst (v := 0) C dX6_tellItem_82 (by decide) ?_
        obtain ⟨g27, hf⟩ := cx_gd_at hf
        refine cx_iald C dX6_tellItem_83 2 rfl (cx_ib_in g27) ?_
        clear g27
        refine cx_aload_n C dX6_tellItem_84 0 rfl ?_
        refine cx_iconst (v := 1) C dX6_tellItem_85 (by decide) ?_
        obtain ⟨g28, hf⟩ := cx_gd_at hf
        refine cx_iald C dX6_tellItem_86 2 rfl (cx_ib_in g28) ?_
        clear g28
        obtain ⟨u29, e30, hf⟩ := cx_bd_at hf
        refine cx_cvi (q := (RX1, TX1, 6)) (As := [.int (t_numbers (cx_ix 0)), .int (t_numbers (cx_ix 1))]) (rest := []) (ws' := (wd_Text k t_a t_bytes t_length t_start t_end t_item t_numbers ++ (wd_Box k e1_a u29.2 e1_z0 e1_c1 e1_z1 e1_c2 e1_z2 e1_c3 e1_z3 e1_c4 e1_z4 e1_sg))) hA C me_X1_setNear hw_597 (c_X1_setNear l D k e1_a e1_c0 e1_z0 e1_c1 e1_z1 e1_c2 e1_z2 e1_c3 e1_z3 e1_c4 e1_z4 e1_sg (t_numbers (cx_ix 0)) (t_numbers (cx_ix 1)) u29 e30) dX6_tellItem_87 ⟨Nat.le_of_ble_eq_true rfl, Nat.le_of_ble_eq_true rfl⟩ ⟨Nat.zero_le _, Nat.zero_le _⟩ rfl rfl (Nat.le_of_ble_eq_true rfl) rfl rfl [3, 4, 5, 6, 7, 8, 9, 10, 11, 12, 13] rfl (by decide) rfl rfl ?_
        clear e30
        obtain rfl := Option.some.inj hf
        exact cx_iret C hA hQ hr hlk dX6_tellItem_90 rfl rfl
      · have hf := cx_if_f hf c1_2
        by_cases c1_3 : t_item = 3
        · have hf := cx_if_t hf c1_3
          refine cx_tabIn (off := 82) (tgt := 91) C dX6_tellItem_9 (by rw [c1_3]; decide) (by rw [c1_3]; decide) (by rw [c1_3]; decide) (by decide) ?_
          clear c1_3
          refine cx_aload_n C dX6_tellItem_91 2 rfl ?_
          refine cx_aload_n C dX6_tellItem_92 0 rfl ?_
          refine cx_iconst (v := 0) C dX6_tellItem_93 (by decide) ?_
          obtain ⟨g23, hf⟩ := cx_gd_at hf
          refine cx_iald C dX6_tellItem_94 2 rfl (cx_ib_in g23) ?_
          clear g23
          refine cx_aload_n C dX6_tellItem_95 0 rfl ?_
          refine cx_iconst (v := 1) C dX6_tellItem_96 (by decide) ?_
          obtain ⟨g24, hf⟩ := cx_gd_at hf
          refine cx_iald C dX6_tellItem_97 2 rfl (cx_ib_in g24) ?_
          clear g24
          obtain ⟨u25, e26, hf⟩ := cx_bd_at hf
          refine cx_cvi (q := (RX1, TX1, 6)) (As := [.int (t_numbers (cx_ix 0)), .int (t_numbers (cx_ix 1))]) (rest := []) (ws' := (wd_Text k t_a t_bytes t_length t_start t_end t_item t_numbers ++ (wd_Box k e1_a e1_c0 e1_z0 u25.2.2 u25.2.1 e1_c2 e1_z2 e1_c3 e1_z3 e1_c4 e1_z4 e1_sg))) hA C me_X1_addPicture hw_598 (c_X1_addPicture l D k e1_a e1_c0 e1_z0 e1_c1 e1_z1 e1_c2 e1_z2 e1_c3 e1_z3 e1_c4 e1_z4 e1_sg (t_numbers (cx_ix 0)) (t_numbers (cx_ix 1)) u25 e26) dX6_tellItem_98 ⟨Nat.le_of_ble_eq_true rfl, Nat.le_of_ble_eq_true rfl⟩ ⟨Nat.zero_le _, Nat.zero_le _⟩ rfl rfl (Nat.le_of_ble_eq_true rfl) rfl rfl [3, 4, 5, 6, 7, 8, 9, 10, 11, 12, 13] rfl (by decide) rfl rfl ?_
          clear e26
          obtain rfl := Option.some.inj hf
          exact cx_iret C hA hQ hr hlk dX6_tellItem_101 rfl rfl
        · have hf := cx_if_f hf c1_3
          by_cases c1_4 : t_item = 4
          · have hf := cx_if_t hf c1_4
            refine cx_tabIn (off := 93) (tgt := 102) C dX6_tellItem_9 (by rw [c1_4]; decide) (by rw [c1_4]; decide) (by rw [c1_4]; decide) (by decide) ?_
            clear c1_4
            refine cx_aload_n C dX6_tellItem_102 2 rfl ?_
            refine cx_aload_n C dX6_tellItem_103 0 rfl ?_
            refine cx_iconst (v := 0) C dX6_tellItem_104 (by decide) ?_
            obtain ⟨g16, hf⟩ := cx_gd_at hf
            refine cx_iald C dX6_tellItem_105 2 rfl (cx_ib_in g16) ?_
            clear g16
            refine cx_aload_n C dX6_tellItem_106 0 rfl ?_
            refine cx_iconst (v := 1) C dX6_tellItem_107 (by decide) ?_
            obtain ⟨g17, hf⟩ := cx_gd_at hf
            refine cx_iald C dX6_tellItem_108 2 rfl (cx_ib_in g17) ?_
            clear g17
            refine cx_aload_n C dX6_tellItem_109 0 rfl ?_
            refine cx_iconst (v := 2) C dX6_tellItem_110 (by decide) ?_
            obtain ⟨g18, hf⟩ := cx_gd_at hf
            refine cx_iald C dX6_tellItem_111 2 rfl (cx_ib_in g18) ?_
            clear g18
            refine cx_aload_n C dX6_tellItem_112 0 rfl ?_
            refine cx_iconst (v := 3) C dX6_tellItem_113 (by decide) ?_
            obtain ⟨g19, hf⟩ := cx_gd_at hf
            refine cx_iald C dX6_tellItem_114 2 rfl (cx_ib_in g19) ?_
            clear g19
            refine cx_aload_n C dX6_tellItem_115 0 rfl ?_
            refine cx_iconst (v := 4) C dX6_tellItem_116 (by decide) ?_
            obtain ⟨g20, hf⟩ := cx_gd_at hf
            refine cx_iald C dX6_tellItem_117 2 rfl (cx_ib_in g20) ?_
            clear g20
            obtain ⟨u21, e22, hf⟩ := cx_bd_at hf
            refine cx_cvi (q := (RX1, TX1, 6)) (As := [.int (t_numbers (cx_ix 0)), .int (t_numbers (cx_ix 1)), .int (t_numbers (cx_ix 2)), .int (t_numbers (cx_ix 3)), .int (t_numbers (cx_ix 4))]) (rest := []) (ws' := (wd_Text k t_a t_bytes t_length t_start t_end t_item t_numbers ++ (wd_Box k e1_a e1_c0 e1_z0 e1_c1 e1_z1 u21.2.2 u21.2.1 e1_c3 e1_z3 e1_c4 e1_z4 e1_sg))) hA C me_X1_addHead hw_599 (c_X1_addHead l D k e1_a e1_c0 e1_z0 e1_c1 e1_z1 e1_c2 e1_z2 e1_c3 e1_z3 e1_c4 e1_z4 e1_sg (t_numbers (cx_ix 0)) (t_numbers (cx_ix 1)) (t_numbers (cx_ix 2)) (t_numbers (cx_ix 3)) (t_numbers (cx_ix 4)) u21 e22) dX6_tellItem_118 ⟨Nat.le_of_ble_eq_true rfl, Nat.le_of_ble_eq_true rfl⟩ ⟨Nat.zero_le _, Nat.zero_le _⟩ rfl rfl (Nat.le_of_ble_eq_true rfl) rfl rfl [3, 4, 5, 6, 7, 8, 9, 10, 11, 12, 13] rfl (by decide) rfl rfl ?_
            clear e22
            obtain rfl := Option.some.inj hf
            exact cx_iret C hA hQ hr hlk dX6_tellItem_121 rfl rfl
          · have hf := cx_if_f hf c1_4
            by_cases c1_5 : t_item = 5
            · have hf := cx_if_t hf c1_5
              refine cx_tabIn (off := 113) (tgt := 122) C dX6_tellItem_9 (by rw [c1_5]; decide) (by rw [c1_5]; decide) (by rw [c1_5]; decide) (by decide) ?_
              clear c1_5
              refine cx_aload_n C dX6_tellItem_122 2 rfl ?_
              refine cx_aload_n C dX6_tellItem_123 0 rfl ?_
              refine cx_iconst (v := 0) C dX6_tellItem_124 (by decide) ?_
              obtain ⟨g10, hf⟩ := cx_gd_at hf
              refine cx_iald C dX6_tellItem_125 2 rfl (cx_ib_in g10) ?_
              clear g10
              refine cx_aload_n C dX6_tellItem_126 0 rfl ?_
              refine cx_iconst (v := 1) C dX6_tellItem_127 (by decide) ?_
              obtain ⟨g11, hf⟩ := cx_gd_at hf
              refine cx_iald C dX6_tellItem_128 2 rfl (cx_ib_in g11) ?_
              clear g11
              refine cx_aload_n C dX6_tellItem_129 0 rfl ?_
              refine cx_iconst (v := 2) C dX6_tellItem_130 (by decide) ?_
              obtain ⟨g12, hf⟩ := cx_gd_at hf
              refine cx_iald C dX6_tellItem_131 2 rfl (cx_ib_in g12) ?_
              clear g12
              refine cx_aload_n C dX6_tellItem_132 0 rfl ?_
              refine cx_iconst (v := 3) C dX6_tellItem_133 (by decide) ?_
              obtain ⟨g13, hf⟩ := cx_gd_at hf
              refine cx_iald C dX6_tellItem_134 2 rfl (cx_ib_in g13) ?_
              clear g13
              obtain ⟨u14, e15, hf⟩ := cx_bd_at hf
              refine cx_cvi (q := (RX1, TX1, 6)) (As := [.int (t_numbers (cx_ix 0)), .int (t_numbers (cx_ix 1)), .int (t_numbers (cx_ix 2)), .int (t_numbers (cx_ix 3))]) (rest := []) (ws' := (wd_Text k t_a t_bytes t_length t_start t_end t_item t_numbers ++ (wd_Box k e1_a e1_c0 e1_z0 e1_c1 e1_z1 e1_c2 e1_z2 u14.2.2 u14.2.1 e1_c4 e1_z4 e1_sg))) hA C me_X1_addName hw_600 (c_X1_addName l D k e1_a e1_c0 e1_z0 e1_c1 e1_z1 e1_c2 e1_z2 e1_c3 e1_z3 e1_c4 e1_z4 e1_sg (t_numbers (cx_ix 0)) (t_numbers (cx_ix 1)) (t_numbers (cx_ix 2)) (t_numbers (cx_ix 3)) u14 e15) dX6_tellItem_135 ⟨Nat.le_of_ble_eq_true rfl, Nat.le_of_ble_eq_true rfl⟩ ⟨Nat.zero_le _, Nat.zero_le _⟩ rfl rfl (Nat.le_of_ble_eq_true rfl) rfl rfl [3, 4, 5, 6, 7, 8, 9, 10, 11, 12, 13] rfl (by decide) rfl rfl ?_
              clear e15
              obtain rfl := Option.some.inj hf
              exact cx_iret C hA hQ hr hlk dX6_tellItem_138 rfl rfl
            · have hf := cx_if_f hf c1_5
              by_cases c1_6 : t_item = 6
              · have hf := cx_if_t hf c1_6
                refine cx_tabIn (off := 130) (tgt := 139) C dX6_tellItem_9 (by rw [c1_6]; decide) (by rw [c1_6]; decide) (by rw [c1_6]; decide) (by decide) ?_
                clear c1_6
                refine cx_aload_n C dX6_tellItem_139 2 rfl ?_
                refine cx_aload_n C dX6_tellItem_140 0 rfl ?_
                refine cx_iconst (v := 0) C dX6_tellItem_141 (by decide) ?_
                obtain ⟨g5, hf⟩ := cx_gd_at hf
                refine cx_iald C dX6_tellItem_142 2 rfl (cx_ib_in g5) ?_
                clear g5
                refine cx_aload_n C dX6_tellItem_143 0 rfl ?_
                refine cx_iconst (v := 1) C dX6_tellItem_144 (by decide) ?_
                obtain ⟨g6, hf⟩ := cx_gd_at hf
                refine cx_iald C dX6_tellItem_145 2 rfl (cx_ib_in g6) ?_
                clear g6
                refine cx_aload_n C dX6_tellItem_146 0 rfl ?_
                refine cx_iconst (v := 2) C dX6_tellItem_147 (by decide) ?_
                obtain ⟨g7, hf⟩ := cx_gd_at hf
                refine cx_iald C dX6_tellItem_148 2 rfl (cx_ib_in g7) ?_
                clear g7
                obtain ⟨u8, e9, hf⟩ := cx_bd_at hf
                refine cx_cvi (q := (RX1, TX1, 6)) (As := [.int (t_numbers (cx_ix 0)), .int (t_numbers (cx_ix 1)), .int (t_numbers (cx_ix 2))]) (rest := []) (ws' := (wd_Text k t_a t_bytes t_length t_start t_end t_item t_numbers ++ (wd_Box k e1_a e1_c0 e1_z0 e1_c1 e1_z1 e1_c2 e1_z2 e1_c3 e1_z3 u8.2.2 u8.2.1 e1_sg))) hA C me_X1_addJoin hw_601 (c_X1_addJoin l D k e1_a e1_c0 e1_z0 e1_c1 e1_z1 e1_c2 e1_z2 e1_c3 e1_z3 e1_c4 e1_z4 e1_sg (t_numbers (cx_ix 0)) (t_numbers (cx_ix 1)) (t_numbers (cx_ix 2)) u8 e9) dX6_tellItem_149 ⟨Nat.le_of_ble_eq_true rfl, Nat.le_of_ble_eq_true rfl⟩ ⟨Nat.zero_le _, Nat.zero_le _⟩ rfl rfl (Nat.le_of_ble_eq_true rfl) rfl rfl [3, 4, 5, 6, 7, 8, 9, 10, 11, 12, 13] rfl (by decide) rfl rfl ?_
                clear e9
                obtain rfl := Option.some.inj hf
                exact cx_iret C hA hQ hr hlk dX6_tellItem_152 rfl rfl
              · have hf := cx_if_f hf c1_6
                refine cx_tabOut (tgt := 153) C dX6_tellItem_9 (by have q0 := lv_neT (a := 0) c1_0 (by decide); have q1 := lv_neT (a := 1) c1_1 (by decide); have q2 := lv_neT (a := 2) c1_2 (by decide); have q3 := lv_neT (a := 3) c1_3 (by decide); have q4 := lv_neT (a := 4) c1_4 (by decide); have q5 := lv_neT (a := 5) c1_5 (by decide); have q6 := lv_neT (a := 6) c1_6 (by decide); omega) (by decide) ?_
                refine cx_aload_n C dX6_tellItem_153 2 rfl ?_
                refine cx_aload_n C dX6_tellItem_154 0 rfl ?_
                refine cx_iconst (v := 0) C dX6_tellItem_155 (by decide) ?_
                obtain ⟨g2, hf⟩ := cx_gd_at hf
                refine cx_iald C dX6_tellItem_156 2 rfl (cx_ib_in g2) ?_
                clear g2
                obtain ⟨u3, e4, hf⟩ := cx_bd_at hf
                refine cx_cvi (q := (RX1, TX1, 6)) (As := [.int (t_numbers (cx_ix 0))]) (rest := []) (ws' := (wd_Text k t_a t_bytes t_length t_start t_end t_item t_numbers ++ (wd_Box k e1_a e1_c0 e1_z0 e1_c1 e1_z1 e1_c2 e1_z2 e1_c3 e1_z3 e1_c4 e1_z4 u3.2))) hA C me_X1_setStrange hw_602 (c_X1_setStrange l D k e1_a e1_c0 e1_z0 e1_c1 e1_z1 e1_c2 e1_z2 e1_c3 e1_z3 e1_c4 e1_z4 e1_sg (t_numbers (cx_ix 0)) u3 e4) dX6_tellItem_157 ⟨Nat.le_of_ble_eq_true rfl, Nat.le_of_ble_eq_true rfl⟩ ⟨Nat.zero_le _, Nat.zero_le _⟩ rfl rfl (Nat.le_of_ble_eq_true rfl) rfl rfl [3, 4, 5, 6, 7, 8, 9, 10, 11, 12, 13] rfl (by decide) rfl rfl ?_
                clear e4
                obtain rfl := Option.some.inj hf
                exact cx_iret C hA hQ hr hlk dX6_tellItem_160 rfl rfl
theorem dX6_tell_0 : decode cX6_tell 0 = .ok (.aload_n 1, 1) := by decide +kernel
theorem dX6_tell_1 : decode cX6_tell 1 = .ok (.invokevirtual 42, 3) := by decide +kernel
theorem dX6_tell_4 : decode cX6_tell 4 = .ok (.aload_n 0, 1) := by decide +kernel
theorem dX6_tell_5 : decode cX6_tell 5 = .ok (.iconst 0, 1) := by decide +kernel
theorem dX6_tell_6 : decode cX6_tell 6 = .ok (.putfield 22, 3) := by decide +kernel
theorem dX6_tell_9 : decode cX6_tell 9 = .ok (.iconst 0, 1) := by decide +kernel
theorem dX6_tell_10 : decode cX6_tell 10 = .ok (.istore_n 2, 1) := by decide +kernel
theorem dX6_tell_11 : decode cX6_tell 11 = .ok (.aload_n 0, 1) := by decide +kernel
theorem dX6_tell_12 : decode cX6_tell 12 = .ok (.invokevirtual 34, 3) := by decide +kernel
theorem dX6_tell_15 : decode cX6_tell 15 = .ok (.istore_n 3, 1) := by decide +kernel
theorem dX6_tell_16 : decode cX6_tell 16 = .ok (.iconst 0, 1) := by decide +kernel
theorem dX6_tell_17 : decode cX6_tell 17 = .ok (.istore 4, 2) := by decide +kernel
theorem dX6_tell_19 : decode cX6_tell 19 = .ok (.iload 4, 2) := by decide +kernel
theorem dX6_tell_21 : decode cX6_tell 21 = .ok (.sipush 300, 3) := by decide +kernel
theorem dX6_tell_24 : decode cX6_tell 24 = .ok (.if_icmp .ge 42, 3) := by decide +kernel
theorem dX6_tell_27 : decode cX6_tell 27 = .ok (.iload_n 3, 1) := by decide +kernel
theorem dX6_tell_28 : decode cX6_tell 28 = .ok (.ifCond .eq 38, 3) := by decide +kernel
theorem dX6_tell_31 : decode cX6_tell 31 = .ok (.aload_n 0, 1) := by decide +kernel
theorem dX6_tell_32 : decode cX6_tell 32 = .ok (.iload_n 3, 1) := by decide +kernel
theorem dX6_tell_33 : decode cX6_tell 33 = .ok (.invokevirtual 38, 3) := by decide +kernel
theorem dX6_tell_36 : decode cX6_tell 36 = .ok (.ifCond .eq 30, 3) := by decide +kernel
theorem dX6_tell_39 : decode cX6_tell 39 = .ok (.aload_n 0, 1) := by decide +kernel
theorem dX6_tell_40 : decode cX6_tell 40 = .ok (.aload_n 1, 1) := by decide +kernel
theorem dX6_tell_41 : decode cX6_tell 41 = .ok (.invokevirtual 47, 3) := by decide +kernel
theorem dX6_tell_44 : decode cX6_tell 44 = .ok (.iconst (-1), 1) := by decide +kernel
theorem dX6_tell_45 : decode cX6_tell 45 = .ok (.if_icmp .ge 7, 3) := by decide +kernel
theorem dX6_tell_48 : decode cX6_tell 48 = .ok (.iconst (-1), 1) := by decide +kernel
theorem dX6_tell_49 : decode cX6_tell 49 = .ok (.iload_n 2, 1) := by decide +kernel
theorem dX6_tell_50 : decode cX6_tell 50 = .ok (.isub, 1) := by decide +kernel
theorem dX6_tell_51 : decode cX6_tell 51 = .ok (.ireturn, 1) := by decide +kernel
theorem dX6_tell_52 : decode cX6_tell 52 = .ok (.iinc 2 1, 3) := by decide +kernel
theorem dX6_tell_55 : decode cX6_tell 55 = .ok (.aload_n 0, 1) := by decide +kernel
theorem dX6_tell_56 : decode cX6_tell 56 = .ok (.invokevirtual 34, 3) := by decide +kernel
theorem dX6_tell_59 : decode cX6_tell 59 = .ok (.istore_n 3, 1) := by decide +kernel
theorem dX6_tell_60 : decode cX6_tell 60 = .ok (.iinc 4 1, 3) := by decide +kernel
theorem dX6_tell_63 : decode cX6_tell 63 = .ok (.goto (-44), 3) := by decide +kernel
theorem dX6_tell_66 : decode cX6_tell 66 = .ok (.iload_n 2, 1) := by decide +kernel
theorem dX6_tell_67 : decode cX6_tell 67 = .ok (.ireturn, 1) := by decide +kernel
theorem me_X6_tell : cx_Mv yX6_tell cX6_tell 5 (some .int) 1 := ⟨⟨⟨by decide +kernel, by decide +kernel, by decide +kernel⟩, hw_5, hw_586⟩, hw_584, hw_585⟩
noncomputable def f_X6_tell_L19 (t_bytes : Nat → Int32) (t_length : Int32) (rc19 : Int32 → Int32 → Int32 → (Nat → Int32) → Int32 → Int32 → (Nat → Int32) → Int32 → (Nat → Int32) → Int32 → (Nat → Int32) → Int32 → (Nat → Int32) → Int32 → (Nat → Int32) → Int32 → Int32 → Int32 → Option (Int32 × Int32 × Int32 × Int32 × (Nat → Int32) × Int32 × Int32 × (Nat → Int32) × Int32 × (Nat → Int32) × Int32 × (Nat → Int32) × Int32 × (Nat → Int32) × Int32 × (Nat → Int32))) (h_5 : Int32) (h_6 : Int32) (h_7 : Int32) (a_8 : Nat → Int32) (h_9 : Int32) (h_10 : Int32) (a_11 : Nat → Int32) (h_12 : Int32) (a_13 : Nat → Int32) (h_14 : Int32) (a_15 : Nat → Int32) (h_16 : Int32) (a_17 : Nat → Int32) (h_18 : Int32) (a_19 : Nat → Int32) (x2_20 : Int32) (x3_21 : Int32) (x4_22 : Int32) : Option (Int32 × Int32 × Int32 × Int32 × (Nat → Int32) × Int32 × Int32 × (Nat → Int32) × Int32 × (Nat → Int32) × Int32 × (Nat → Int32) × Int32 × (Nat → Int32) × Int32 × (Nat → Int32)) := if 300 ≤ x4_22 then (some ((x2_20, h_5, h_6, h_7, a_8, h_9, h_10, a_11, h_12, a_13, h_14, a_15, h_16, a_17, h_18, a_19))) else (if x3_21 = 0 then (some ((x2_20, h_5, h_6, h_7, a_8, h_9, h_10, a_11, h_12, a_13, h_14, a_15, h_16, a_17, h_18, a_19))) else (Option.bind (f_X6_takeItem t_bytes t_length h_5 h_6 h_7 a_8 x3_21) (fun u25 => if u25.1 = 0 then (some ((x2_20, u25.2.1, u25.2.2.1, u25.2.2.2.1, u25.2.2.2.2, h_9, h_10, a_11, h_12, a_13, h_14, a_15, h_16, a_17, h_18, a_19))) else (Option.bind (f_X6_tellItem u25.2.2.2.1 u25.2.2.2.2 a_11 h_10 a_13 h_12 a_15 h_14 a_17 h_16 a_19 h_18 h_9) (fun u28 => if ((-1)) ≤ u28.1 then (Option.bind (f_X6_advance t_bytes t_length u25.2.2.1) (fun u31 => rc19 u31.2.1 u31.2.2 u25.2.2.2.1 u25.2.2.2.2 u28.2.1 u28.2.2.1 u28.2.2.2.1 u28.2.2.2.2.1 u28.2.2.2.2.2.1 u28.2.2.2.2.2.2.1 u28.2.2.2.2.2.2.2.1 u28.2.2.2.2.2.2.2.2.1 u28.2.2.2.2.2.2.2.2.2.1 u28.2.2.2.2.2.2.2.2.2.2.1 u28.2.2.2.2.2.2.2.2.2.2.2 (x2_20 + 1) u31.1 (x4_22 + 1))) else (some ((((-1)) - x2_20, u25.2.1, u25.2.2.1, u25.2.2.2.1, u25.2.2.2.2, u28.2.1, u28.2.2.1, u28.2.2.2.1, u28.2.2.2.2.1, u28.2.2.2.2.2.1, u28.2.2.2.2.2.2.1, u28.2.2.2.2.2.2.2.1, u28.2.2.2.2.2.2.2.2.1, u28.2.2.2.2.2.2.2.2.2.1, u28.2.2.2.2.2.2.2.2.2.2.1, u28.2.2.2.2.2.2.2.2.2.2.2))))))))
noncomputable def f_X6_tell_L19w (t_bytes : Nat → Int32) (t_length : Int32) (n : Nat) : Int32 → Int32 → Int32 → (Nat → Int32) → Int32 → Int32 → (Nat → Int32) → Int32 → (Nat → Int32) → Int32 → (Nat → Int32) → Int32 → (Nat → Int32) → Int32 → (Nat → Int32) → Int32 → Int32 → Int32 → Option (Int32 × Int32 × Int32 × Int32 × (Nat → Int32) × Int32 × Int32 × (Nat → Int32) × Int32 × (Nat → Int32) × Int32 × (Nat → Int32) × Int32 × (Nat → Int32) × Int32 × (Nat → Int32)) := Nat.rec (fun _ _ _ _ _ _ _ _ _ _ _ _ _ _ _ _ _ _ => none) (fun _ r => f_X6_tell_L19 t_bytes t_length r) n
noncomputable def f_X6_tell (t_bytes : Nat → Int32) (t_length : Int32) (t_item : Int32) (t_numbers : Nat → Int32) (e1_c0 : Nat → Int32) (e1_c1 : Nat → Int32) (e1_c2 : Nat → Int32) (e1_c3 : Nat → Int32) (e1_c4 : Nat → Int32) : Option (Int32 × Int32 × Int32 × Int32 × (Nat → Int32) × Int32 × Int32 × (Nat → Int32) × Int32 × (Nat → Int32) × Int32 × (Nat → Int32) × Int32 × (Nat → Int32) × Int32 × (Nat → Int32)) := Option.bind (f_X1_empty) (fun u1 => Option.bind (f_X6_advance t_bytes t_length 0) (fun u3 => f_X6_tell_L19w t_bytes t_length cx_N0 u3.2.1 u3.2.2 t_item t_numbers u1.1 u1.2.1 e1_c0 u1.2.2.1 e1_c1 u1.2.2.2.1 e1_c2 u1.2.2.2.2.1 e1_c3 u1.2.2.2.2.2 e1_c4 0 u3.1 0))
set_option maxHeartbeats 4000000 in
set_option maxRecDepth 100000 in
theorem c_X6_tell (l : Launch) (D : va_G) (k : Nat → ClassId) (te : Nat) (adK adV : Nat → Nat) (t_a : Nat → Nat) (e1_a : Nat → Nat) (t_bytes : Nat → Int32) (t_length : Int32) (t_start : Int32) (t_end : Int32) (t_item : Int32) (t_numbers : Nat → Int32) (e1_c0 : Nat → Int32) (e1_z0 : Int32) (e1_c1 : Nat → Int32) (e1_z1 : Int32) (e1_c2 : Nat → Int32) (e1_z2 : Int32) (e1_c3 : Nat → Int32) (e1_z3 : Int32) (e1_c4 : Nat → Int32) (e1_z4 : Int32) (e1_sg : Int32) (y : Int32 × Int32 × Int32 × Int32 × (Nat → Int32) × Int32 × Int32 × (Nat → Int32) × Int32 × (Nat → Int32) × Int32 × (Nat → Int32) × Int32 × (Nat → Int32) × Int32 × (Nat → Int32)) (hf : f_X6_tell t_bytes t_length t_item t_numbers e1_c0 e1_c1 e1_c2 e1_c3 e1_c4 = some y) : cx_ME l yX6_tell cX6_tell 5 (some .int) 8 D k te adK adV [.ref (t_a 0), .ref (e1_a 0)] (wd_Text k t_a t_bytes t_length t_start t_end t_item t_numbers ++ (wd_Box k e1_a e1_c0 e1_z0 e1_c1 e1_z1 e1_c2 e1_z2 e1_c3 e1_z3 e1_c4 e1_z4 e1_sg)) (fun sz => cx_Qi D y.1 (wd_Text k t_a t_bytes t_length t_start t_end t_item t_numbers ++ (wd_Box k e1_a e1_c0 e1_z0 e1_c1 e1_z1 e1_c2 e1_z2 e1_c3 e1_z3 e1_c4 e1_z4 e1_sg)) (wd_Text k t_a t_bytes t_length y.2.1 y.2.2.1 y.2.2.2.1 y.2.2.2.2.1 ++ (wd_Box k e1_a y.2.2.2.2.2.2.2.1 y.2.2.2.2.2.2.1 y.2.2.2.2.2.2.2.2.2.1 y.2.2.2.2.2.2.2.2.1 y.2.2.2.2.2.2.2.2.2.2.2.1 y.2.2.2.2.2.2.2.2.2.2.1 y.2.2.2.2.2.2.2.2.2.2.2.2.2.1 y.2.2.2.2.2.2.2.2.2.2.2.2.1 y.2.2.2.2.2.2.2.2.2.2.2.2.2.2.2 y.2.2.2.2.2.2.2.2.2.2.2.2.2.2.1 y.2.2.2.2.2.1)) sz) := by
  refine cx_metE (own := "NamelessBox$Text") (by decide) rfl (Nat.le_of_ble_eq_true rfl) ?_
  intro p e s m args below meth c A Q C hE hA hQ hr hlk
  refine cx_lv (lv' := [(0, .ref (t_a 0)), (1, .ref (e1_a 0))]) [0, 1] rfl ?_
  have L19 : ∀ (n19 : Nat) (h_5 : Int32) (h_6 : Int32) (h_7 : Int32) (a_8 : Nat → Int32) (h_9 : Int32) (h_10 : Int32) (a_11 : Nat → Int32) (h_12 : Int32) (a_13 : Nat → Int32) (h_14 : Int32) (a_15 : Nat → Int32) (h_16 : Int32) (a_17 : Nat → Int32) (h_18 : Int32) (a_19 : Nat → Int32) (x2_20 : Int32) (x3_21 : Int32) (x4_22 : Int32), f_X6_tell_L19w t_bytes t_length n19 h_5 h_6 h_7 a_8 h_9 h_10 a_11 h_12 a_13 h_14 a_15 h_16 a_17 h_18 a_19 x2_20 x3_21 x4_22 = some y → cx_S p l e (cx_rm 8) s m args below meth c A D 5 0 0 Q 19 [(0, .ref (t_a 0)), (1, .ref (e1_a 0)), (2, .int x2_20), (3, .int x3_21), (4, .int x4_22)] [] (wd_Text k t_a t_bytes t_length h_5 h_6 h_7 a_8 ++ (wd_Box k e1_a a_11 h_10 a_13 h_12 a_15 h_14 a_17 h_16 a_19 h_18 h_9)) := by
    intro  n19
    induction n19 with
    | zero =>
      intro h_5 h_6 h_7 a_8 h_9 h_10 a_11 h_12 a_13 h_14 a_15 h_16 a_17 h_18 a_19 x2_20 x3_21 x4_22 hf
      exact absurd (show (none : Option (Int32 × Int32 × Int32 × Int32 × (Nat → Int32) × Int32 × Int32 × (Nat → Int32) × Int32 × (Nat → Int32) × Int32 × (Nat → Int32) × Int32 × (Nat → Int32) × Int32 × (Nat → Int32))) = some y from hf) (fun h => by cases h)
    | succ n19 ih19 =>
      intro h_5 h_6 h_7 a_8 h_9 h_10 a_11 h_12 a_13 h_14 a_15 h_16 a_17 h_18 a_19 x2_20 x3_21 x4_22 hf
      have hf : f_X6_tell_L19 t_bytes t_length (f_X6_tell_L19w t_bytes t_length n19) h_5 h_6 h_7 a_8 h_9 h_10 a_11 h_12 a_13 h_14 a_15 h_16 a_17 h_18 a_19 x2_20 x3_21 x4_22 = some y := hf
      unfold f_X6_tell_L19 at hf
      refine cx_iload C dX6_tell_19 4 rfl ?_
      refine cx_sipush (v := 300) C dX6_tell_21 (by decide) ?_
      refine cx_icmp_ge (tgt := 66) C dX6_tell_24 (by decide) (fun c23 => ?_) (fun c23 => ?_)
      · have hf := cx_if_t hf c23
        clear c23
        refine cx_iload_n C dX6_tell_66 2 rfl ?_
        obtain rfl := Option.some.inj hf
        exact cx_iret C hA hQ hr hlk dX6_tell_67 rfl rfl
      · have hf := cx_if_f hf c23
        clear c23
        refine cx_iload_n C dX6_tell_27 3 rfl ?_
        refine cx_if_eq (tgt := 66) C dX6_tell_28 (by decide) (fun c24 => ?_) (fun c24 => ?_)
        · have hf := cx_if_t hf c24
          clear c24
          refine cx_iload_n C dX6_tell_66 2 rfl ?_
          obtain rfl := Option.some.inj hf
          exact cx_iret C hA hQ hr hlk dX6_tell_67 rfl rfl
        · have hf := cx_if_f hf c24
          clear c24
          refine cx_aload_n C dX6_tell_31 0 rfl ?_
          refine cx_iload_n C dX6_tell_32 3 rfl ?_
          obtain ⟨u25, e26, hf⟩ := cx_bd_at hf
          refine cx_Ecvi (q := (RX6, TX6, 6)) (As := [.int x3_21]) (rest := []) (ws' := (wd_Text k t_a t_bytes t_length u25.2.1 u25.2.2.1 u25.2.2.2.1 u25.2.2.2.2 ++ (wd_Box k e1_a a_11 h_10 a_13 h_12 a_15 h_14 a_17 h_16 a_19 h_18 h_9))) hE hA C me_X6_takeItem hw_506 (c_X6_takeItem l D k te adK adV t_a t_bytes t_length h_5 h_6 h_7 a_8 x3_21 u25 e26) dX6_tell_33 ⟨Nat.le_of_ble_eq_true rfl, Nat.le_of_ble_eq_true rfl⟩ ⟨Nat.zero_le _, Nat.zero_le _⟩ rfl rfl (Nat.le_of_ble_eq_true rfl) rfl rfl [0, 1, 2] rfl (by decide) rfl rfl ?_
          clear e26
          refine cx_if_eq (tgt := 66) C dX6_tell_36 (by decide) (fun c27 => ?_) (fun c27 => ?_)
          · have hf := cx_if_t hf c27
            clear c27
            refine cx_iload_n C dX6_tell_66 2 rfl ?_
            obtain rfl := Option.some.inj hf
            exact cx_iret C hA hQ hr hlk dX6_tell_67 rfl rfl
          · have hf := cx_if_f hf c27
            clear c27
            refine cx_aload_n C dX6_tell_39 0 rfl ?_
            refine cx_aload_n C dX6_tell_40 1 rfl ?_
            obtain ⟨u28, e29, hf⟩ := cx_bd_at hf
            refine cx_Fvi (q := (RX6, TX6, 6)) (As := [.ref (e1_a 0)]) (rest := []) (w1 := (wd_Text k t_a t_bytes t_length u25.2.1 u25.2.2.1 u25.2.2.2.1 u25.2.2.2.2 ++ (wd_Box k e1_a u28.2.2.2.1 u28.2.2.1 u28.2.2.2.2.2.1 u28.2.2.2.2.1 u28.2.2.2.2.2.2.2.1 u28.2.2.2.2.2.2.1 u28.2.2.2.2.2.2.2.2.2.1 u28.2.2.2.2.2.2.2.2.1 u28.2.2.2.2.2.2.2.2.2.2.2 u28.2.2.2.2.2.2.2.2.2.2.1 u28.2.1))) hA C me_X6_tellItem hw_591 (c_X6_tellItem l D k t_a e1_a t_bytes t_length u25.2.1 u25.2.2.1 u25.2.2.2.1 u25.2.2.2.2 a_11 h_10 a_13 h_12 a_15 h_14 a_17 h_16 a_19 h_18 h_9 u28 e29) dX6_tell_41 ⟨Nat.le_of_ble_eq_true rfl, Nat.le_of_ble_eq_true rfl⟩ ⟨Nat.zero_le _, Nat.zero_le _⟩ rfl rfl (Nat.le_of_ble_eq_true rfl) rfl rfl rfl ?_
            clear e29
            refine cx_iconst (v := (-1)) C dX6_tell_44 (by decide) ?_
            refine cx_icmp_ge (tgt := 52) C dX6_tell_45 (by decide) (fun c30 => ?_) (fun c30 => ?_)
            · have hf := cx_if_t hf c30
              clear c30
              refine cx_iinc (v := x2_20 + 1) (lv' := [(2, .int (x2_20 + 1)), (0, .ref (t_a 0)), (1, .ref (e1_a 0)), (3, .int x3_21), (4, .int x4_22)]) C dX6_tell_52 2 rfl rfl (by decide) rfl ?_
              refine cx_aload_n C dX6_tell_55 1 rfl ?_
              obtain ⟨u31, e32, hf⟩ := cx_bd_at hf
              refine cx_cvi (q := (RX6, TX6, 6)) (As := []) (rest := []) (ws' := (wd_Text k t_a t_bytes t_length u31.2.1 u31.2.2 u25.2.2.2.1 u25.2.2.2.2 ++ (wd_Box k e1_a u28.2.2.2.1 u28.2.2.1 u28.2.2.2.2.2.1 u28.2.2.2.2.1 u28.2.2.2.2.2.2.2.1 u28.2.2.2.2.2.2.1 u28.2.2.2.2.2.2.2.2.2.1 u28.2.2.2.2.2.2.2.2.1 u28.2.2.2.2.2.2.2.2.2.2.2 u28.2.2.2.2.2.2.2.2.2.2.1 u28.2.1))) hA C me_X6_advance hw_496 (c_X6_advance l D k t_a t_bytes t_length u25.2.1 u25.2.2.1 u25.2.2.2.1 u25.2.2.2.2 u31 e32) dX6_tell_56 ⟨Nat.le_of_ble_eq_true rfl, Nat.le_of_ble_eq_true rfl⟩ ⟨Nat.zero_le _, Nat.zero_le _⟩ rfl rfl (Nat.le_of_ble_eq_true rfl) rfl rfl [0, 1, 2] rfl (by decide) rfl rfl ?_
              clear e32
              refine cx_istore_n (lv' := [(3, .int u31.1), (2, .int (x2_20 + 1)), (0, .ref (t_a 0)), (1, .ref (e1_a 0)), (4, .int x4_22)]) C dX6_tell_59 rfl (by decide) rfl ?_
              refine cx_iinc (v := x4_22 + 1) (lv' := [(4, .int (x4_22 + 1)), (3, .int u31.1), (2, .int (x2_20 + 1)), (0, .ref (t_a 0)), (1, .ref (e1_a 0))]) C dX6_tell_60 4 rfl rfl (by decide) rfl ?_
              refine cx_goto (tgt := 19) C dX6_tell_63 (by decide) ?_
              refine cx_lv [3, 4, 2, 1, 0] rfl ?_
              exact ih19 u31.2.1 u31.2.2 u25.2.2.2.1 u25.2.2.2.2 u28.2.1 u28.2.2.1 u28.2.2.2.1 u28.2.2.2.2.1 u28.2.2.2.2.2.1 u28.2.2.2.2.2.2.1 u28.2.2.2.2.2.2.2.1 u28.2.2.2.2.2.2.2.2.1 u28.2.2.2.2.2.2.2.2.2.1 u28.2.2.2.2.2.2.2.2.2.2.1 u28.2.2.2.2.2.2.2.2.2.2.2 (x2_20 + 1) u31.1 (x4_22 + 1) hf
            · have hf := cx_if_f hf c30
              clear c30
              refine cx_iconst (v := (-1)) C dX6_tell_48 (by decide) ?_
              refine cx_iload_n C dX6_tell_49 2 rfl ?_
              refine cx_isub C dX6_tell_50 ?_
              obtain rfl := Option.some.inj hf
              exact cx_iret C hA hQ hr hlk dX6_tell_51 rfl rfl
  unfold f_X6_tell at hf
  refine cx_aload_n C dX6_tell_0 1 rfl ?_
  obtain ⟨u1, e2, hf⟩ := cx_bd_at hf
  refine cx_cvv (q := (RX1, TX1, 6)) (As := []) (rest := []) (ws' := (wd_Text k t_a t_bytes t_length t_start t_end t_item t_numbers ++ (wd_Box k e1_a e1_c0 u1.2.1 e1_c1 u1.2.2.1 e1_c2 u1.2.2.2.1 e1_c3 u1.2.2.2.2.1 e1_c4 u1.2.2.2.2.2 u1.1))) hA C me_X1_empty hw_587 (c_X1_empty l D k e1_a e1_c0 e1_z0 e1_c1 e1_z1 e1_c2 e1_z2 e1_c3 e1_z3 e1_c4 e1_z4 e1_sg u1 e2) dX6_tell_1 ⟨Nat.le_of_ble_eq_true rfl, Nat.le_of_ble_eq_true rfl⟩ ⟨Nat.zero_le _, Nat.zero_le _⟩ rfl rfl (Nat.le_of_ble_eq_true rfl) rfl rfl [3, 4, 5, 6, 7, 8, 9, 10, 11, 12, 13] rfl (by decide) rfl rfl ?_
  clear e2
  refine cx_aload_n C dX6_tell_4 0 rfl ?_
  refine cx_iconst (v := 0) C dX6_tell_5 (by decide) ?_
  refine cx_putf (v := .int 0) (ty := .int) (ci := 5) (ws' := (wd_Text k t_a t_bytes t_length t_start 0 t_item t_numbers ++ (wd_Box k e1_a e1_c0 u1.2.1 e1_c1 u1.2.2.1 e1_c2 u1.2.2.2.1 e1_c3 u1.2.2.2.2.1 e1_c4 u1.2.2.2.2.2 u1.1))) C iX6 tyX6 tyX6_ok nmX6 dX6_tell_6 0 rfl rfl 3 (by decide) hw_101 rfl (by decide +kernel) rfl rfl (Nat.le_of_ble_eq_true rfl) rfl ?_
  refine cx_iconst (v := 0) C dX6_tell_9 (by decide) ?_
  refine cx_istore_n (lv' := [(2, .int 0), (0, .ref (t_a 0)), (1, .ref (e1_a 0))]) C dX6_tell_10 rfl (by decide) rfl ?_
  refine cx_aload_n C dX6_tell_11 1 rfl ?_
  obtain ⟨u3, e4, hf⟩ := cx_bd_at hf
  refine cx_cvi (q := (RX6, TX6, 6)) (As := []) (rest := []) (ws' := (wd_Text k t_a t_bytes t_length u3.2.1 u3.2.2 t_item t_numbers ++ (wd_Box k e1_a e1_c0 u1.2.1 e1_c1 u1.2.2.1 e1_c2 u1.2.2.2.1 e1_c3 u1.2.2.2.2.1 e1_c4 u1.2.2.2.2.2 u1.1))) hA C me_X6_advance hw_496 (c_X6_advance l D k t_a t_bytes t_length t_start 0 t_item t_numbers u3 e4) dX6_tell_12 ⟨Nat.le_of_ble_eq_true rfl, Nat.le_of_ble_eq_true rfl⟩ ⟨Nat.zero_le _, Nat.zero_le _⟩ rfl rfl (Nat.le_of_ble_eq_true rfl) rfl rfl [0, 1, 2] rfl (by decide) rfl rfl ?_
  clear e4
  refine cx_istore_n (lv' := [(3, .int u3.1), (2, .int 0), (0, .ref (t_a 0)), (1, .ref (e1_a 0))]) C dX6_tell_15 rfl (by decide) rfl ?_
  refine cx_iconst (v := 0) C dX6_tell_16 (by decide) ?_
  refine cx_istore (lv' := [(4, .int 0), (3, .int u3.1), (2, .int 0), (0, .ref (t_a 0)), (1, .ref (e1_a 0))]) C dX6_tell_17 (by decide) rfl ?_
  refine cx_lv [3, 4, 2, 1, 0] rfl ?_
  exact L19 cx_N0 u3.2.1 u3.2.2 t_item t_numbers u1.1 u1.2.1 e1_c0 u1.2.2.1 e1_c1 u1.2.2.2.1 e1_c2 u1.2.2.2.2.1 e1_c3 u1.2.2.2.2.2 e1_c4 0 u3.1 0 hf
theorem dX8_read_0 : decode cX8_read 0 = .ok (.aload_n 0, 1) := by decide +kernel
theorem dX8_read_1 : decode cX8_read 1 = .ok (.getfield 32, 3) := by decide +kernel
theorem dX8_read_4 : decode cX8_read 4 = .ok (.invokevirtual 163, 3) := by decide +kernel
theorem dX8_read_7 : decode cX8_read 7 = .ok (.istore_n 1, 1) := by decide +kernel
theorem dX8_read_8 : decode cX8_read 8 = .ok (.iload_n 1, 1) := by decide +kernel
theorem dX8_read_9 : decode cX8_read 9 = .ok (.iconst (-1), 1) := by decide +kernel
theorem dX8_read_10 : decode cX8_read 10 = .ok (.if_icmp .eq 8, 3) := by decide +kernel
theorem dX8_read_13 : decode cX8_read 13 = .ok (.bipush (-10), 2) := by decide +kernel
theorem dX8_read_15 : decode cX8_read 15 = .ok (.iload_n 1, 1) := by decide +kernel
theorem dX8_read_16 : decode cX8_read 16 = .ok (.isub, 1) := by decide +kernel
theorem dX8_read_17 : decode cX8_read 17 = .ok (.ireturn, 1) := by decide +kernel
theorem dX8_read_18 : decode cX8_read 18 = .ok (.aload_n 0, 1) := by decide +kernel
theorem dX8_read_19 : decode cX8_read 19 = .ok (.getfield 32, 3) := by decide +kernel
theorem dX8_read_22 : decode cX8_read 22 = .ok (.aload_n 0, 1) := by decide +kernel
theorem dX8_read_23 : decode cX8_read 23 = .ok (.getfield 16, 3) := by decide +kernel
theorem dX8_read_26 : decode cX8_read 26 = .ok (.invokevirtual 166, 3) := by decide +kernel
theorem dX8_read_29 : decode cX8_read 29 = .ok (.istore_n 2, 1) := by decide +kernel
theorem dX8_read_30 : decode cX8_read 30 = .ok (.iload_n 2, 1) := by decide +kernel
theorem dX8_read_31 : decode cX8_read 31 = .ok (.ifCond .ge 11, 3) := by decide +kernel
theorem dX8_read_34 : decode cX8_read 34 = .ok (.sipush (-1000), 3) := by decide +kernel
theorem dX8_read_37 : decode cX8_read 37 = .ok (.iconst (-1), 1) := by decide +kernel
theorem dX8_read_38 : decode cX8_read 38 = .ok (.iload_n 2, 1) := by decide +kernel
theorem dX8_read_39 : decode cX8_read 39 = .ok (.isub, 1) := by decide +kernel
theorem dX8_read_40 : decode cX8_read 40 = .ok (.isub, 1) := by decide +kernel
theorem dX8_read_41 : decode cX8_read 41 = .ok (.ireturn, 1) := by decide +kernel
theorem dX8_read_42 : decode cX8_read 42 = .ok (.aload_n 0, 1) := by decide +kernel
theorem dX8_read_43 : decode cX8_read 43 = .ok (.getfield 10, 3) := by decide +kernel
theorem dX8_read_46 : decode cX8_read 46 = .ok (.aload_n 0, 1) := by decide +kernel
theorem dX8_read_47 : decode cX8_read 47 = .ok (.getfield 16, 3) := by decide +kernel
theorem dX8_read_50 : decode cX8_read 50 = .ok (.invokevirtual 170, 3) := by decide +kernel
theorem dX8_read_53 : decode cX8_read 53 = .ok (.aload_n 0, 1) := by decide +kernel
theorem dX8_read_54 : decode cX8_read 54 = .ok (.iconst (-1), 1) := by decide +kernel
theorem dX8_read_55 : decode cX8_read 55 = .ok (.putfield 75, 3) := by decide +kernel
theorem dX8_read_58 : decode cX8_read 58 = .ok (.iload_n 2, 1) := by decide +kernel
theorem dX8_read_59 : decode cX8_read 59 = .ok (.ireturn, 1) := by decide +kernel
theorem me_X8_read : cx_Mv yX8_read cX8_read 3 (some .int) 0 := ⟨⟨⟨by decide +kernel, by decide +kernel, by decide +kernel⟩, hw_1, hw_491⟩, hw_489, hw_490⟩
noncomputable def f_X8_read (n_summed : Int32) (b0_c0 : Nat → Int32) (b0_z0 : Int32) (b0_c1 : Nat → Int32) (b0_z1 : Int32) (b0_c2 : Nat → Int32) (b0_z2 : Int32) (b0_c3 : Nat → Int32) (b0_z3 : Int32) (b0_c4 : Nat → Int32) (b0_z4 : Int32) (b0_sg : Int32) (b1_c0 : Nat → Int32) (b1_z0 : Int32) (b1_c1 : Nat → Int32) (b1_z1 : Int32) (b1_c2 : Nat → Int32) (b1_z2 : Int32) (b1_c3 : Nat → Int32) (b1_z3 : Int32) (b1_c4 : Nat → Int32) (b1_z4 : Int32) (b1_sg : Int32) (t_bytes : Nat → Int32) (t_length : Int32) (t_item : Int32) (t_numbers : Nat → Int32) : Option (Int32 × Int32 × Int32 × Int32 × (Nat → Int32) × Int32 × (Nat → Int32) × Int32 × (Nat → Int32) × Int32 × (Nat → Int32) × Int32 × (Nat → Int32) × Int32 × Int32 × (Nat → Int32) × Int32 × (Nat → Int32) × Int32 × (Nat → Int32) × Int32 × (Nat → Int32) × Int32 × (Nat → Int32) × Int32 × Int32 × Int32 × (Nat → Int32)) := Option.bind (f_X6_findFault t_bytes t_length t_item t_numbers) (fun u1 => if u1.1 = ((-1)) then (Option.bind (f_X6_tell t_bytes t_length u1.2.2.2.1 u1.2.2.2.2 b1_c0 b1_c1 b1_c2 b1_c3 b1_c4) (fun u4 => if 0 ≤ u4.1 then (Option.bind (f_X1_take b0_c0 b0_c1 b0_c2 b0_c3 b0_c4 u4.2.2.2.2.2.2.2.1 u4.2.2.2.2.2.2.1 u4.2.2.2.2.2.2.2.2.2.1 u4.2.2.2.2.2.2.2.2.1 u4.2.2.2.2.2.2.2.2.2.2.2.1 u4.2.2.2.2.2.2.2.2.2.2.1 u4.2.2.2.2.2.2.2.2.2.2.2.2.2.1 u4.2.2.2.2.2.2.2.2.2.2.2.2.1 u4.2.2.2.2.2.2.2.2.2.2.2.2.2.2.2 u4.2.2.2.2.2.2.2.2.2.2.2.2.2.2.1 u4.2.2.2.2.2.1) (fun u7 => some ((u4.1, (-1), u7.1, u7.2.1, u7.2.2.1, u7.2.2.2.1, u7.2.2.2.2.1, u7.2.2.2.2.2.1, u7.2.2.2.2.2.2.1, u7.2.2.2.2.2.2.2.1, u7.2.2.2.2.2.2.2.2.1, u7.2.2.2.2.2.2.2.2.2.1, u7.2.2.2.2.2.2.2.2.2.2, u4.2.2.2.2.2.1, u4.2.2.2.2.2.2.1, u4.2.2.2.2.2.2.2.1, u4.2.2.2.2.2.2.2.2.1, u4.2.2.2.2.2.2.2.2.2.1, u4.2.2.2.2.2.2.2.2.2.2.1, u4.2.2.2.2.2.2.2.2.2.2.2.1, u4.2.2.2.2.2.2.2.2.2.2.2.2.1, u4.2.2.2.2.2.2.2.2.2.2.2.2.2.1, u4.2.2.2.2.2.2.2.2.2.2.2.2.2.2.1, u4.2.2.2.2.2.2.2.2.2.2.2.2.2.2.2, u4.2.1, u4.2.2.1, u4.2.2.2.1, u4.2.2.2.2.1)))) else (some ((((-1000)) - (((-1)) - u4.1), n_summed, b0_sg, b0_z0, b0_c0, b0_z1, b0_c1, b0_z2, b0_c2, b0_z3, b0_c3, b0_z4, b0_c4, u4.2.2.2.2.2.1, u4.2.2.2.2.2.2.1, u4.2.2.2.2.2.2.2.1, u4.2.2.2.2.2.2.2.2.1, u4.2.2.2.2.2.2.2.2.2.1, u4.2.2.2.2.2.2.2.2.2.2.1, u4.2.2.2.2.2.2.2.2.2.2.2.1, u4.2.2.2.2.2.2.2.2.2.2.2.2.1, u4.2.2.2.2.2.2.2.2.2.2.2.2.2.1, u4.2.2.2.2.2.2.2.2.2.2.2.2.2.2.1, u4.2.2.2.2.2.2.2.2.2.2.2.2.2.2.2, u4.2.1, u4.2.2.1, u4.2.2.2.1, u4.2.2.2.2.1))))) else (some ((((-10)) - u1.1, n_summed, b0_sg, b0_z0, b0_c0, b0_z1, b0_c1, b0_z2, b0_c2, b0_z3, b0_c3, b0_z4, b0_c4, b1_sg, b1_z0, b1_c0, b1_z1, b1_c1, b1_z2, b1_c2, b1_z3, b1_c3, b1_z4, b1_c4, u1.2.1, u1.2.2.1, u1.2.2.2.1, u1.2.2.2.2))))
set_option maxHeartbeats 4000000 in
set_option maxRecDepth 100000 in
theorem c_X8_read (l : Launch) (D : va_G) (k : Nat → ClassId) (te : Nat) (adK adV : Nat → Nat) (n_a : Nat → Nat) (b0_a : Nat → Nat) (b1_a : Nat → Nat) (b2_a : Nat → Nat) (b3_a : Nat → Nat) (t_a : Nat → Nat) (f_a : Nat → Nat) (w_a : Nat → Nat) (v_a : Nat → Nat) (s_a : Nat → Nat) (q_a : Nat → Nat) (u_a : Nat → Nat) (n_kept : Nat → Int32) (n_refusals : Nat → Int32) (n_summed : Int32) (b0_c0 : Nat → Int32) (b0_z0 : Int32) (b0_c1 : Nat → Int32) (b0_z1 : Int32) (b0_c2 : Nat → Int32) (b0_z2 : Int32) (b0_c3 : Nat → Int32) (b0_z3 : Int32) (b0_c4 : Nat → Int32) (b0_z4 : Int32) (b0_sg : Int32) (b1_c0 : Nat → Int32) (b1_z0 : Int32) (b1_c1 : Nat → Int32) (b1_z1 : Int32) (b1_c2 : Nat → Int32) (b1_z2 : Int32) (b1_c3 : Nat → Int32) (b1_z3 : Int32) (b1_c4 : Nat → Int32) (b1_z4 : Int32) (b1_sg : Int32) (b2_c0 : Nat → Int32) (b2_z0 : Int32) (b2_c1 : Nat → Int32) (b2_z1 : Int32) (b2_c2 : Nat → Int32) (b2_z2 : Int32) (b2_c3 : Nat → Int32) (b2_z3 : Int32) (b2_c4 : Nat → Int32) (b2_z4 : Int32) (b2_sg : Int32) (b3_c0 : Nat → Int32) (b3_z0 : Int32) (b3_c1 : Nat → Int32) (b3_z1 : Int32) (b3_c2 : Nat → Int32) (b3_z2 : Int32) (b3_c3 : Nat → Int32) (b3_z3 : Int32) (b3_c4 : Nat → Int32) (b3_z4 : Int32) (b3_sg : Int32) (t_bytes : Nat → Int32) (t_length : Int32) (t_start : Int32) (t_end : Int32) (t_item : Int32) (t_numbers : Nat → Int32) (f_above : Nat → Int64) (f_below : Nat → Int64) (f_one : Nat → Int64) (f_other : Nat → Int64) (w_detail : Int32) (w_skipped : Int32) (w_early : Int32) (w_late : Int32) (w_firstOnly : Int32) (w_firstYear : Nat → Int32) (w_years : Nat → Int32) (w_place : Nat → Int32) (w_before : Nat → Int32) (w_closing : Nat → Int32) (w_likes : Nat → Int32) (w_likeSums : Nat → Int32) (w_namings : Nat → Int32) (w_products : Nat → Int64) (w_weights : Nat → Int64) (w_subtotals : Nat → Int64) (w_way : Nat → Int32) (v_detail : Int32) (v_skipped : Int32) (v_early : Int32) (v_late : Int32) (v_firstOnly : Int32) (v_firstYear : Nat → Int32) (v_years : Nat → Int32) (v_place : Nat → Int32) (v_before : Nat → Int32) (v_closing : Nat → Int32) (v_likes : Nat → Int32) (v_likeSums : Nat → Int32) (v_namings : Nat → Int32) (v_products : Nat → Int64) (v_weights : Nat → Int64) (v_subtotals : Nat → Int64) (v_way : Nat → Int32) (s_total : Nat → Int64) (s_shares : Nat → Int64) (s_pairs : Nat → Int64) (s_crowds : Nat → Int64) (s_bestWay : Nat → Int32) (s_bestWeight : Nat → Int64) (s_answer : Nat → Int64) (s_mine : Nat → Int64) (s_theirs : Nat → Int64) (s_people : Int32) (s_heads : Int32) (q_total : Nat → Int64) (q_shares : Nat → Int64) (q_pairs : Nat → Int64) (q_crowds : Nat → Int64) (q_bestWay : Nat → Int32) (q_bestWeight : Nat → Int64) (q_answer : Nat → Int64) (q_mine : Nat → Int64) (q_theirs : Nat → Int64) (q_people : Int32) (q_heads : Int32) (u_worth : Nat → Int64) (u_dearest : Nat → Int64) (u_unit : Nat → Int64) (u_wrongly : Nat → Int64) (u_guess : Nat → Int64) (u_most : Nat → Int64) (y : Int32 × Int32 × Int32 × Int32 × (Nat → Int32) × Int32 × (Nat → Int32) × Int32 × (Nat → Int32) × Int32 × (Nat → Int32) × Int32 × (Nat → Int32) × Int32 × Int32 × (Nat → Int32) × Int32 × (Nat → Int32) × Int32 × (Nat → Int32) × Int32 × (Nat → Int32) × Int32 × (Nat → Int32) × Int32 × Int32 × Int32 × (Nat → Int32)) (hf : f_X8_read n_summed b0_c0 b0_z0 b0_c1 b0_z1 b0_c2 b0_z2 b0_c3 b0_z3 b0_c4 b0_z4 b0_sg b1_c0 b1_z0 b1_c1 b1_z1 b1_c2 b1_z2 b1_c3 b1_z3 b1_c4 b1_z4 b1_sg t_bytes t_length t_item t_numbers = some y) : cx_ME l yX8_read cX8_read 3 (some .int) 9 D k te adK adV [.ref (n_a 0)] (wd_NB k n_a f_a t_a u_a v_a w_a b0_a b1_a b2_a b3_a n_kept n_refusals n_summed ++ (wd_Box k b0_a b0_c0 b0_z0 b0_c1 b0_z1 b0_c2 b0_z2 b0_c3 b0_z3 b0_c4 b0_z4 b0_sg ++ (wd_Box k b1_a b1_c0 b1_z0 b1_c1 b1_z1 b1_c2 b1_z2 b1_c3 b1_z3 b1_c4 b1_z4 b1_sg ++ (wd_Box k b2_a b2_c0 b2_z0 b2_c1 b2_z1 b2_c2 b2_z2 b2_c3 b2_z3 b2_c4 b2_z4 b2_sg ++ (wd_Box k b3_a b3_c0 b3_z0 b3_c1 b3_z1 b3_c2 b3_z2 b3_c3 b3_z3 b3_c4 b3_z4 b3_sg ++ (wd_Text k t_a t_bytes t_length t_start t_end t_item t_numbers ++ (wd_Frac k f_a f_above f_below f_one f_other ++ (wd_Ways k w_a b0_a s_a w_detail w_skipped w_early w_late w_firstOnly w_firstYear w_years w_place w_before w_closing w_likes w_likeSums w_namings w_products w_weights w_subtotals w_way ++ (wd_Ways k v_a b0_a q_a v_detail v_skipped v_early v_late v_firstOnly v_firstYear v_years v_place v_before v_closing v_likes v_likeSums v_namings v_products v_weights v_subtotals v_way ++ (wd_Sums k s_a 5184 s_total s_shares s_pairs s_crowds s_bestWay s_bestWeight s_answer s_mine s_theirs s_people s_heads ++ (wd_Sums k q_a 0 q_total q_shares q_pairs q_crowds q_bestWay q_bestWeight q_answer q_mine q_theirs q_people q_heads ++ (wd_Aunt k u_a b0_a s_a u_worth u_dearest u_unit u_wrongly u_guess u_most)))))))))))) (fun sz => cx_Qi D y.1 (wd_NB k n_a f_a t_a u_a v_a w_a b0_a b1_a b2_a b3_a n_kept n_refusals n_summed ++ (wd_Box k b0_a b0_c0 b0_z0 b0_c1 b0_z1 b0_c2 b0_z2 b0_c3 b0_z3 b0_c4 b0_z4 b0_sg ++ (wd_Box k b1_a b1_c0 b1_z0 b1_c1 b1_z1 b1_c2 b1_z2 b1_c3 b1_z3 b1_c4 b1_z4 b1_sg ++ (wd_Box k b2_a b2_c0 b2_z0 b2_c1 b2_z1 b2_c2 b2_z2 b2_c3 b2_z3 b2_c4 b2_z4 b2_sg ++ (wd_Box k b3_a b3_c0 b3_z0 b3_c1 b3_z1 b3_c2 b3_z2 b3_c3 b3_z3 b3_c4 b3_z4 b3_sg ++ (wd_Text k t_a t_bytes t_length t_start t_end t_item t_numbers ++ (wd_Frac k f_a f_above f_below f_one f_other ++ (wd_Ways k w_a b0_a s_a w_detail w_skipped w_early w_late w_firstOnly w_firstYear w_years w_place w_before w_closing w_likes w_likeSums w_namings w_products w_weights w_subtotals w_way ++ (wd_Ways k v_a b0_a q_a v_detail v_skipped v_early v_late v_firstOnly v_firstYear v_years v_place v_before v_closing v_likes v_likeSums v_namings v_products v_weights v_subtotals v_way ++ (wd_Sums k s_a 5184 s_total s_shares s_pairs s_crowds s_bestWay s_bestWeight s_answer s_mine s_theirs s_people s_heads ++ (wd_Sums k q_a 0 q_total q_shares q_pairs q_crowds q_bestWay q_bestWeight q_answer q_mine q_theirs q_people q_heads ++ (wd_Aunt k u_a b0_a s_a u_worth u_dearest u_unit u_wrongly u_guess u_most)))))))))))) (wd_NB k n_a f_a t_a u_a v_a w_a b0_a b1_a b2_a b3_a n_kept n_refusals y.2.1 ++ (wd_Box k b0_a y.2.2.2.2.1 y.2.2.2.1 y.2.2.2.2.2.2.1 y.2.2.2.2.2.1 y.2.2.2.2.2.2.2.2.1 y.2.2.2.2.2.2.2.1 y.2.2.2.2.2.2.2.2.2.2.1 y.2.2.2.2.2.2.2.2.2.1 y.2.2.2.2.2.2.2.2.2.2.2.2.1 y.2.2.2.2.2.2.2.2.2.2.2.1 y.2.2.1 ++ (wd_Box k b1_a y.2.2.2.2.2.2.2.2.2.2.2.2.2.2.2.1 y.2.2.2.2.2.2.2.2.2.2.2.2.2.2.1 y.2.2.2.2.2.2.2.2.2.2.2.2.2.2.2.2.2.1 y.2.2.2.2.2.2.2.2.2.2.2.2.2.2.2.2.1 y.2.2.2.2.2.2.2.2.2.2.2.2.2.2.2.2.2.2.2.1 y.2.2.2.2.2.2.2.2.2.2.2.2.2.2.2.2.2.2.1 y.2.2.2.2.2.2.2.2.2.2.2.2.2.2.2.2.2.2.2.2.2.1 y.2.2.2.2.2.2.2.2.2.2.2.2.2.2.2.2.2.2.2.2.1 y.2.2.2.2.2.2.2.2.2.2.2.2.2.2.2.2.2.2.2.2.2.2.2.1 y.2.2.2.2.2.2.2.2.2.2.2.2.2.2.2.2.2.2.2.2.2.2.1 y.2.2.2.2.2.2.2.2.2.2.2.2.2.1 ++ (wd_Box k b2_a b2_c0 b2_z0 b2_c1 b2_z1 b2_c2 b2_z2 b2_c3 b2_z3 b2_c4 b2_z4 b2_sg ++ (wd_Box k b3_a b3_c0 b3_z0 b3_c1 b3_z1 b3_c2 b3_z2 b3_c3 b3_z3 b3_c4 b3_z4 b3_sg ++ (wd_Text k t_a t_bytes t_length y.2.2.2.2.2.2.2.2.2.2.2.2.2.2.2.2.2.2.2.2.2.2.2.2.1 y.2.2.2.2.2.2.2.2.2.2.2.2.2.2.2.2.2.2.2.2.2.2.2.2.2.1 y.2.2.2.2.2.2.2.2.2.2.2.2.2.2.2.2.2.2.2.2.2.2.2.2.2.2.1 y.2.2.2.2.2.2.2.2.2.2.2.2.2.2.2.2.2.2.2.2.2.2.2.2.2.2.2 ++ (wd_Frac k f_a f_above f_below f_one f_other ++ (wd_Ways k w_a b0_a s_a w_detail w_skipped w_early w_late w_firstOnly w_firstYear w_years w_place w_before w_closing w_likes w_likeSums w_namings w_products w_weights w_subtotals w_way ++ (wd_Ways k v_a b0_a q_a v_detail v_skipped v_early v_late v_firstOnly v_firstYear v_years v_place v_before v_closing v_likes v_likeSums v_namings v_products v_weights v_subtotals v_way ++ (wd_Sums k s_a 5184 s_total s_shares s_pairs s_crowds s_bestWay s_bestWeight s_answer s_mine s_theirs s_people s_heads ++ (wd_Sums k q_a 0 q_total q_shares q_pairs q_crowds q_bestWay q_bestWeight q_answer q_mine q_theirs q_people q_heads ++ (wd_Aunt k u_a b0_a s_a u_worth u_dearest u_unit u_wrongly u_guess u_most)))))))))))) sz) := by
  refine cx_metE (own := "NamelessBox") (by decide) rfl (Nat.le_of_ble_eq_true rfl) ?_
  intro p e s m args below meth c A Q C hE hA hQ hr hlk
  refine cx_lv (lv' := [(0, .ref (n_a 0))]) [0] rfl ?_
  unfold f_X8_read at hf
  refine cx_aload_n C dX8_read_0 0 rfl ?_
  refine cx_get (v := .ref (t_a 0)) (ci := 7) C iX8 dX8_read_1 0 rfl rfl 5 (by decide) hw_295 rfl ?_
  obtain ⟨u1, e2, hf⟩ := cx_bd_at hf
  refine cx_EGvi (q := (RX6, TX6, 6)) (As := []) (rest := []) (ws' := (wd_NB k n_a f_a t_a u_a v_a w_a b0_a b1_a b2_a b3_a n_kept n_refusals n_summed ++ (wd_Box k b0_a b0_c0 b0_z0 b0_c1 b0_z1 b0_c2 b0_z2 b0_c3 b0_z3 b0_c4 b0_z4 b0_sg ++ (wd_Box k b1_a b1_c0 b1_z0 b1_c1 b1_z1 b1_c2 b1_z2 b1_c3 b1_z3 b1_c4 b1_z4 b1_sg ++ (wd_Box k b2_a b2_c0 b2_z0 b2_c1 b2_z1 b2_c2 b2_z2 b2_c3 b2_z3 b2_c4 b2_z4 b2_sg ++ (wd_Box k b3_a b3_c0 b3_z0 b3_c1 b3_z1 b3_c2 b3_z2 b3_c3 b3_z3 b3_c4 b3_z4 b3_sg ++ (wd_Text k t_a t_bytes t_length u1.2.1 u1.2.2.1 u1.2.2.2.1 u1.2.2.2.2 ++ (wd_Frac k f_a f_above f_below f_one f_other ++ (wd_Ways k w_a b0_a s_a w_detail w_skipped w_early w_late w_firstOnly w_firstYear w_years w_place w_before w_closing w_likes w_likeSums w_namings w_products w_weights w_subtotals w_way ++ (wd_Ways k v_a b0_a q_a v_detail v_skipped v_early v_late v_firstOnly v_firstYear v_years v_place v_before v_closing v_likes v_likeSums v_namings v_products v_weights v_subtotals v_way ++ (wd_Sums k s_a 5184 s_total s_shares s_pairs s_crowds s_bestWay s_bestWeight s_answer s_mine s_theirs s_people s_heads ++ (wd_Sums k q_a 0 q_total q_shares q_pairs q_crowds q_bestWay q_bestWeight q_answer q_mine q_theirs q_people q_heads ++ (wd_Aunt k u_a b0_a s_a u_worth u_dearest u_unit u_wrongly u_guess u_most))))))))))))) hE hA C me_X6_findFault hw_492 (c_X6_findFault l D k te adK adV t_a t_bytes t_length t_start t_end t_item t_numbers u1 e2) dX8_read_4 ⟨Nat.le_of_ble_eq_true rfl, Nat.le_of_ble_eq_true rfl⟩ ⟨Nat.zero_le _, Nat.zero_le _⟩ rfl rfl (Nat.le_of_ble_eq_true rfl) rfl rfl [47, 48, 49] rfl (by decide +kernel) rfl [none, none, none, none, none, none, none, none, none, none, none, none, none, none, none, none, none, none, none, none, none, none, none, none, none, none, none, none, none, none, none, none, none, none, none, none, none, none, none, none, none, none, none, none, none, none, none, some 0, some 1, some 2, none, none, none, none, none, none, none, none, none, none, none, none, none, none, none, none, none, none, none, none, none, none, none, none, none, none, none, none, none, none, none, none, none, none, none, none, none, none, none, none, none, none, none, none, none, none, none, none, none, none, none, none, none, none, none, none, none, none] 3 rfl (by decide +kernel) rfl ?_
  clear e2
  refine cx_istore_n (lv' := [(1, .int u1.1), (0, .ref (n_a 0))]) C dX8_read_7 rfl (by decide) rfl ?_
  refine cx_iload_n C dX8_read_8 0 rfl ?_
  refine cx_iconst (v := (-1)) C dX8_read_9 (by decide) ?_
  refine cx_icmp_eq (tgt := 18) C dX8_read_10 (by decide) (fun c3 => ?_) (fun c3 => ?_)
  · have hf := cx_if_t hf c3
    clear c3
    refine cx_aload_n C dX8_read_18 1 rfl ?_
    refine cx_get (v := .ref (t_a 0)) (ci := 7) C iX8 dX8_read_19 0 rfl rfl 5 (by decide) hw_295 rfl ?_
    refine cx_aload_n C dX8_read_22 1 rfl ?_
    refine cx_get (v := .ref (b1_a 0)) (ci := 7) C iX8 dX8_read_23 0 rfl rfl 1 (by decide) hw_291 rfl ?_
    obtain ⟨u4, e5, hf⟩ := cx_bd_at hf
    refine cx_EGvi (q := (RX6, TX6, 6)) (As := [.ref (b1_a 0)]) (rest := []) (ws' := (wd_NB k n_a f_a t_a u_a v_a w_a b0_a b1_a b2_a b3_a n_kept n_refusals n_summed ++ (wd_Box k b0_a b0_c0 b0_z0 b0_c1 b0_z1 b0_c2 b0_z2 b0_c3 b0_z3 b0_c4 b0_z4 b0_sg ++ (wd_Box k b1_a u4.2.2.2.2.2.2.2.1 u4.2.2.2.2.2.2.1 u4.2.2.2.2.2.2.2.2.2.1 u4.2.2.2.2.2.2.2.2.1 u4.2.2.2.2.2.2.2.2.2.2.2.1 u4.2.2.2.2.2.2.2.2.2.2.1 u4.2.2.2.2.2.2.2.2.2.2.2.2.2.1 u4.2.2.2.2.2.2.2.2.2.2.2.2.1 u4.2.2.2.2.2.2.2.2.2.2.2.2.2.2.2 u4.2.2.2.2.2.2.2.2.2.2.2.2.2.2.1 u4.2.2.2.2.2.1 ++ (wd_Box k b2_a b2_c0 b2_z0 b2_c1 b2_z1 b2_c2 b2_z2 b2_c3 b2_z3 b2_c4 b2_z4 b2_sg ++ (wd_Box k b3_a b3_c0 b3_z0 b3_c1 b3_z1 b3_c2 b3_z2 b3_c3 b3_z3 b3_c4 b3_z4 b3_sg ++ (wd_Text k t_a t_bytes t_length u4.2.1 u4.2.2.1 u4.2.2.2.1 u4.2.2.2.2.1 ++ (wd_Frac k f_a f_above f_below f_one f_other ++ (wd_Ways k w_a b0_a s_a w_detail w_skipped w_early w_late w_firstOnly w_firstYear w_years w_place w_before w_closing w_likes w_likeSums w_namings w_products w_weights w_subtotals w_way ++ (wd_Ways k v_a b0_a q_a v_detail v_skipped v_early v_late v_firstOnly v_firstYear v_years v_place v_before v_closing v_likes v_likeSums v_namings v_products v_weights v_subtotals v_way ++ (wd_Sums k s_a 5184 s_total s_shares s_pairs s_crowds s_bestWay s_bestWeight s_answer s_mine s_theirs s_people s_heads ++ (wd_Sums k q_a 0 q_total q_shares q_pairs q_crowds q_bestWay q_bestWeight q_answer q_mine q_theirs q_people q_heads ++ (wd_Aunt k u_a b0_a s_a u_worth u_dearest u_unit u_wrongly u_guess u_most))))))))))))) hE hA C me_X6_tell hw_583 (c_X6_tell l D k te adK adV t_a b1_a t_bytes t_length u1.2.1 u1.2.2.1 u1.2.2.2.1 u1.2.2.2.2 b1_c0 b1_z0 b1_c1 b1_z1 b1_c2 b1_z2 b1_c3 b1_z3 b1_c4 b1_z4 b1_sg u4 e5) dX8_read_26 ⟨Nat.le_of_ble_eq_true rfl, Nat.le_of_ble_eq_true rfl⟩ ⟨Nat.zero_le _, Nat.zero_le _⟩ rfl rfl (Nat.le_of_ble_eq_true rfl) rfl rfl [47, 48, 49, 14, 15, 16, 17, 18, 19, 20, 21, 22, 23, 24] rfl (by decide +kernel) rfl [none, none, none, none, none, none, none, none, none, none, none, none, none, none, some 3, some 4, some 5, some 6, some 7, some 8, some 9, some 10, some 11, some 12, some 13, none, none, none, none, none, none, none, none, none, none, none, none, none, none, none, none, none, none, none, none, none, none, some 0, some 1, some 2, none, none, none, none, none, none, none, none, none, none, none, none, none, none, none, none, none, none, none, none, none, none, none, none, none, none, none, none, none, none, none, none, none, none, none, none, none, none, none, none, none, none, none, none, none, none, none, none, none, none, none, none, none, none, none, none, none, none] 14 rfl (by decide +kernel) rfl ?_
    clear e5
    refine cx_istore_n (lv' := [(2, .int u4.1), (1, .int u1.1), (0, .ref (n_a 0))]) C dX8_read_29 rfl (by decide) rfl ?_
    refine cx_iload_n C dX8_read_30 0 rfl ?_
    refine cx_if_ge (tgt := 42) C dX8_read_31 (by decide) (fun c6 => ?_) (fun c6 => ?_)
    · have hf := cx_if_t hf c6
      clear c6
      refine cx_aload_n C dX8_read_42 2 rfl ?_
      refine cx_get (v := .ref (b0_a 0)) (ci := 7) C iX8 dX8_read_43 0 rfl rfl 0 (by decide) hw_290 rfl ?_
      refine cx_aload_n C dX8_read_46 2 rfl ?_
      refine cx_get (v := .ref (b1_a 0)) (ci := 7) C iX8 dX8_read_47 0 rfl rfl 1 (by decide) hw_291 rfl ?_
      obtain ⟨u7, e8, hf⟩ := cx_bd_at hf
      refine cx_Gvv (q := (RX1, TX1, 6)) (As := [.ref (b1_a 0)]) (rest := []) (ws' := (wd_NB k n_a f_a t_a u_a v_a w_a b0_a b1_a b2_a b3_a n_kept n_refusals n_summed ++ (wd_Box k b0_a u7.2.2.1 u7.2.1 u7.2.2.2.2.1 u7.2.2.2.1 u7.2.2.2.2.2.2.1 u7.2.2.2.2.2.1 u7.2.2.2.2.2.2.2.2.1 u7.2.2.2.2.2.2.2.1 u7.2.2.2.2.2.2.2.2.2.2 u7.2.2.2.2.2.2.2.2.2.1 u7.1 ++ (wd_Box k b1_a u4.2.2.2.2.2.2.2.1 u4.2.2.2.2.2.2.1 u4.2.2.2.2.2.2.2.2.2.1 u4.2.2.2.2.2.2.2.2.1 u4.2.2.2.2.2.2.2.2.2.2.2.1 u4.2.2.2.2.2.2.2.2.2.2.1 u4.2.2.2.2.2.2.2.2.2.2.2.2.2.1 u4.2.2.2.2.2.2.2.2.2.2.2.2.1 u4.2.2.2.2.2.2.2.2.2.2.2.2.2.2.2 u4.2.2.2.2.2.2.2.2.2.2.2.2.2.2.1 u4.2.2.2.2.2.1 ++ (wd_Box k b2_a b2_c0 b2_z0 b2_c1 b2_z1 b2_c2 b2_z2 b2_c3 b2_z3 b2_c4 b2_z4 b2_sg ++ (wd_Box k b3_a b3_c0 b3_z0 b3_c1 b3_z1 b3_c2 b3_z2 b3_c3 b3_z3 b3_c4 b3_z4 b3_sg ++ (wd_Text k t_a t_bytes t_length u4.2.1 u4.2.2.1 u4.2.2.2.1 u4.2.2.2.2.1 ++ (wd_Frac k f_a f_above f_below f_one f_other ++ (wd_Ways k w_a b0_a s_a w_detail w_skipped w_early w_late w_firstOnly w_firstYear w_years w_place w_before w_closing w_likes w_likeSums w_namings w_products w_weights w_subtotals w_way ++ (wd_Ways k v_a b0_a q_a v_detail v_skipped v_early v_late v_firstOnly v_firstYear v_years v_place v_before v_closing v_likes v_likeSums v_namings v_products v_weights v_subtotals v_way ++ (wd_Sums k s_a 5184 s_total s_shares s_pairs s_crowds s_bestWay s_bestWeight s_answer s_mine s_theirs s_people s_heads ++ (wd_Sums k q_a 0 q_total q_shares q_pairs q_crowds q_bestWay q_bestWeight q_answer q_mine q_theirs q_people q_heads ++ (wd_Aunt k u_a b0_a s_a u_worth u_dearest u_unit u_wrongly u_guess u_most))))))))))))) hA C me_X1_take hw_603 (c_X1_take l D k b0_a b1_a b0_c0 b0_z0 b0_c1 b0_z1 b0_c2 b0_z2 b0_c3 b0_z3 b0_c4 b0_z4 b0_sg u4.2.2.2.2.2.2.2.1 u4.2.2.2.2.2.2.1 u4.2.2.2.2.2.2.2.2.2.1 u4.2.2.2.2.2.2.2.2.1 u4.2.2.2.2.2.2.2.2.2.2.2.1 u4.2.2.2.2.2.2.2.2.2.2.1 u4.2.2.2.2.2.2.2.2.2.2.2.2.2.1 u4.2.2.2.2.2.2.2.2.2.2.2.2.1 u4.2.2.2.2.2.2.2.2.2.2.2.2.2.2.2 u4.2.2.2.2.2.2.2.2.2.2.2.2.2.2.1 u4.2.2.2.2.2.1 u7 e8) dX8_read_50 ⟨Nat.le_of_ble_eq_true rfl, Nat.le_of_ble_eq_true rfl⟩ ⟨Nat.zero_le _, Nat.zero_le _⟩ rfl rfl (Nat.le_of_ble_eq_true rfl) rfl rfl [3, 4, 5, 6, 7, 8, 9, 10, 11, 12, 13, 14, 15, 16, 17, 18, 19, 20, 21, 22, 23, 24] rfl (by decide +kernel) rfl [none, none, none, some 0, some 1, some 2, some 3, some 4, some 5, some 6, some 7, some 8, some 9, some 10, some 11, some 12, some 13, some 14, some 15, some 16, some 17, some 18, some 19, some 20, some 21, none, none, none, none, none, none, none, none, none, none, none, none, none, none, none, none, none, none, none, none, none, none, none, none, none, none, none, none, none, none, none, none, none, none, none, none, none, none, none, none, none, none, none, none, none, none, none, none, none, none, none, none, none, none, none, none, none, none, none, none, none, none, none, none, none, none, none, none, none, none, none, none, none, none, none, none, none, none, none, none, none, none, none] 22 rfl (by decide +kernel) rfl ?_
      clear e8
      refine cx_aload_n C dX8_read_53 2 rfl ?_
      refine cx_iconst (v := (-1)) C dX8_read_54 (by decide) ?_
      refine cx_putf (v := .int ((-1))) (ty := .int) (ci := 7) (ws' := (wd_NB k n_a f_a t_a u_a v_a w_a b0_a b1_a b2_a b3_a n_kept n_refusals ((-1)) ++ (wd_Box k b0_a u7.2.2.1 u7.2.1 u7.2.2.2.2.1 u7.2.2.2.1 u7.2.2.2.2.2.2.1 u7.2.2.2.2.2.1 u7.2.2.2.2.2.2.2.2.1 u7.2.2.2.2.2.2.2.1 u7.2.2.2.2.2.2.2.2.2.2 u7.2.2.2.2.2.2.2.2.2.1 u7.1 ++ (wd_Box k b1_a u4.2.2.2.2.2.2.2.1 u4.2.2.2.2.2.2.1 u4.2.2.2.2.2.2.2.2.2.1 u4.2.2.2.2.2.2.2.2.1 u4.2.2.2.2.2.2.2.2.2.2.2.1 u4.2.2.2.2.2.2.2.2.2.2.1 u4.2.2.2.2.2.2.2.2.2.2.2.2.2.1 u4.2.2.2.2.2.2.2.2.2.2.2.2.1 u4.2.2.2.2.2.2.2.2.2.2.2.2.2.2.2 u4.2.2.2.2.2.2.2.2.2.2.2.2.2.2.1 u4.2.2.2.2.2.1 ++ (wd_Box k b2_a b2_c0 b2_z0 b2_c1 b2_z1 b2_c2 b2_z2 b2_c3 b2_z3 b2_c4 b2_z4 b2_sg ++ (wd_Box k b3_a b3_c0 b3_z0 b3_c1 b3_z1 b3_c2 b3_z2 b3_c3 b3_z3 b3_c4 b3_z4 b3_sg ++ (wd_Text k t_a t_bytes t_length u4.2.1 u4.2.2.1 u4.2.2.2.1 u4.2.2.2.2.1 ++ (wd_Frac k f_a f_above f_below f_one f_other ++ (wd_Ways k w_a b0_a s_a w_detail w_skipped w_early w_late w_firstOnly w_firstYear w_years w_place w_before w_closing w_likes w_likeSums w_namings w_products w_weights w_subtotals w_way ++ (wd_Ways k v_a b0_a q_a v_detail v_skipped v_early v_late v_firstOnly v_firstYear v_years v_place v_before v_closing v_likes v_likeSums v_namings v_products v_weights v_subtotals v_way ++ (wd_Sums k s_a 5184 s_total s_shares s_pairs s_crowds s_bestWay s_bestWeight s_answer s_mine s_theirs s_people s_heads ++ (wd_Sums k q_a 0 q_total q_shares q_pairs q_crowds q_bestWay q_bestWeight q_answer q_mine q_theirs q_people q_heads ++ (wd_Aunt k u_a b0_a s_a u_worth u_dearest u_unit u_wrongly u_guess u_most))))))))))))) C iX8 tyX8 tyX8_ok nmX8 dX8_read_55 0 rfl rfl 11 (by decide) hw_301 rfl (by decide +kernel) rfl rfl (Nat.le_of_ble_eq_true rfl) rfl ?_
      refine cx_iload_n C dX8_read_58 0 rfl ?_
      obtain rfl := Option.some.inj hf
      exact cx_iret C hA hQ hr hlk dX8_read_59 rfl rfl
    · have hf := cx_if_f hf c6
      clear c6
      refine cx_sipush (v := (-1000)) C dX8_read_34 (by decide) ?_
      refine cx_iconst (v := (-1)) C dX8_read_37 (by decide) ?_
      refine cx_iload_n C dX8_read_38 0 rfl ?_
      refine cx_isub C dX8_read_39 ?_
      refine cx_isub C dX8_read_40 ?_
      obtain rfl := Option.some.inj hf
      exact cx_iret C hA hQ hr hlk dX8_read_41 rfl rfl
  · have hf := cx_if_f hf c3
    clear c3
    refine cx_bipush (v := (-10)) C dX8_read_13 (by decide) ?_
    refine cx_iload_n C dX8_read_15 0 rfl ?_
    refine cx_isub C dX8_read_16 ?_
    obtain rfl := Option.some.inj hf
    exact cx_iret C hA hQ hr hlk dX8_read_17 rfl rfl
