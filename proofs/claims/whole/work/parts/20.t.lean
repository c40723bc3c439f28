theorem dX10_find_0 : decode mX10_find.2.1 0 = .ok (.iconst (-1), 1) := by decide +kernel
theorem dX10_find_1 : decode mX10_find.2.1 1 = .ok (.istore_n 3, 1) := by decide +kernel
theorem dX10_find_2 : decode mX10_find.2.1 2 = .ok (.iconst 0, 1) := by decide +kernel
theorem dX10_find_3 : decode mX10_find.2.1 3 = .ok (.istore 4, 2) := by decide +kernel
theorem dX10_find_5 : decode mX10_find.2.1 5 = .ok (.iload 4, 2) := by decide +kernel
theorem dX10_find_7 : decode mX10_find.2.1 7 = .ok (.iload_n 2, 1) := by decide +kernel
theorem dX10_find_8 : decode mX10_find.2.1 8 = .ok (.if_icmp .ge 33, 3) := by decide +kernel
theorem dX10_find_11 : decode mX10_find.2.1 11 = .ok (.aload_n 0, 1) := by decide +kernel
theorem dX10_find_12 : decode mX10_find.2.1 12 = .ok (.getfield 17, 3) := by decide +kernel
theorem dX10_find_15 : decode mX10_find.2.1 15 = .ok (.iload_n 1, 1) := by decide +kernel
theorem dX10_find_16 : decode mX10_find.2.1 16 = .ok (.iload 4, 2) := by decide +kernel
theorem dX10_find_18 : decode mX10_find.2.1 18 = .ok (.iadd, 1) := by decide +kernel
theorem dX10_find_19 : decode mX10_find.2.1 19 = .ok (.laload, 1) := by decide +kernel
theorem dX10_find_20 : decode mX10_find.2.1 20 = .ok (.aload_n 0, 1) := by decide +kernel
theorem dX10_find_21 : decode mX10_find.2.1 21 = .ok (.getfield 177, 3) := by decide +kernel
theorem dX10_find_24 : decode mX10_find.2.1 24 = .ok (.lcmp, 1) := by decide +kernel
theorem dX10_find_25 : decode mX10_find.2.1 25 = .ok (.ifCond .ne 8, 3) := by decide +kernel
theorem dX10_find_28 : decode mX10_find.2.1 28 = .ok (.iload 4, 2) := by decide +kernel
theorem dX10_find_30 : decode mX10_find.2.1 30 = .ok (.goto 4, 3) := by decide +kernel
theorem dX10_find_33 : decode mX10_find.2.1 33 = .ok (.iload_n 3, 1) := by decide +kernel
theorem dX10_find_34 : decode mX10_find.2.1 34 = .ok (.istore_n 3, 1) := by decide +kernel
theorem dX10_find_35 : decode mX10_find.2.1 35 = .ok (.iinc 4 1, 3) := by decide +kernel
theorem dX10_find_38 : decode mX10_find.2.1 38 = .ok (.goto (-33), 3) := by decide +kernel
theorem dX10_find_41 : decode mX10_find.2.1 41 = .ok (.iload_n 3, 1) := by decide +kernel
theorem dX10_find_42 : decode mX10_find.2.1 42 = .ok (.ireturn, 1) := by decide +kernel
theorem bX10_find_0 {E : px_E} {d : Nat} {w : pw_W} {Q : Option Value → pw_W → Prop} {x1 x2 : Int32}  
    (k1 : px_W E mX10_find (d + 1) 0 0 5 [.ref 61, .int x1, .int x2, .int (-1), .int 0] [] w Q) :
    px_W E mX10_find (d + 1) 0 0 0 [.ref 61, .int x1, .int x2, .null, .null] [] w Q := by
  refine px_iconst dX10_find_0 ic_m1 ?_
  refine px_istore_n (ls' := [.ref 61, .int x1, .int x2, .int (-1), .null]) dX10_find_1 rfl ⟨by decide, rfl⟩ rfl ?_
  refine px_iconst dX10_find_2 ic_0 ?_
  refine px_istore (ls' := [.ref 61, .int x1, .int x2, .int (-1), .int 0]) dX10_find_3 ⟨by decide, rfl⟩ rfl ?_
  exact k1
theorem eX10_find {E : px_E} {d : Nat} {w : pw_W} {Q : Option Value → pw_W → Prop} {x1 x2 : Int32}  
    (k1 : px_W E mX10_find (d + 1) 0 0 5 [.ref 61, .int x1, .int x2, .int (-1), .int 0] [] w Q) :
    px_Call E (d + 1) 0 0 mX10_find [.ref 61, .int x1, .int x2] w Q :=
  px_enter (k := 2) (by decide) (Nat.le_of_ble_eq_true rfl) rfl (px_forget (bX10_find_0 k1) ⟨Or.inr rfl, Or.inr rfl, Or.inr rfl, Or.inl rfl, Or.inl rfl, trivial⟩)
theorem bX10_find_5 {E : px_E} {d : Nat} {w : pw_W} {Q : Option Value → pw_W → Prop} {x1 x2 x3 x4 : Int32}  
    (k1 : x2 ≤ x4 → Q (some (.int x3)) w)
    (k2 : ¬ x2 ≤ x4 → px_W E mX10_find (d + 1) 0 0 11 [.ref 61, .int x1, .int x2, .int x3, .int x4] [] w Q) :
    px_W E mX10_find (d + 1) 0 0 5 [.ref 61, .int x1, .int x2, .int x3, .int x4] [] w Q := by
  refine px_iload dX10_find_5 rfl ?_
  refine px_iload_n dX10_find_7 rfl rfl ?_
  refine px_icmp_ge (tgt := 41) dX10_find_8 (by decide) (fun h1 => ?_) (fun h1 => ?_)
  ·
    refine px_iload_n dX10_find_41 rfl rfl ?_
    exact px_ireturn dX10_find_42 rfl rfl (k1 h1)
  ·
    exact (k2 h1)
theorem bX10_find_11 {E : px_E} {d : Nat} {w : pw_W} {Q : Option Value → pw_W → Prop} {t : ct_T} (hw : w.1 = cs t) {x1 x2 x3 x4 : Int32}  (j1 : Nat) (hj1 : (x1 + x4) = nI j1) (hl1 : j1 < 8)
    (k1 : ¬ (pw_L w 63 j1) = (pw_L w 61 9) → px_W E mX10_find (d + 1) 0 0 34 [.ref 61, .int x1, .int x2, .null, .int x4] [.int x3] w Q)
    (k2 : (pw_L w 63 j1) = (pw_L w 61 9) → px_W E mX10_find (d + 1) 0 0 34 [.ref 61, .int x1, .int x2, .null, .int x4] [.int x4] w Q) :
    px_W E mX10_find (d + 1) 0 0 11 [.ref 61, .int x1, .int x2, .int x3, .int x4] [] w Q := by
  refine px_aload_n dX10_find_11 rfl rfl ?_
  refine px_getR (v := 63) dX10_find_12 fr_10_17 rfl (px_sh1 hw sh_61) (px_rf hw rf_61_10) (by decide) ?_
  refine px_iload_n dX10_find_15 rfl rfl ?_
  refine px_iload dX10_find_16 rfl ?_
  refine px_iadd dX10_find_18 ?_
  refine px_lald dX10_find_19 (px_sh2 hw sh_63) (by decide) j1 hj1 hl1 ?_
  refine px_aload_n dX10_find_20 rfl rfl ?_
  refine px_getL dX10_find_21 fr_10_177 rfl (px_sh1 hw sh_61) ?_
  refine px_lcmp_ne (tgt := 33) dX10_find_24 dX10_find_25 (by decide) (fun h1 => ?_) (fun h1 => ?_)
  ·
    refine px_iload_n dX10_find_33 rfl rfl ?_
    exact px_forget (k1 h1) ⟨Or.inr rfl, Or.inr rfl, Or.inr rfl, Or.inl rfl, Or.inr rfl, trivial⟩
  ·
    refine px_iload dX10_find_28 rfl ?_
    refine px_goto (tgt := 34) dX10_find_30 (by decide) ?_
    exact px_forget (k2 h1) ⟨Or.inr rfl, Or.inr rfl, Or.inr rfl, Or.inl rfl, Or.inr rfl, trivial⟩
theorem bX10_find_34 {E : px_E} {d : Nat} {w : pw_W} {Q : Option Value → pw_W → Prop} {x1 x2 x4 y0 : Int32}  
    (k1 : px_W E mX10_find (d + 1) 0 0 5 [.ref 61, .int x1, .int x2, .int y0, .int (x4 + 1)] [] w Q) :
    px_W E mX10_find (d + 1) 0 0 34 [.ref 61, .int x1, .int x2, .null, .int x4] [.int y0] w Q := by
  refine px_istore_n (ls' := [.ref 61, .int x1, .int x2, .int y0, .int x4]) dX10_find_34 rfl ⟨by decide, rfl⟩ rfl ?_
  refine px_iinc (ls' := [.ref 61, .int x1, .int x2, .int y0, .int (x4 + 1)]) dX10_find_35 ⟨by decide, rfl⟩ rfl rfl rfl ?_
  refine px_goto (tgt := 5) dX10_find_38 (by decide) ?_
  exact k1
theorem dX10_token_0 : decode mX10_token.2.1 0 = .ok (.aload_n 0, 1) := by decide +kernel
theorem dX10_token_1 : decode mX10_token.2.1 1 = .ok (.iconst 0, 1) := by decide +kernel
theorem dX10_token_2 : decode mX10_token.2.1 2 = .ok (.invokevirtual 170, 3) := by decide +kernel
theorem dX10_token_5 : decode mX10_token.2.1 5 = .ok (.bipush 32, 2) := by decide +kernel
theorem dX10_token_7 : decode mX10_token.2.1 7 = .ok (.if_icmp .eq 13, 3) := by decide +kernel
theorem dX10_token_10 : decode mX10_token.2.1 10 = .ok (.aload_n 0, 1) := by decide +kernel
theorem dX10_token_11 : decode mX10_token.2.1 11 = .ok (.iconst 0, 1) := by decide +kernel
theorem dX10_token_12 : decode mX10_token.2.1 12 = .ok (.invokevirtual 170, 3) := by decide +kernel
theorem dX10_token_15 : decode mX10_token.2.1 15 = .ok (.bipush 10, 2) := by decide +kernel
theorem dX10_token_17 : decode mX10_token.2.1 17 = .ok (.if_icmp .ne 16, 3) := by decide +kernel
theorem dX10_token_20 : decode mX10_token.2.1 20 = .ok (.aload_n 0, 1) := by decide +kernel
theorem dX10_token_21 : decode mX10_token.2.1 21 = .ok (.dup, 1) := by decide +kernel
theorem dX10_token_22 : decode mX10_token.2.1 22 = .ok (.getfield 164, 3) := by decide +kernel
theorem dX10_token_25 : decode mX10_token.2.1 25 = .ok (.iconst 1, 1) := by decide +kernel
theorem dX10_token_26 : decode mX10_token.2.1 26 = .ok (.iadd, 1) := by decide +kernel
theorem dX10_token_27 : decode mX10_token.2.1 27 = .ok (.putfield 164, 3) := by decide +kernel
theorem dX10_token_30 : decode mX10_token.2.1 30 = .ok (.goto (-30), 3) := by decide +kernel
theorem dX10_token_33 : decode mX10_token.2.1 33 = .ok (.aload_n 0, 1) := by decide +kernel
theorem dX10_token_34 : decode mX10_token.2.1 34 = .ok (.aload_n 0, 1) := by decide +kernel
theorem dX10_token_35 : decode mX10_token.2.1 35 = .ok (.getfield 164, 3) := by decide +kernel
theorem dX10_token_38 : decode mX10_token.2.1 38 = .ok (.putfield 174, 3) := by decide +kernel
theorem dX10_token_41 : decode mX10_token.2.1 41 = .ok (.aload_n 0, 1) := by decide +kernel
theorem dX10_token_42 : decode mX10_token.2.1 42 = .ok (.iconst 0, 1) := by decide +kernel
theorem dX10_token_43 : decode mX10_token.2.1 43 = .ok (.invokevirtual 170, 3) := by decide +kernel
theorem dX10_token_46 : decode mX10_token.2.1 46 = .ok (.istore_n 1, 1) := by decide +kernel
theorem dX10_token_47 : decode mX10_token.2.1 47 = .ok (.iconst 0, 1) := by decide +kernel
theorem dX10_token_48 : decode mX10_token.2.1 48 = .ok (.istore_n 2, 1) := by decide +kernel
theorem dX10_token_49 : decode mX10_token.2.1 49 = .ok (.aload_n 0, 1) := by decide +kernel
theorem dX10_token_50 : decode mX10_token.2.1 50 = .ok (.lconst 0, 1) := by decide +kernel
theorem dX10_token_51 : decode mX10_token.2.1 51 = .ok (.putfield 177, 3) := by decide +kernel
theorem dX10_token_54 : decode mX10_token.2.1 54 = .ok (.aload_n 0, 1) := by decide +kernel
theorem dX10_token_55 : decode mX10_token.2.1 55 = .ok (.iconst 0, 1) := by decide +kernel
theorem dX10_token_56 : decode mX10_token.2.1 56 = .ok (.putfield 181, 3) := by decide +kernel
theorem dX10_token_59 : decode mX10_token.2.1 59 = .ok (.iload_n 1, 1) := by decide +kernel
theorem dX10_token_60 : decode mX10_token.2.1 60 = .ok (.ifCond .ge 11, 3) := by decide +kernel
theorem dX10_token_63 : decode mX10_token.2.1 63 = .ok (.aload_n 0, 1) := by decide +kernel
theorem dX10_token_64 : decode mX10_token.2.1 64 = .ok (.iconst 0, 1) := by decide +kernel
theorem dX10_token_65 : decode mX10_token.2.1 65 = .ok (.putfield 184, 3) := by decide +kernel
theorem dX10_token_68 : decode mX10_token.2.1 68 = .ok (.goto 164, 3) := by decide +kernel
theorem dX10_token_71 : decode mX10_token.2.1 71 = .ok (.iload_n 1, 1) := by decide +kernel
theorem dX10_token_72 : decode mX10_token.2.1 72 = .ok (.invokestatic 187, 3) := by decide +kernel
theorem dX10_token_75 : decode mX10_token.2.1 75 = .ok (.ifCond .eq 62, 3) := by decide +kernel
theorem dX10_token_78 : decode mX10_token.2.1 78 = .ok (.aload_n 0, 1) := by decide +kernel
theorem dX10_token_79 : decode mX10_token.2.1 79 = .ok (.iload_n 2, 1) := by decide +kernel
theorem dX10_token_80 : decode mX10_token.2.1 80 = .ok (.invokevirtual 170, 3) := by decide +kernel
theorem dX10_token_83 : decode mX10_token.2.1 83 = .ok (.invokestatic 187, 3) := by decide +kernel
theorem dX10_token_86 : decode mX10_token.2.1 86 = .ok (.ifCond .eq 33, 3) := by decide +kernel
theorem dX10_token_89 : decode mX10_token.2.1 89 = .ok (.iload_n 2, 1) := by decide +kernel
theorem dX10_token_90 : decode mX10_token.2.1 90 = .ok (.bipush 8, 2) := by decide +kernel
theorem dX10_token_92 : decode mX10_token.2.1 92 = .ok (.if_icmp .ge 21, 3) := by decide +kernel
theorem dX10_token_95 : decode mX10_token.2.1 95 = .ok (.aload_n 0, 1) := by decide +kernel
theorem dX10_token_96 : decode mX10_token.2.1 96 = .ok (.aload_n 0, 1) := by decide +kernel
theorem dX10_token_97 : decode mX10_token.2.1 97 = .ok (.getfield 177, 3) := by decide +kernel
theorem dX10_token_100 : decode mX10_token.2.1 100 = .ok (.bipush 8, 2) := by decide +kernel
theorem dX10_token_102 : decode mX10_token.2.1 102 = .ok (.lshl, 1) := by decide +kernel
theorem dX10_token_103 : decode mX10_token.2.1 103 = .ok (.aload_n 0, 1) := by decide +kernel
theorem dX10_token_104 : decode mX10_token.2.1 104 = .ok (.iload_n 2, 1) := by decide +kernel
theorem dX10_token_105 : decode mX10_token.2.1 105 = .ok (.invokevirtual 170, 3) := by decide +kernel
theorem dX10_token_108 : decode mX10_token.2.1 108 = .ok (.i2l, 1) := by decide +kernel
theorem dX10_token_109 : decode mX10_token.2.1 109 = .ok (.lor, 1) := by decide +kernel
theorem dX10_token_110 : decode mX10_token.2.1 110 = .ok (.putfield 177, 3) := by decide +kernel
theorem dX10_token_113 : decode mX10_token.2.1 113 = .ok (.iinc 2 1, 3) := by decide +kernel
theorem dX10_token_116 : decode mX10_token.2.1 116 = .ok (.goto (-38), 3) := by decide +kernel
theorem dX10_token_119 : decode mX10_token.2.1 119 = .ok (.aload_n 0, 1) := by decide +kernel
theorem dX10_token_120 : decode mX10_token.2.1 120 = .ok (.iload_n 2, 1) := by decide +kernel
theorem dX10_token_121 : decode mX10_token.2.1 121 = .ok (.bipush 8, 2) := by decide +kernel
theorem dX10_token_123 : decode mX10_token.2.1 123 = .ok (.if_icmp .le 7, 3) := by decide +kernel
theorem dX10_token_126 : decode mX10_token.2.1 126 = .ok (.iconst 3, 1) := by decide +kernel
theorem dX10_token_127 : decode mX10_token.2.1 127 = .ok (.goto 4, 3) := by decide +kernel
theorem dX10_token_130 : decode mX10_token.2.1 130 = .ok (.iconst 1, 1) := by decide +kernel
theorem dX10_token_131 : decode mX10_token.2.1 131 = .ok (.putfield 184, 3) := by decide +kernel
theorem dX10_token_134 : decode mX10_token.2.1 134 = .ok (.goto 98, 3) := by decide +kernel
theorem dX10_token_137 : decode mX10_token.2.1 137 = .ok (.iload_n 1, 1) := by decide +kernel
theorem dX10_token_138 : decode mX10_token.2.1 138 = .ok (.invokestatic 191, 3) := by decide +kernel
theorem dX10_token_141 : decode mX10_token.2.1 141 = .ok (.ifCond .eq 73, 3) := by decide +kernel
theorem dX10_token_144 : decode mX10_token.2.1 144 = .ok (.aload_n 0, 1) := by decide +kernel
theorem dX10_token_145 : decode mX10_token.2.1 145 = .ok (.iload_n 2, 1) := by decide +kernel
theorem dX10_token_146 : decode mX10_token.2.1 146 = .ok (.invokevirtual 170, 3) := by decide +kernel
theorem dX10_token_149 : decode mX10_token.2.1 149 = .ok (.invokestatic 191, 3) := by decide +kernel
theorem dX10_token_152 : decode mX10_token.2.1 152 = .ok (.ifCond .eq 34, 3) := by decide +kernel
theorem dX10_token_155 : decode mX10_token.2.1 155 = .ok (.iload_n 2, 1) := by decide +kernel
theorem dX10_token_156 : decode mX10_token.2.1 156 = .ok (.iconst 4, 1) := by decide +kernel
theorem dX10_token_157 : decode mX10_token.2.1 157 = .ok (.if_icmp .ge 23, 3) := by decide +kernel
theorem dX10_token_160 : decode mX10_token.2.1 160 = .ok (.aload_n 0, 1) := by decide +kernel
theorem dX10_token_161 : decode mX10_token.2.1 161 = .ok (.bipush 10, 2) := by decide +kernel
theorem dX10_token_163 : decode mX10_token.2.1 163 = .ok (.aload_n 0, 1) := by decide +kernel
theorem dX10_token_164 : decode mX10_token.2.1 164 = .ok (.getfield 181, 3) := by decide +kernel
theorem dX10_token_167 : decode mX10_token.2.1 167 = .ok (.imul, 1) := by decide +kernel
theorem dX10_token_168 : decode mX10_token.2.1 168 = .ok (.aload_n 0, 1) := by decide +kernel
theorem dX10_token_169 : decode mX10_token.2.1 169 = .ok (.iload_n 2, 1) := by decide +kernel
theorem dX10_token_170 : decode mX10_token.2.1 170 = .ok (.invokevirtual 170, 3) := by decide +kernel
theorem dX10_token_173 : decode mX10_token.2.1 173 = .ok (.iadd, 1) := by decide +kernel
theorem dX10_token_174 : decode mX10_token.2.1 174 = .ok (.bipush 48, 2) := by decide +kernel
theorem dX10_token_176 : decode mX10_token.2.1 176 = .ok (.isub, 1) := by decide +kernel
theorem dX10_token_177 : decode mX10_token.2.1 177 = .ok (.putfield 181, 3) := by decide +kernel
theorem dX10_token_180 : decode mX10_token.2.1 180 = .ok (.iinc 2 1, 3) := by decide +kernel
theorem dX10_token_183 : decode mX10_token.2.1 183 = .ok (.goto (-39), 3) := by decide +kernel
theorem dX10_token_186 : decode mX10_token.2.1 186 = .ok (.aload_n 0, 1) := by decide +kernel
theorem dX10_token_187 : decode mX10_token.2.1 187 = .ok (.iload_n 2, 1) := by decide +kernel
theorem dX10_token_188 : decode mX10_token.2.1 188 = .ok (.iconst 4, 1) := by decide +kernel
theorem dX10_token_189 : decode mX10_token.2.1 189 = .ok (.if_icmp .gt 14, 3) := by decide +kernel
theorem dX10_token_192 : decode mX10_token.2.1 192 = .ok (.aload_n 0, 1) := by decide +kernel
theorem dX10_token_193 : decode mX10_token.2.1 193 = .ok (.iload_n 2, 1) := by decide +kernel
theorem dX10_token_194 : decode mX10_token.2.1 194 = .ok (.invokevirtual 170, 3) := by decide +kernel
theorem dX10_token_197 : decode mX10_token.2.1 197 = .ok (.invokestatic 187, 3) := by decide +kernel
theorem dX10_token_200 : decode mX10_token.2.1 200 = .ok (.ifCond .eq 7, 3) := by decide +kernel
theorem dX10_token_203 : decode mX10_token.2.1 203 = .ok (.iconst 3, 1) := by decide +kernel
theorem dX10_token_204 : decode mX10_token.2.1 204 = .ok (.goto 4, 3) := by decide +kernel
theorem dX10_token_207 : decode mX10_token.2.1 207 = .ok (.iconst 2, 1) := by decide +kernel
theorem dX10_token_208 : decode mX10_token.2.1 208 = .ok (.putfield 184, 3) := by decide +kernel
theorem dX10_token_211 : decode mX10_token.2.1 211 = .ok (.goto 21, 3) := by decide +kernel
theorem dX10_token_214 : decode mX10_token.2.1 214 = .ok (.iconst 1, 1) := by decide +kernel
theorem dX10_token_215 : decode mX10_token.2.1 215 = .ok (.istore_n 2, 1) := by decide +kernel
theorem dX10_token_216 : decode mX10_token.2.1 216 = .ok (.aload_n 0, 1) := by decide +kernel
theorem dX10_token_217 : decode mX10_token.2.1 217 = .ok (.iload_n 1, 1) := by decide +kernel
theorem dX10_token_218 : decode mX10_token.2.1 218 = .ok (.invokestatic 194, 3) := by decide +kernel
theorem dX10_token_221 : decode mX10_token.2.1 221 = .ok (.ifCond .eq 7, 3) := by decide +kernel
theorem dX10_token_224 : decode mX10_token.2.1 224 = .ok (.iload_n 1, 1) := by decide +kernel
theorem dX10_token_225 : decode mX10_token.2.1 225 = .ok (.goto 4, 3) := by decide +kernel
theorem dX10_token_228 : decode mX10_token.2.1 228 = .ok (.iconst 3, 1) := by decide +kernel
theorem dX10_token_229 : decode mX10_token.2.1 229 = .ok (.putfield 184, 3) := by decide +kernel
theorem dX10_token_232 : decode mX10_token.2.1 232 = .ok (.aload_n 0, 1) := by decide +kernel
theorem dX10_token_233 : decode mX10_token.2.1 233 = .ok (.getfield 184, 3) := by decide +kernel
theorem dX10_token_236 : decode mX10_token.2.1 236 = .ok (.iconst 3, 1) := by decide +kernel
theorem dX10_token_237 : decode mX10_token.2.1 237 = .ok (.if_icmp .eq 13, 3) := by decide +kernel
theorem dX10_token_240 : decode mX10_token.2.1 240 = .ok (.aload_n 0, 1) := by decide +kernel
theorem dX10_token_241 : decode mX10_token.2.1 241 = .ok (.dup, 1) := by decide +kernel
theorem dX10_token_242 : decode mX10_token.2.1 242 = .ok (.getfield 164, 3) := by decide +kernel
theorem dX10_token_245 : decode mX10_token.2.1 245 = .ok (.iload_n 2, 1) := by decide +kernel
theorem dX10_token_246 : decode mX10_token.2.1 246 = .ok (.iadd, 1) := by decide +kernel
theorem dX10_token_247 : decode mX10_token.2.1 247 = .ok (.putfield 164, 3) := by decide +kernel
theorem dX10_token_250 : decode mX10_token.2.1 250 = .ok (.return_, 1) := by decide +kernel
theorem bX10_token_0 {E : px_E} {d : Nat} {w : pw_W} {Q : Option Value → pw_W → Prop} {t : ct_T} (hw : w.1 = cs t)  
    (k1 : px_Call E d 0 0 mX10_here [.ref 61, .int 0] w (fun v w' => px_W E mX10_token (d + 1) 0 0 5 [.ref 61, .null, .null] (v.toList ++ []) w' Q)) :
    px_W E mX10_token (d + 1) 0 0 0 [.ref 61, .null, .null] [] w Q := by
  refine px_aload_n dX10_token_0 rfl rfl ?_
  refine px_iconst dX10_token_1 ic_0 ?_
  exact px_callV (As := [.int 0]) (st := []) (rc := 0) (rs := 0) (mc := 0) (ms := 0) dX10_token_2 lk_10_170 (px_sh1 hw sh_61) rfl rfl (Nat.le_of_ble_eq_true rfl) k1
theorem eX10_token {E : px_E} {d : Nat} {w : pw_W} {Q : Option Value → pw_W → Prop} {t : ct_T} (hw : w.1 = cs t)  
    (k1 : px_Call E d 0 0 mX10_here [.ref 61, .int 0] w (fun v w' => px_W E mX10_token (d + 1) 0 0 5 [.ref 61, .null, .null] (v.toList ++ []) w' Q)) :
    px_Call E (d + 1) 0 0 mX10_token [.ref 61] w Q :=
  px_enter (k := 2) (by decide) (Nat.le_of_ble_eq_true rfl) rfl (px_forget (bX10_token_0 hw k1) ⟨Or.inr rfl, Or.inl rfl, Or.inl rfl, trivial⟩)
theorem bX10_token_5 {E : px_E} {d : Nat} {w : pw_W} {Q : Option Value → pw_W → Prop} {t : ct_T} (hw : w.1 = cs t) {y0 : Int32}  
    (k1 : y0 = 32 → px_W E mX10_token (d + 1) 0 0 20 [.ref 61, .null, .null] [] w Q)
    (k2 : ¬ y0 = 32 → px_Call E d 0 0 mX10_here [.ref 61, .int 0] w (fun v w' => px_W E mX10_token (d + 1) 0 0 15 [.ref 61, .null, .null] (v.toList ++ []) w' Q)) :
    px_W E mX10_token (d + 1) 0 0 5 [.ref 61, .null, .null] [.int y0] w Q := by
  refine px_bipush dX10_token_5 bp_32 ?_
  refine px_icmp_eq (tgt := 20) dX10_token_7 (by decide) (fun h1 => ?_) (fun h1 => ?_)
  ·
    exact (k1 h1)
  ·
    refine px_aload_n dX10_token_10 rfl rfl ?_
    refine px_iconst dX10_token_11 ic_0 ?_
    exact px_callV (As := [.int 0]) (st := []) (rc := 0) (rs := 0) (mc := 0) (ms := 0) dX10_token_12 lk_10_170 (px_sh1 hw sh_61) rfl rfl (Nat.le_of_ble_eq_true rfl) (k2 h1)
theorem bX10_token_15 {E : px_E} {d : Nat} {w : pw_W} {Q : Option Value → pw_W → Prop} {t : ct_T} (hw : w.1 = cs t) {y0 : Int32}  
    (k1 : ¬ y0 = 10 → px_Call E d 0 0 mX10_here [.ref 61, .int 0] (pw_sI w 61 7 (pw_I w 61 4)) (fun v w' => px_W E mX10_token (d + 1) 0 0 46 [.ref 61, .null, .null] (v.toList ++ []) w' Q))
    (k2 : y0 = 10 → px_W E mX10_token (d + 1) 0 0 20 [.ref 61, .null, .null] [] w Q) :
    px_W E mX10_token (d + 1) 0 0 15 [.ref 61, .null, .null] [.int y0] w Q := by
  refine px_bipush dX10_token_15 bp_10 ?_
  refine px_icmp_ne (tgt := 33) dX10_token_17 (by decide) (fun h1 => ?_) (fun h1 => ?_)
  ·
    refine px_aload_n dX10_token_33 rfl rfl ?_
    refine px_aload_n dX10_token_34 rfl rfl ?_
    refine px_getI dX10_token_35 fr_10_164 rfl (px_sh1 hw sh_61) ?_
    refine px_putI dX10_token_38 fl_10_174 (Or.inl rfl) rfl (px_sh1 hw sh_61) rfl rfl (by omega) ?_
    refine px_aload_n dX10_token_41 rfl rfl ?_
    refine px_iconst dX10_token_42 ic_0 ?_
    exact px_callV (As := [.int 0]) (st := []) (rc := 0) (rs := 0) (mc := 0) (ms := 0) dX10_token_43 lk_10_170 (px_sh1 hw sh_61) rfl rfl (Nat.le_of_ble_eq_true rfl) (k1 h1)
  ·
    exact (k2 h1)
theorem bX10_token_20 {E : px_E} {d : Nat} {w : pw_W} {Q : Option Value → pw_W → Prop} {t : ct_T} (hw : w.1 = cs t)  
    (k1 : px_W E mX10_token (d + 1) 0 0 0 [.ref 61, .null, .null] [] (pw_sI w 61 4 ((pw_I w 61 4) + 1)) Q) :
    px_W E mX10_token (d + 1) 0 0 20 [.ref 61, .null, .null] [] w Q := by
  refine px_aload_n dX10_token_20 rfl rfl ?_
  refine px_dup dX10_token_21 rfl ?_
  refine px_getI dX10_token_22 fr_10_164 rfl (px_sh1 hw sh_61) ?_
  refine px_iconst dX10_token_25 ic_1 ?_
  refine px_iadd dX10_token_26 ?_
  refine px_putI dX10_token_27 fl_10_164 (Or.inl rfl) rfl (px_sh1 hw sh_61) rfl rfl (by omega) ?_
  refine px_goto (tgt := 0) dX10_token_30 (by decide) ?_
  exact k1
theorem bX10_token_46 {E : px_E} {d : Nat} {w : pw_W} {Q : Option Value → pw_W → Prop} {t : ct_T} (hw : w.1 = cs t) {y0 : Int32}  
    (k1 : 0 ≤ y0 → px_Call E d 0 0 mX10_isLetter [.int y0] (pw_sI (pw_sL w 61 9 0) 61 8 0) (fun v w' => px_W E mX10_token (d + 1) 0 0 75 [.ref 61, .int y0, .int 0] (v.toList ++ []) w' Q))
    (k2 : ¬ 0 ≤ y0 → px_W E mX10_token (d + 1) 0 0 232 [.ref 61, .null, .int 0] [] (pw_sI (pw_sI (pw_sL w 61 9 0) 61 8 0) 61 6 0) Q) :
    px_W E mX10_token (d + 1) 0 0 46 [.ref 61, .null, .null] [.int y0] w Q := by
  refine px_istore_n (ls' := [.ref 61, .int y0, .null]) dX10_token_46 rfl ⟨by decide, rfl⟩ rfl ?_
  refine px_iconst dX10_token_47 ic_0 ?_
  refine px_istore_n (ls' := [.ref 61, .int y0, .int 0]) dX10_token_48 rfl ⟨by decide, rfl⟩ rfl ?_
  refine px_aload_n dX10_token_49 rfl rfl ?_
  refine px_lconst (v := 0) dX10_token_50 (by decide) ?_
  refine px_putL dX10_token_51 fl_10_177 (Or.inl rfl) rfl (px_sh1 hw sh_61) (by omega) ?_
  refine px_aload_n dX10_token_54 rfl rfl ?_
  refine px_iconst dX10_token_55 ic_0 ?_
  refine px_putI dX10_token_56 fl_10_181 (Or.inl rfl) rfl (px_sh1 hw sh_61) rfl rfl (by omega) ?_
  refine px_iload_n dX10_token_59 rfl rfl ?_
  refine px_if_ge (tgt := 71) dX10_token_60 (by decide) (fun h1 => ?_) (fun h1 => ?_)
  ·
    refine px_iload_n dX10_token_71 rfl rfl ?_
    exact px_callS (As := [.int y0]) (st := []) (rc := 0) (rs := 0) (mc := 0) (ms := 0) dX10_token_72 lk_10_187 rfl rfl (Nat.le_of_ble_eq_true rfl) (k1 h1)
  ·
    refine px_aload_n dX10_token_63 rfl rfl ?_
    refine px_iconst dX10_token_64 ic_0 ?_
    refine px_putI dX10_token_65 fl_10_184 (Or.inl rfl) rfl (px_sh1 hw sh_61) rfl rfl (by omega) ?_
    refine px_goto (tgt := 232) dX10_token_68 (by decide) ?_
    exact px_forget (k2 h1) ⟨Or.inr rfl, Or.inl rfl, Or.inr rfl, trivial⟩
theorem bX10_token_75 {E : px_E} {d : Nat} {w : pw_W} {Q : Option Value → pw_W → Prop} {x1 x2 y0 : Int32}  
    (k1 : y0 = 0 → px_Call E d 0 0 mX10_isDigit [.int x1] w (fun v w' => px_W E mX10_token (d + 1) 0 0 141 [.ref 61, .int x1, .int x2] (v.toList ++ []) w' Q))
    (k2 : ¬ y0 = 0 → px_W E mX10_token (d + 1) 0 0 78 [.ref 61, .null, .int x2] [] w Q) :
    px_W E mX10_token (d + 1) 0 0 75 [.ref 61, .int x1, .int x2] [.int y0] w Q := by
  refine px_if_eq (tgt := 137) dX10_token_75 (by decide) (fun h1 => ?_) (fun h1 => ?_)
  ·
    refine px_iload_n dX10_token_137 rfl rfl ?_
    exact px_callS (As := [.int x1]) (st := []) (rc := 0) (rs := 0) (mc := 0) (ms := 0) dX10_token_138 lk_10_191 rfl rfl (Nat.le_of_ble_eq_true rfl) (k1 h1)
  ·
    exact px_forget (k2 h1) ⟨Or.inr rfl, Or.inl rfl, Or.inr rfl, trivial⟩
theorem bX10_token_78 {E : px_E} {d : Nat} {w : pw_W} {Q : Option Value → pw_W → Prop} {t : ct_T} (hw : w.1 = cs t) {x2 : Int32}  
    (k1 : px_Call E d 0 0 mX10_here [.ref 61, .int x2] w (fun v w' => px_W E mX10_token (d + 1) 0 0 83 [.ref 61, .null, .int x2] (v.toList ++ []) w' Q)) :
    px_W E mX10_token (d + 1) 0 0 78 [.ref 61, .null, .int x2] [] w Q := by
  refine px_aload_n dX10_token_78 rfl rfl ?_
  refine px_iload_n dX10_token_79 rfl rfl ?_
  exact px_callV (As := [.int x2]) (st := []) (rc := 0) (rs := 0) (mc := 0) (ms := 0) dX10_token_80 lk_10_170 (px_sh1 hw sh_61) rfl rfl (Nat.le_of_ble_eq_true rfl) k1
theorem bX10_token_83 {E : px_E} {d : Nat} {w : pw_W} {Q : Option Value → pw_W → Prop} {x2 y0 : Int32}  
    (k1 : px_Call E d 0 0 mX10_isLetter [.int y0] w (fun v w' => px_W E mX10_token (d + 1) 0 0 86 [.ref 61, .null, .int x2] (v.toList ++ []) w' Q)) :
    px_W E mX10_token (d + 1) 0 0 83 [.ref 61, .null, .int x2] [.int y0] w Q := by
  exact px_callS (As := [.int y0]) (st := []) (rc := 0) (rs := 0) (mc := 0) (ms := 0) dX10_token_83 lk_10_187 rfl rfl (Nat.le_of_ble_eq_true rfl) k1
theorem bX10_token_86 {E : px_E} {d : Nat} {w : pw_W} {Q : Option Value → pw_W → Prop} {t : ct_T} (hw : w.1 = cs t) {x2 y0 : Int32}  
    (k1 : y0 = 0 → x2 ≤ 8 → px_W E mX10_token (d + 1) 0 0 131 [.ref 61, .null, .int x2] [.int 1, .ref 61] w Q)
    (k2 : y0 = 0 → ¬ x2 ≤ 8 → px_W E mX10_token (d + 1) 0 0 131 [.ref 61, .null, .int x2] [.int 3, .ref 61] w Q)
    (k3 : ¬ y0 = 0 → 8 ≤ x2 → px_W E mX10_token (d + 1) 0 0 113 [.ref 61, .null, .int x2] [] w Q)
    (k4 : ¬ y0 = 0 → ¬ 8 ≤ x2 → px_Call E d 0 0 mX10_here [.ref 61, .int x2] w (fun v w' => px_W E mX10_token (d + 1) 0 0 108 [.ref 61, .null, .int x2] (v.toList ++ [.long (js_lshl (pw_L w 61 9) 8), .ref 61]) w' Q)) :
    px_W E mX10_token (d + 1) 0 0 86 [.ref 61, .null, .int x2] [.int y0] w Q := by
  refine px_if_eq (tgt := 119) dX10_token_86 (by decide) (fun h1 => ?_) (fun h1 => ?_)
  ·
    refine px_aload_n dX10_token_119 rfl rfl ?_
    refine px_iload_n dX10_token_120 rfl rfl ?_
    refine px_bipush dX10_token_121 bp_8 ?_
    refine px_icmp_le (tgt := 130) dX10_token_123 (by decide) (fun h2 => ?_) (fun h2 => ?_)
    ·
      refine px_iconst dX10_token_130 ic_1 ?_
      exact (k1 h1 h2)
    ·
      refine px_iconst dX10_token_126 ic_3 ?_
      refine px_goto (tgt := 131) dX10_token_127 (by decide) ?_
      exact (k2 h1 h2)
  ·
    refine px_iload_n dX10_token_89 rfl rfl ?_
    refine px_bipush dX10_token_90 bp_8 ?_
    refine px_icmp_ge (tgt := 113) dX10_token_92 (by decide) (fun h3 => ?_) (fun h3 => ?_)
    ·
      exact (k3 h1 h3)
    ·
      refine px_aload_n dX10_token_95 rfl rfl ?_
      refine px_aload_n dX10_token_96 rfl rfl ?_
      refine px_getL dX10_token_97 fr_10_177 rfl (px_sh1 hw sh_61) ?_
      refine px_bipush dX10_token_100 bp_8 ?_
      refine px_lshl dX10_token_102 ?_
      refine px_aload_n dX10_token_103 rfl rfl ?_
      refine px_iload_n dX10_token_104 rfl rfl ?_
      exact px_callV (As := [.int x2]) (st := [.long (js_lshl (pw_L w 61 9) 8), .ref 61]) (rc := 0) (rs := 0) (mc := 0) (ms := 0) dX10_token_105 lk_10_170 (px_sh1 hw sh_61) rfl rfl (Nat.le_of_ble_eq_true rfl) (k4 h1 h3)
theorem bX10_token_108 {E : px_E} {d : Nat} {w : pw_W} {Q : Option Value → pw_W → Prop} {t : ct_T} (hw : w.1 = cs t) {x2 y2 : Int32} {z1 : Int64}  
    (k1 : px_W E mX10_token (d + 1) 0 0 113 [.ref 61, .null, .int x2] [] (pw_sL w 61 9 (z1 ||| y2.toInt64)) Q) :
    px_W E mX10_token (d + 1) 0 0 108 [.ref 61, .null, .int x2] [.int y2, .long z1, .ref 61] w Q := by
  refine px_i2l dX10_token_108 ?_
  refine px_lor dX10_token_109 ?_
  refine px_putL dX10_token_110 fl_10_177 (Or.inl rfl) rfl (px_sh1 hw sh_61) (by omega) ?_
  exact k1
theorem bX10_token_113 {E : px_E} {d : Nat} {w : pw_W} {Q : Option Value → pw_W → Prop} {x2 : Int32}  
    (k1 : px_W E mX10_token (d + 1) 0 0 78 [.ref 61, .null, .int (x2 + 1)] [] w Q) :
    px_W E mX10_token (d + 1) 0 0 113 [.ref 61, .null, .int x2] [] w Q := by
  refine px_iinc (ls' := [.ref 61, .null, .int (x2 + 1)]) dX10_token_113 ⟨by decide, rfl⟩ rfl rfl rfl ?_
  refine px_goto (tgt := 78) dX10_token_116 (by decide) ?_
  exact k1
theorem bX10_token_131 {E : px_E} {d : Nat} {w : pw_W} {Q : Option Value → pw_W → Prop} {t : ct_T} (hw : w.1 = cs t) {x2 y1 : Int32}  
    (k1 : px_W E mX10_token (d + 1) 0 0 232 [.ref 61, .null, .int x2] [] (pw_sI w 61 6 y1) Q) :
    px_W E mX10_token (d + 1) 0 0 131 [.ref 61, .null, .int x2] [.int y1, .ref 61] w Q := by
  refine px_putI dX10_token_131 fl_10_184 (Or.inl rfl) rfl (px_sh1 hw sh_61) rfl rfl (by omega) ?_
  refine px_goto (tgt := 232) dX10_token_134 (by decide) ?_
  exact k1
theorem bX10_token_141 {E : px_E} {d : Nat} {w : pw_W} {Q : Option Value → pw_W → Prop} {x1 x2 y0 : Int32}  
    (k1 : y0 = 0 → px_Call E d 0 0 mX10_isSign [.int x1] w (fun v w' => px_W E mX10_token (d + 1) 0 0 221 [.ref 61, .int x1, .int 1] (v.toList ++ [.ref 61]) w' Q))
    (k2 : ¬ y0 = 0 → px_W E mX10_token (d + 1) 0 0 144 [.ref 61, .null, .int x2] [] w Q) :
    px_W E mX10_token (d + 1) 0 0 141 [.ref 61, .int x1, .int x2] [.int y0] w Q := by
  refine px_if_eq (tgt := 214) dX10_token_141 (by decide) (fun h1 => ?_) (fun h1 => ?_)
  ·
    refine px_iconst dX10_token_214 ic_1 ?_
    refine px_istore_n (ls' := [.ref 61, .int x1, .int 1]) dX10_token_215 rfl ⟨by decide, rfl⟩ rfl ?_
    refine px_aload_n dX10_token_216 rfl rfl ?_
    refine px_iload_n dX10_token_217 rfl rfl ?_
    exact px_callS (As := [.int x1]) (st := [.ref 61]) (rc := 0) (rs := 0) (mc := 0) (ms := 0) dX10_token_218 lk_10_194 rfl rfl (Nat.le_of_ble_eq_true rfl) (k1 h1)
  ·
    exact px_forget (k2 h1) ⟨Or.inr rfl, Or.inl rfl, Or.inr rfl, trivial⟩
theorem bX10_token_144 {E : px_E} {d : Nat} {w : pw_W} {Q : Option Value → pw_W → Prop} {t : ct_T} (hw : w.1 = cs t) {x2 : Int32}  
    (k1 : px_Call E d 0 0 mX10_here [.ref 61, .int x2] w (fun v w' => px_W E mX10_token (d + 1) 0 0 149 [.ref 61, .null, .int x2] (v.toList ++ []) w' Q)) :
    px_W E mX10_token (d + 1) 0 0 144 [.ref 61, .null, .int x2] [] w Q := by
  refine px_aload_n dX10_token_144 rfl rfl ?_
  refine px_iload_n dX10_token_145 rfl rfl ?_
  exact px_callV (As := [.int x2]) (st := []) (rc := 0) (rs := 0) (mc := 0) (ms := 0) dX10_token_146 lk_10_170 (px_sh1 hw sh_61) rfl rfl (Nat.le_of_ble_eq_true rfl) k1
theorem bX10_token_149 {E : px_E} {d : Nat} {w : pw_W} {Q : Option Value → pw_W → Prop} {x2 y0 : Int32}  
    (k1 : px_Call E d 0 0 mX10_isDigit [.int y0] w (fun v w' => px_W E mX10_token (d + 1) 0 0 152 [.ref 61, .null, .int x2] (v.toList ++ []) w' Q)) :
    px_W E mX10_token (d + 1) 0 0 149 [.ref 61, .null, .int x2] [.int y0] w Q := by
  exact px_callS (As := [.int y0]) (st := []) (rc := 0) (rs := 0) (mc := 0) (ms := 0) dX10_token_149 lk_10_191 rfl rfl (Nat.le_of_ble_eq_true rfl) k1
theorem bX10_token_152 {E : px_E} {d : Nat} {w : pw_W} {Q : Option Value → pw_W → Prop} {t : ct_T} (hw : w.1 = cs t) {x2 y0 : Int32}  
    (k1 : y0 = 0 → 4 < x2 → px_W E mX10_token (d + 1) 0 0 203 [.ref 61, .null, .int x2] [.ref 61] w Q)
    (k2 : y0 = 0 → ¬ 4 < x2 → px_Call E d 0 0 mX10_here [.ref 61, .int x2] w (fun v w' => px_W E mX10_token (d + 1) 0 0 197 [.ref 61, .null, .int x2] (v.toList ++ [.ref 61]) w' Q))
    (k3 : ¬ y0 = 0 → 4 ≤ x2 → px_W E mX10_token (d + 1) 0 0 180 [.ref 61, .null, .int x2] [] w Q)
    (k4 : ¬ y0 = 0 → ¬ 4 ≤ x2 → px_Call E d 0 0 mX10_here [.ref 61, .int x2] w (fun v w' => px_W E mX10_token (d + 1) 0 0 173 [.ref 61, .null, .int x2] (v.toList ++ [.int (10 * (pw_I w 61 8)), .ref 61]) w' Q)) :
    px_W E mX10_token (d + 1) 0 0 152 [.ref 61, .null, .int x2] [.int y0] w Q := by
  refine px_if_eq (tgt := 186) dX10_token_152 (by decide) (fun h1 => ?_) (fun h1 => ?_)
  ·
    refine px_aload_n dX10_token_186 rfl rfl ?_
    refine px_iload_n dX10_token_187 rfl rfl ?_
    refine px_iconst dX10_token_188 ic_4 ?_
    refine px_icmp_gt (tgt := 203) dX10_token_189 (by decide) (fun h2 => ?_) (fun h2 => ?_)
    ·
      exact (k1 h1 h2)
    ·
      refine px_aload_n dX10_token_192 rfl rfl ?_
      refine px_iload_n dX10_token_193 rfl rfl ?_
      exact px_callV (As := [.int x2]) (st := [.ref 61]) (rc := 0) (rs := 0) (mc := 0) (ms := 0) dX10_token_194 lk_10_170 (px_sh1 hw sh_61) rfl rfl (Nat.le_of_ble_eq_true rfl) (k2 h1 h2)
  ·
    refine px_iload_n dX10_token_155 rfl rfl ?_
    refine px_iconst dX10_token_156 ic_4 ?_
    refine px_icmp_ge (tgt := 180) dX10_token_157 (by decide) (fun h3 => ?_) (fun h3 => ?_)
    ·
      exact (k3 h1 h3)
    ·
      refine px_aload_n dX10_token_160 rfl rfl ?_
      refine px_bipush dX10_token_161 bp_10 ?_
      refine px_aload_n dX10_token_163 rfl rfl ?_
      refine px_getI dX10_token_164 fr_10_181 rfl (px_sh1 hw sh_61) ?_
      refine px_imul dX10_token_167 ?_
      refine px_aload_n dX10_token_168 rfl rfl ?_
      refine px_iload_n dX10_token_169 rfl rfl ?_
      exact px_callV (As := [.int x2]) (st := [.int (10 * (pw_I w 61 8)), .ref 61]) (rc := 0) (rs := 0) (mc := 0) (ms := 0) dX10_token_170 lk_10_170 (px_sh1 hw sh_61) rfl rfl (Nat.le_of_ble_eq_true rfl) (k4 h1 h3)
theorem bX10_token_173 {E : px_E} {d : Nat} {w : pw_W} {Q : Option Value → pw_W → Prop} {t : ct_T} (hw : w.1 = cs t) {x2 y1 y2 : Int32}  
    (k1 : px_W E mX10_token (d + 1) 0 0 180 [.ref 61, .null, .int x2] [] (pw_sI w 61 8 ((y1 + y2) - 48)) Q) :
    px_W E mX10_token (d + 1) 0 0 173 [.ref 61, .null, .int x2] [.int y2, .int y1, .ref 61] w Q := by
  refine px_iadd dX10_token_173 ?_
  refine px_bipush dX10_token_174 bp_48 ?_
  refine px_isub dX10_token_176 ?_
  refine px_putI dX10_token_177 fl_10_181 (Or.inl rfl) rfl (px_sh1 hw sh_61) rfl rfl (by omega) ?_
  exact k1
theorem bX10_token_180 {E : px_E} {d : Nat} {w : pw_W} {Q : Option Value → pw_W → Prop} {x2 : Int32}  
    (k1 : px_W E mX10_token (d + 1) 0 0 144 [.ref 61, .null, .int (x2 + 1)] [] w Q) :
    px_W E mX10_token (d + 1) 0 0 180 [.ref 61, .null, .int x2] [] w Q := by
  refine px_iinc (ls' := [.ref 61, .null, .int (x2 + 1)]) dX10_token_180 ⟨by decide, rfl⟩ rfl rfl rfl ?_
  refine px_goto (tgt := 144) dX10_token_183 (by decide) ?_
  exact k1
theorem bX10_token_197 {E : px_E} {d : Nat} {w : pw_W} {Q : Option Value → pw_W → Prop} {x2 y1 : Int32}  
    (k1 : px_Call E d 0 0 mX10_isLetter [.int y1] w (fun v w' => px_W E mX10_token (d + 1) 0 0 200 [.ref 61, .null, .int x2] (v.toList ++ [.ref 61]) w' Q)) :
    px_W E mX10_token (d + 1) 0 0 197 [.ref 61, .null, .int x2] [.int y1, .ref 61] w Q := by
  exact px_callS (As := [.int y1]) (st := [.ref 61]) (rc := 0) (rs := 0) (mc := 0) (ms := 0) dX10_token_197 lk_10_187 rfl rfl (Nat.le_of_ble_eq_true rfl) k1
theorem bX10_token_200 {E : px_E} {d : Nat} {w : pw_W} {Q : Option Value → pw_W → Prop} {x2 y1 : Int32}  
    (k1 : y1 = 0 → px_W E mX10_token (d + 1) 0 0 208 [.ref 61, .null, .int x2] [.int 2, .ref 61] w Q)
    (k2 : ¬ y1 = 0 → px_W E mX10_token (d + 1) 0 0 203 [.ref 61, .null, .int x2] [.ref 61] w Q) :
    px_W E mX10_token (d + 1) 0 0 200 [.ref 61, .null, .int x2] [.int y1, .ref 61] w Q := by
  refine px_if_eq (tgt := 207) dX10_token_200 (by decide) (fun h1 => ?_) (fun h1 => ?_)
  ·
    refine px_iconst dX10_token_207 ic_2 ?_
    exact (k1 h1)
  ·
    exact (k2 h1)
theorem bX10_token_203 {E : px_E} {d : Nat} {w : pw_W} {Q : Option Value → pw_W → Prop} {x2 : Int32}  
    (k1 : px_W E mX10_token (d + 1) 0 0 208 [.ref 61, .null, .int x2] [.int 3, .ref 61] w Q) :
    px_W E mX10_token (d + 1) 0 0 203 [.ref 61, .null, .int x2] [.ref 61] w Q := by
  refine px_iconst dX10_token_203 ic_3 ?_
  refine px_goto (tgt := 208) dX10_token_204 (by decide) ?_
  exact k1
theorem bX10_token_208 {E : px_E} {d : Nat} {w : pw_W} {Q : Option Value → pw_W → Prop} {t : ct_T} (hw : w.1 = cs t) {x2 y1 : Int32}  
    (k1 : px_W E mX10_token (d + 1) 0 0 232 [.ref 61, .null, .int x2] [] (pw_sI w 61 6 y1) Q) :
    px_W E mX10_token (d + 1) 0 0 208 [.ref 61, .null, .int x2] [.int y1, .ref 61] w Q := by
  refine px_putI dX10_token_208 fl_10_184 (Or.inl rfl) rfl (px_sh1 hw sh_61) rfl rfl (by omega) ?_
  refine px_goto (tgt := 232) dX10_token_211 (by decide) ?_
  exact k1
theorem bX10_token_221 {E : px_E} {d : Nat} {w : pw_W} {Q : Option Value → pw_W → Prop} {x1 x2 y1 : Int32}  
    (k1 : y1 = 0 → px_W E mX10_token (d + 1) 0 0 229 [.ref 61, .null, .int x2] [.int 3, .ref 61] w Q)
    (k2 : ¬ y1 = 0 → px_W E mX10_token (d + 1) 0 0 229 [.ref 61, .null, .int x2] [.int x1, .ref 61] w Q) :
    px_W E mX10_token (d + 1) 0 0 221 [.ref 61, .int x1, .int x2] [.int y1, .ref 61] w Q := by
  refine px_if_eq (tgt := 228) dX10_token_221 (by decide) (fun h1 => ?_) (fun h1 => ?_)
  ·
    refine px_iconst dX10_token_228 ic_3 ?_
    exact px_forget (k1 h1) ⟨Or.inr rfl, Or.inl rfl, Or.inr rfl, trivial⟩
  ·
    refine px_iload_n dX10_token_224 rfl rfl ?_
    refine px_goto (tgt := 229) dX10_token_225 (by decide) ?_
    exact px_forget (k2 h1) ⟨Or.inr rfl, Or.inl rfl, Or.inr rfl, trivial⟩
theorem bX10_token_229 {E : px_E} {d : Nat} {w : pw_W} {Q : Option Value → pw_W → Prop} {t : ct_T} (hw : w.1 = cs t) {x2 y1 : Int32}  
    (k1 : px_W E mX10_token (d + 1) 0 0 232 [.ref 61, .null, .int x2] [] (pw_sI w 61 6 y1) Q) :
    px_W E mX10_token (d + 1) 0 0 229 [.ref 61, .null, .int x2] [.int y1, .ref 61] w Q := by
  refine px_putI dX10_token_229 fl_10_184 (Or.inl rfl) rfl (px_sh1 hw sh_61) rfl rfl (by omega) ?_
  exact k1
theorem bX10_token_232 {E : px_E} {d : Nat} {w : pw_W} {Q : Option Value → pw_W → Prop} {t : ct_T} (hw : w.1 = cs t) {x2 : Int32}  
    (k1 : (pw_I w 61 6) = 3 → px_W E mX10_token (d + 1) 0 0 250 [.null, .null, .null] [] w Q)
    (k2 : ¬ (pw_I w 61 6) = 3 → px_W E mX10_token (d + 1) 0 0 250 [.null, .null, .null] [] (pw_sI w 61 4 ((pw_I w 61 4) + x2)) Q) :
    px_W E mX10_token (d + 1) 0 0 232 [.ref 61, .null, .int x2] [] w Q := by
  refine px_aload_n dX10_token_232 rfl rfl ?_
  refine px_getI dX10_token_233 fr_10_184 rfl (px_sh1 hw sh_61) ?_
  refine px_iconst dX10_token_236 ic_3 ?_
  refine px_icmp_eq (tgt := 250) dX10_token_237 (by decide) (fun h1 => ?_) (fun h1 => ?_)
  ·
    exact px_forget (k1 h1) ⟨Or.inl rfl, Or.inl rfl, Or.inl rfl, trivial⟩
  ·
    refine px_aload_n dX10_token_240 rfl rfl ?_
    refine px_dup dX10_token_241 rfl ?_
    refine px_getI dX10_token_242 fr_10_164 rfl (px_sh1 hw sh_61) ?_
    refine px_iload_n dX10_token_245 rfl rfl ?_
    refine px_iadd dX10_token_246 ?_
    refine px_putI dX10_token_247 fl_10_164 (Or.inl rfl) rfl (px_sh1 hw sh_61) rfl rfl (by omega) ?_
    exact px_forget (k2 h1) ⟨Or.inl rfl, Or.inl rfl, Or.inl rfl, trivial⟩
theorem bX10_token_250 {E : px_E} {d : Nat} {w : pw_W} {Q : Option Value → pw_W → Prop}  
    (k1 : Q none w) :
    px_W E mX10_token (d + 1) 0 0 250 [.null, .null, .null] [] w Q := by
  exact px_return dX10_token_250 rfl k1
theorem dX10_isIn_0 : decode mX10_isIn.2.1 0 = .ok (.iload_n 0, 1) := by decide +kernel
theorem dX10_isIn_1 : decode mX10_isIn.2.1 1 = .ok (.iload_n 1, 1) := by decide +kernel
theorem dX10_isIn_2 : decode mX10_isIn.2.1 2 = .ok (.if_icmp .lt 12, 3) := by decide +kernel
theorem dX10_isIn_5 : decode mX10_isIn.2.1 5 = .ok (.iload_n 0, 1) := by decide +kernel
theorem dX10_isIn_6 : decode mX10_isIn.2.1 6 = .ok (.iload_n 2, 1) := by decide +kernel
theorem dX10_isIn_7 : decode mX10_isIn.2.1 7 = .ok (.if_icmp .gt 7, 3) := by decide +kernel
theorem dX10_isIn_10 : decode mX10_isIn.2.1 10 = .ok (.iconst 1, 1) := by decide +kernel
theorem dX10_isIn_11 : decode mX10_isIn.2.1 11 = .ok (.goto 4, 3) := by decide +kernel
theorem dX10_isIn_14 : decode mX10_isIn.2.1 14 = .ok (.iconst 0, 1) := by decide +kernel
theorem dX10_isIn_15 : decode mX10_isIn.2.1 15 = .ok (.ireturn, 1) := by decide +kernel
theorem bX10_isIn_0 {E : px_E} {d : Nat} {w : pw_W} {Q : Option Value → pw_W → Prop} {x0 x1 x2 : Int32}  
    (k1 : x0 < x1 → px_W E mX10_isIn (d + 1) 0 0 14 [.null, .null, .null] [] w Q)
    (k2 : ¬ x0 < x1 → x2 < x0 → px_W E mX10_isIn (d + 1) 0 0 14 [.null, .null, .null] [] w Q)
    (k3 : ¬ x0 < x1 → ¬ x2 < x0 → px_W E mX10_isIn (d + 1) 0 0 15 [.null, .null, .null] [.int 1] w Q) :
    px_W E mX10_isIn (d + 1) 0 0 0 [.int x0, .int x1, .int x2] [] w Q := by
  refine px_iload_n dX10_isIn_0 rfl rfl ?_
  refine px_iload_n dX10_isIn_1 rfl rfl ?_
  refine px_icmp_lt (tgt := 14) dX10_isIn_2 (by decide) (fun h1 => ?_) (fun h1 => ?_)
  ·
    exact px_forget (k1 h1) ⟨Or.inl rfl, Or.inl rfl, Or.inl rfl, trivial⟩
  ·
    refine px_iload_n dX10_isIn_5 rfl rfl ?_
    refine px_iload_n dX10_isIn_6 rfl rfl ?_
    refine px_icmp_gt (tgt := 14) dX10_isIn_7 (by decide) (fun h2 => ?_) (fun h2 => ?_)
    ·
      exact px_forget (k2 h1 h2) ⟨Or.inl rfl, Or.inl rfl, Or.inl rfl, trivial⟩
    ·
      refine px_iconst dX10_isIn_10 ic_1 ?_
      refine px_goto (tgt := 15) dX10_isIn_11 (by decide) ?_
      exact px_forget (k3 h1 h2) ⟨Or.inl rfl, Or.inl rfl, Or.inl rfl, trivial⟩
theorem eX10_isIn {E : px_E} {d : Nat} {w : pw_W} {Q : Option Value → pw_W → Prop} {x0 x1 x2 : Int32}  
    (k1 : x0 < x1 → px_W E mX10_isIn (d + 1) 0 0 14 [.null, .null, .null] [] w Q)
    (k2 : ¬ x0 < x1 → x2 < x0 → px_W E mX10_isIn (d + 1) 0 0 14 [.null, .null, .null] [] w Q)
    (k3 : ¬ x0 < x1 → ¬ x2 < x0 → px_W E mX10_isIn (d + 1) 0 0 15 [.null, .null, .null] [.int 1] w Q) :
    px_Call E (d + 1) 0 0 mX10_isIn [.int x0, .int x1, .int x2] w Q :=
  px_enter (k := 0) (by decide) (Nat.le_of_ble_eq_true rfl) rfl (px_forget (bX10_isIn_0 k1 k2 k3) ⟨Or.inr rfl, Or.inr rfl, Or.inr rfl, trivial⟩)
theorem bX10_isIn_14 {E : px_E} {d : Nat} {w : pw_W} {Q : Option Value → pw_W → Prop}  
    (k1 : px_W E mX10_isIn (d + 1) 0 0 15 [.null, .null, .null] [.int 0] w Q) :
    px_W E mX10_isIn (d + 1) 0 0 14 [.null, .null, .null] [] w Q := by
  refine px_iconst dX10_isIn_14 ic_0 ?_
  exact k1
theorem bX10_isIn_15 {E : px_E} {d : Nat} {w : pw_W} {Q : Option Value → pw_W → Prop} {y0 : Int32}  (hb1 : y0 = 0 ∨ y0 = 1)
    (k1 : Q (some (.int y0)) w) :
    px_W E mX10_isIn (d + 1) 0 0 15 [.null, .null, .null] [.int y0] w Q := by
  exact px_ireturn dX10_isIn_15 rfl (px_nb (hb1)) k1
theorem dX10_fault_0 : decode mX10_fault.2.1 0 = .ok (.iload_n 1, 1) := by decide +kernel
theorem dX10_fault_1 : decode mX10_fault.2.1 1 = .ok (.ifCond .ne 10, 3) := by decide +kernel
theorem dX10_fault_4 : decode mX10_fault.2.1 4 = .ok (.aload_n 0, 1) := by decide +kernel
theorem dX10_fault_5 : decode mX10_fault.2.1 5 = .ok (.getfield 197, 3) := by decide +kernel
theorem dX10_fault_8 : decode mX10_fault.2.1 8 = .ok (.goto 16, 3) := by decide +kernel
theorem dX10_fault_11 : decode mX10_fault.2.1 11 = .ok (.iload_n 1, 1) := by decide +kernel
theorem dX10_fault_12 : decode mX10_fault.2.1 12 = .ok (.iconst 1, 1) := by decide +kernel
theorem dX10_fault_13 : decode mX10_fault.2.1 13 = .ok (.if_icmp .ne 10, 3) := by decide +kernel
theorem dX10_fault_16 : decode mX10_fault.2.1 16 = .ok (.aload_n 0, 1) := by decide +kernel
theorem dX10_fault_17 : decode mX10_fault.2.1 17 = .ok (.getfield 13, 3) := by decide +kernel
theorem dX10_fault_20 : decode mX10_fault.2.1 20 = .ok (.goto 4, 3) := by decide +kernel
theorem dX10_fault_23 : decode mX10_fault.2.1 23 = .ok (.iconst (-1), 1) := by decide +kernel
theorem dX10_fault_24 : decode mX10_fault.2.1 24 = .ok (.ireturn, 1) := by decide +kernel
theorem bX10_fault_0 {E : px_E} {d : Nat} {w : pw_W} {Q : Option Value → pw_W → Prop} {t : ct_T} (hw : w.1 = cs t) {x1 : Int32}  
    (k1 : ¬ x1 = 0 → ¬ x1 = 1 → px_W E mX10_fault (d + 1) 0 0 24 [.null, .null] [.int (-1)] w Q)
    (k2 : ¬ x1 = 0 → x1 = 1 → px_W E mX10_fault (d + 1) 0 0 24 [.null, .null] [.int (pw_I w 61 3)] w Q)
    (k3 : x1 = 0 → px_W E mX10_fault (d + 1) 0 0 24 [.null, .null] [.int (pw_I w 61 2)] w Q) :
    px_W E mX10_fault (d + 1) 0 0 0 [.ref 61, .int x1] [] w Q := by
  refine px_iload_n dX10_fault_0 rfl rfl ?_
  refine px_if_ne (tgt := 11) dX10_fault_1 (by decide) (fun h1 => ?_) (fun h1 => ?_)
  ·
    refine px_iload_n dX10_fault_11 rfl rfl ?_
    refine px_iconst dX10_fault_12 ic_1 ?_
    refine px_icmp_ne (tgt := 23) dX10_fault_13 (by decide) (fun h2 => ?_) (fun h2 => ?_)
    ·
      refine px_iconst dX10_fault_23 ic_m1 ?_
      exact px_forget (k1 h1 h2) ⟨Or.inl rfl, Or.inl rfl, trivial⟩
    ·
      refine px_aload_n dX10_fault_16 rfl rfl ?_
      refine px_getI dX10_fault_17 fr_10_13 rfl (px_sh1 hw sh_61) ?_
      refine px_goto (tgt := 24) dX10_fault_20 (by decide) ?_
      exact px_forget (k2 h1 h2) ⟨Or.inl rfl, Or.inl rfl, trivial⟩
  ·
    refine px_aload_n dX10_fault_4 rfl rfl ?_
    refine px_getI dX10_fault_5 fr_10_197 rfl (px_sh1 hw sh_61) ?_
    refine px_goto (tgt := 24) dX10_fault_8 (by decide) ?_
    exact px_forget (k3 h1) ⟨Or.inl rfl, Or.inl rfl, trivial⟩
theorem eX10_fault {E : px_E} {d : Nat} {w : pw_W} {Q : Option Value → pw_W → Prop} {t : ct_T} (hw : w.1 = cs t) {x1 : Int32}  
    (k1 : ¬ x1 = 0 → ¬ x1 = 1 → px_W E mX10_fault (d + 1) 0 0 24 [.null, .null] [.int (-1)] w Q)
    (k2 : ¬ x1 = 0 → x1 = 1 → px_W E mX10_fault (d + 1) 0 0 24 [.null, .null] [.int (pw_I w 61 3)] w Q)
    (k3 : x1 = 0 → px_W E mX10_fault (d + 1) 0 0 24 [.null, .null] [.int (pw_I w 61 2)] w Q) :
    px_Call E (d + 1) 0 0 mX10_fault [.ref 61, .int x1] w Q :=
  px_enter (k := 0) (by decide) (Nat.le_of_ble_eq_true rfl) rfl (px_forget (bX10_fault_0 hw k1 k2 k3) ⟨Or.inr rfl, Or.inr rfl, trivial⟩)
theorem bX10_fault_24 {E : px_E} {d : Nat} {w : pw_W} {Q : Option Value → pw_W → Prop} {y0 : Int32}  
    (k1 : Q (some (.int y0)) w) :
    px_W E mX10_fault (d + 1) 0 0 24 [.null, .null] [.int y0] w Q := by
  exact px_ireturn dX10_fault_24 rfl rfl k1
theorem dX10_done_0 : decode mX10_done.2.1 0 = .ok (.iload_n 0, 1) := by decide +kernel
theorem dX10_done_1 : decode mX10_done.2.1 1 = .ok (.tableswitch 214 37 62 #[143, 197, 214, 214, 214, 127, 119, 214, 123, 214, 131, 214, 214, 214, 214, 214, 214, 214, 214, 214, 214, 214, 214, 155, 183, 169], 119) := by decide +kernel
theorem dX10_done_120 : decode mX10_done.2.1 120 = .ok (.iload_n 1, 1) := by decide +kernel
theorem dX10_done_121 : decode mX10_done.2.1 121 = .ok (.iload_n 2, 1) := by decide +kernel
theorem dX10_done_122 : decode mX10_done.2.1 122 = .ok (.iadd, 1) := by decide +kernel
theorem dX10_done_123 : decode mX10_done.2.1 123 = .ok (.ireturn, 1) := by decide +kernel
theorem dX10_done_124 : decode mX10_done.2.1 124 = .ok (.iload_n 1, 1) := by decide +kernel
theorem dX10_done_125 : decode mX10_done.2.1 125 = .ok (.iload_n 2, 1) := by decide +kernel
theorem dX10_done_126 : decode mX10_done.2.1 126 = .ok (.isub, 1) := by decide +kernel
theorem dX10_done_127 : decode mX10_done.2.1 127 = .ok (.ireturn, 1) := by decide +kernel
theorem dX10_done_128 : decode mX10_done.2.1 128 = .ok (.iload_n 1, 1) := by decide +kernel
theorem dX10_done_129 : decode mX10_done.2.1 129 = .ok (.iload_n 2, 1) := by decide +kernel
theorem dX10_done_130 : decode mX10_done.2.1 130 = .ok (.imul, 1) := by decide +kernel
theorem dX10_done_131 : decode mX10_done.2.1 131 = .ok (.ireturn, 1) := by decide +kernel
theorem dX10_done_132 : decode mX10_done.2.1 132 = .ok (.iload_n 2, 1) := by decide +kernel
theorem dX10_done_133 : decode mX10_done.2.1 133 = .ok (.ifCond .ne 7, 3) := by decide +kernel
theorem dX10_done_136 : decode mX10_done.2.1 136 = .ok (.iconst 0, 1) := by decide +kernel
theorem dX10_done_137 : decode mX10_done.2.1 137 = .ok (.goto 6, 3) := by decide +kernel
theorem dX10_done_140 : decode mX10_done.2.1 140 = .ok (.iload_n 1, 1) := by decide +kernel
theorem dX10_done_141 : decode mX10_done.2.1 141 = .ok (.iload_n 2, 1) := by decide +kernel
theorem dX10_done_142 : decode mX10_done.2.1 142 = .ok (.idiv, 1) := by decide +kernel
theorem dX10_done_143 : decode mX10_done.2.1 143 = .ok (.ireturn, 1) := by decide +kernel
theorem dX10_done_144 : decode mX10_done.2.1 144 = .ok (.iload_n 2, 1) := by decide +kernel
theorem dX10_done_145 : decode mX10_done.2.1 145 = .ok (.ifCond .ne 7, 3) := by decide +kernel
theorem dX10_done_148 : decode mX10_done.2.1 148 = .ok (.iconst 0, 1) := by decide +kernel
theorem dX10_done_149 : decode mX10_done.2.1 149 = .ok (.goto 6, 3) := by decide +kernel
theorem dX10_done_152 : decode mX10_done.2.1 152 = .ok (.iload_n 1, 1) := by decide +kernel
theorem dX10_done_153 : decode mX10_done.2.1 153 = .ok (.iload_n 2, 1) := by decide +kernel
theorem dX10_done_154 : decode mX10_done.2.1 154 = .ok (.irem, 1) := by decide +kernel
theorem dX10_done_155 : decode mX10_done.2.1 155 = .ok (.ireturn, 1) := by decide +kernel
theorem dX10_done_156 : decode mX10_done.2.1 156 = .ok (.iload_n 1, 1) := by decide +kernel
theorem dX10_done_157 : decode mX10_done.2.1 157 = .ok (.iload_n 2, 1) := by decide +kernel
theorem dX10_done_158 : decode mX10_done.2.1 158 = .ok (.if_icmp .ge 7, 3) := by decide +kernel
theorem dX10_done_161 : decode mX10_done.2.1 161 = .ok (.iconst 1, 1) := by decide +kernel
theorem dX10_done_162 : decode mX10_done.2.1 162 = .ok (.goto 4, 3) := by decide +kernel
theorem dX10_done_165 : decode mX10_done.2.1 165 = .ok (.iconst 0, 1) := by decide +kernel
theorem dX10_done_166 : decode mX10_done.2.1 166 = .ok (.invokestatic 332, 3) := by decide +kernel
theorem dX10_done_169 : decode mX10_done.2.1 169 = .ok (.ireturn, 1) := by decide +kernel
theorem dX10_done_170 : decode mX10_done.2.1 170 = .ok (.iload_n 1, 1) := by decide +kernel
theorem dX10_done_171 : decode mX10_done.2.1 171 = .ok (.iload_n 2, 1) := by decide +kernel
theorem dX10_done_172 : decode mX10_done.2.1 172 = .ok (.if_icmp .le 7, 3) := by decide +kernel
theorem dX10_done_175 : decode mX10_done.2.1 175 = .ok (.iconst 1, 1) := by decide +kernel
theorem dX10_done_176 : decode mX10_done.2.1 176 = .ok (.goto 4, 3) := by decide +kernel
theorem dX10_done_179 : decode mX10_done.2.1 179 = .ok (.iconst 0, 1) := by decide +kernel
theorem dX10_done_180 : decode mX10_done.2.1 180 = .ok (.invokestatic 332, 3) := by decide +kernel
theorem dX10_done_183 : decode mX10_done.2.1 183 = .ok (.ireturn, 1) := by decide +kernel
theorem dX10_done_184 : decode mX10_done.2.1 184 = .ok (.iload_n 1, 1) := by decide +kernel
theorem dX10_done_185 : decode mX10_done.2.1 185 = .ok (.iload_n 2, 1) := by decide +kernel
theorem dX10_done_186 : decode mX10_done.2.1 186 = .ok (.if_icmp .ne 7, 3) := by decide +kernel
theorem dX10_done_189 : decode mX10_done.2.1 189 = .ok (.iconst 1, 1) := by decide +kernel
theorem dX10_done_190 : decode mX10_done.2.1 190 = .ok (.goto 4, 3) := by decide +kernel
theorem dX10_done_193 : decode mX10_done.2.1 193 = .ok (.iconst 0, 1) := by decide +kernel
theorem dX10_done_194 : decode mX10_done.2.1 194 = .ok (.invokestatic 332, 3) := by decide +kernel
theorem dX10_done_197 : decode mX10_done.2.1 197 = .ok (.ireturn, 1) := by decide +kernel
theorem dX10_done_198 : decode mX10_done.2.1 198 = .ok (.iload_n 1, 1) := by decide +kernel
theorem dX10_done_199 : decode mX10_done.2.1 199 = .ok (.ifCond .eq 11, 3) := by decide +kernel
theorem dX10_done_202 : decode mX10_done.2.1 202 = .ok (.iload_n 2, 1) := by decide +kernel
theorem dX10_done_203 : decode mX10_done.2.1 203 = .ok (.ifCond .eq 7, 3) := by decide +kernel
theorem dX10_done_206 : decode mX10_done.2.1 206 = .ok (.iconst 1, 1) := by decide +kernel
theorem dX10_done_207 : decode mX10_done.2.1 207 = .ok (.goto 4, 3) := by decide +kernel
theorem dX10_done_210 : decode mX10_done.2.1 210 = .ok (.iconst 0, 1) := by decide +kernel
theorem dX10_done_211 : decode mX10_done.2.1 211 = .ok (.invokestatic 332, 3) := by decide +kernel
theorem dX10_done_214 : decode mX10_done.2.1 214 = .ok (.ireturn, 1) := by decide +kernel
theorem dX10_done_215 : decode mX10_done.2.1 215 = .ok (.iload_n 1, 1) := by decide +kernel
theorem dX10_done_216 : decode mX10_done.2.1 216 = .ok (.ifCond .ne 7, 3) := by decide +kernel
theorem dX10_done_219 : decode mX10_done.2.1 219 = .ok (.iload_n 2, 1) := by decide +kernel
theorem dX10_done_220 : decode mX10_done.2.1 220 = .ok (.ifCond .eq 7, 3) := by decide +kernel
theorem dX10_done_223 : decode mX10_done.2.1 223 = .ok (.iconst 1, 1) := by decide +kernel
theorem dX10_done_224 : decode mX10_done.2.1 224 = .ok (.goto 4, 3) := by decide +kernel
theorem dX10_done_227 : decode mX10_done.2.1 227 = .ok (.iconst 0, 1) := by decide +kernel
theorem dX10_done_228 : decode mX10_done.2.1 228 = .ok (.invokestatic 332, 3) := by decide +kernel
theorem dX10_done_231 : decode mX10_done.2.1 231 = .ok (.ireturn, 1) := by decide +kernel
theorem bX10_done_0 {E : px_E} {d : Nat} {w : pw_W} {Q : Option Value → pw_W → Prop} {x0 x1 x2 : Int32}  
    (k1 : x0 = 37 → ¬ x2 = 0 → px_W E mX10_done (d + 1) 0 0 152 [.null, .int x1, .int x2] [] w Q)
    (k2 : x0 = 37 → x2 = 0 → px_W E mX10_done (d + 1) 0 0 155 [.null, .null, .null] [.int 0] w Q)
    (k3 : ¬ x0 = 37 → x0 = 38 → x1 = 0 → px_W E mX10_done (d + 1) 0 0 210 [.null, .null, .null] [] w Q)
    (k4 : ¬ x0 = 37 → x0 = 38 → ¬ x1 = 0 → x2 = 0 → px_W E mX10_done (d + 1) 0 0 210 [.null, .null, .null] [] w Q)
    (k5 : ¬ x0 = 37 → x0 = 38 → ¬ x1 = 0 → ¬ x2 = 0 → px_W E mX10_done (d + 1) 0 0 211 [.null, .null, .null] [.int 1] w Q)
    (k6 : ¬ x0 = 37 → ¬ x0 = 38 → x0 = 39 → ¬ x1 = 0 → px_W E mX10_done (d + 1) 0 0 223 [.null, .null, .null] [] w Q)
    (k7 : ¬ x0 = 37 → ¬ x0 = 38 → x0 = 39 → x1 = 0 → x2 = 0 → px_W E mX10_done (d + 1) 0 0 228 [.null, .null, .null] [.int 0] w Q)
    (k8 : ¬ x0 = 37 → ¬ x0 = 38 → x0 = 39 → x1 = 0 → ¬ x2 = 0 → px_W E mX10_done (d + 1) 0 0 223 [.null, .null, .null] [] w Q)
    (k9 : ¬ x0 = 37 → ¬ x0 = 38 → ¬ x0 = 39 → x0 = 40 → ¬ x1 = 0 → px_W E mX10_done (d + 1) 0 0 223 [.null, .null, .null] [] w Q)
    (k10 : ¬ x0 = 37 → ¬ x0 = 38 → ¬ x0 = 39 → x0 = 40 → x1 = 0 → x2 = 0 → px_W E mX10_done (d + 1) 0 0 228 [.null, .null, .null] [.int 0] w Q)
    (k11 : ¬ x0 = 37 → ¬ x0 = 38 → ¬ x0 = 39 → x0 = 40 → x1 = 0 → ¬ x2 = 0 → px_W E mX10_done (d + 1) 0 0 223 [.null, .null, .null] [] w Q)
    (k12 : ¬ x0 = 37 → ¬ x0 = 38 → ¬ x0 = 39 → ¬ x0 = 40 → x0 = 41 → ¬ x1 = 0 → px_W E mX10_done (d + 1) 0 0 223 [.null, .null, .null] [] w Q)
    (k13 : ¬ x0 = 37 → ¬ x0 = 38 → ¬ x0 = 39 → ¬ x0 = 40 → x0 = 41 → x1 = 0 → x2 = 0 → px_W E mX10_done (d + 1) 0 0 228 [.null, .null, .null] [.int 0] w Q)
    (k14 : ¬ x0 = 37 → ¬ x0 = 38 → ¬ x0 = 39 → ¬ x0 = 40 → x0 = 41 → x1 = 0 → ¬ x2 = 0 → px_W E mX10_done (d + 1) 0 0 223 [.null, .null, .null] [] w Q)
    (k15 : ¬ x0 = 37 → ¬ x0 = 38 → ¬ x0 = 39 → ¬ x0 = 40 → ¬ x0 = 41 → x0 = 42 → Q (some (.int (x1 * x2))) w)
    (k16 : ¬ x0 = 37 → ¬ x0 = 38 → ¬ x0 = 39 → ¬ x0 = 40 → ¬ x0 = 41 → ¬ x0 = 42 → x0 = 43 → Q (some (.int (x1 + x2))) w)
    (k17 : ¬ x0 = 37 → ¬ x0 = 38 → ¬ x0 = 39 → ¬ x0 = 40 → ¬ x0 = 41 → ¬ x0 = 42 → ¬ x0 = 43 → x0 = 44 → ¬ x1 = 0 → px_W E mX10_done (d + 1) 0 0 223 [.null, .null, .null] [] w Q)
    (k18 : ¬ x0 = 37 → ¬ x0 = 38 → ¬ x0 = 39 → ¬ x0 = 40 → ¬ x0 = 41 → ¬ x0 = 42 → ¬ x0 = 43 → x0 = 44 → x1 = 0 → x2 = 0 → px_W E mX10_done (d + 1) 0 0 228 [.null, .null, .null] [.int 0] w Q)
    (k19 : ¬ x0 = 37 → ¬ x0 = 38 → ¬ x0 = 39 → ¬ x0 = 40 → ¬ x0 = 41 → ¬ x0 = 42 → ¬ x0 = 43 → x0 = 44 → x1 = 0 → ¬ x2 = 0 → px_W E mX10_done (d + 1) 0 0 223 [.null, .null, .null] [] w Q)
    (k20 : ¬ x0 = 37 → ¬ x0 = 38 → ¬ x0 = 39 → ¬ x0 = 40 → ¬ x0 = 41 → ¬ x0 = 42 → ¬ x0 = 43 → ¬ x0 = 44 → x0 = 45 → Q (some (.int (x1 - x2))) w)
    (k21 : ¬ x0 = 37 → ¬ x0 = 38 → ¬ x0 = 39 → ¬ x0 = 40 → ¬ x0 = 41 → ¬ x0 = 42 → ¬ x0 = 43 → ¬ x0 = 44 → ¬ x0 = 45 → x0 = 46 → ¬ x1 = 0 → px_W E mX10_done (d + 1) 0 0 223 [.null, .null, .null] [] w Q)
    (k22 : ¬ x0 = 37 → ¬ x0 = 38 → ¬ x0 = 39 → ¬ x0 = 40 → ¬ x0 = 41 → ¬ x0 = 42 → ¬ x0 = 43 → ¬ x0 = 44 → ¬ x0 = 45 → x0 = 46 → x1 = 0 → x2 = 0 → px_W E mX10_done (d + 1) 0 0 228 [.null, .null, .null] [.int 0] w Q)
    (k23 : ¬ x0 = 37 → ¬ x0 = 38 → ¬ x0 = 39 → ¬ x0 = 40 → ¬ x0 = 41 → ¬ x0 = 42 → ¬ x0 = 43 → ¬ x0 = 44 → ¬ x0 = 45 → x0 = 46 → x1 = 0 → ¬ x2 = 0 → px_W E mX10_done (d + 1) 0 0 223 [.null, .null, .null] [] w Q)
    (k24 : ¬ x0 = 37 → ¬ x0 = 38 → ¬ x0 = 39 → ¬ x0 = 40 → ¬ x0 = 41 → ¬ x0 = 42 → ¬ x0 = 43 → ¬ x0 = 44 → ¬ x0 = 45 → ¬ x0 = 46 → x0 = 47 → ¬ x2 = 0 → px_W E mX10_done (d + 1) 0 0 140 [.null, .int x1, .int x2] [] w Q)
    (k25 : ¬ x0 = 37 → ¬ x0 = 38 → ¬ x0 = 39 → ¬ x0 = 40 → ¬ x0 = 41 → ¬ x0 = 42 → ¬ x0 = 43 → ¬ x0 = 44 → ¬ x0 = 45 → ¬ x0 = 46 → x0 = 47 → x2 = 0 → px_W E mX10_done (d + 1) 0 0 143 [.null, .null, .null] [.int 0] w Q)
    (k26 : ¬ x0 = 37 → ¬ x0 = 38 → ¬ x0 = 39 → ¬ x0 = 40 → ¬ x0 = 41 → ¬ x0 = 42 → ¬ x0 = 43 → ¬ x0 = 44 → ¬ x0 = 45 → ¬ x0 = 46 → ¬ x0 = 47 → x0 = 48 → ¬ x1 = 0 → px_W E mX10_done (d + 1) 0 0 223 [.null, .null, .null] [] w Q)
    (k27 : ¬ x0 = 37 → ¬ x0 = 38 → ¬ x0 = 39 → ¬ x0 = 40 → ¬ x0 = 41 → ¬ x0 = 42 → ¬ x0 = 43 → ¬ x0 = 44 → ¬ x0 = 45 → ¬ x0 = 46 → ¬ x0 = 47 → x0 = 48 → x1 = 0 → x2 = 0 → px_W E mX10_done (d + 1) 0 0 228 [.null, .null, .null] [.int 0] w Q)
    (k28 : ¬ x0 = 37 → ¬ x0 = 38 → ¬ x0 = 39 → ¬ x0 = 40 → ¬ x0 = 41 → ¬ x0 = 42 → ¬ x0 = 43 → ¬ x0 = 44 → ¬ x0 = 45 → ¬ x0 = 46 → ¬ x0 = 47 → x0 = 48 → x1 = 0 → ¬ x2 = 0 → px_W E mX10_done (d + 1) 0 0 223 [.null, .null, .null] [] w Q)
    (k29 : ¬ x0 = 37 → ¬ x0 = 38 → ¬ x0 = 39 → ¬ x0 = 40 → ¬ x0 = 41 → ¬ x0 = 42 → ¬ x0 = 43 → ¬ x0 = 44 → ¬ x0 = 45 → ¬ x0 = 46 → ¬ x0 = 47 → ¬ x0 = 48 → x0 = 49 → ¬ x1 = 0 → px_W E mX10_done (d + 1) 0 0 223 [.null, .null, .null] [] w Q)
    (k30 : ¬ x0 = 37 → ¬ x0 = 38 → ¬ x0 = 39 → ¬ x0 = 40 → ¬ x0 = 41 → ¬ x0 = 42 → ¬ x0 = 43 → ¬ x0 = 44 → ¬ x0 = 45 → ¬ x0 = 46 → ¬ x0 = 47 → ¬ x0 = 48 → x0 = 49 → x1 = 0 → x2 = 0 → px_W E mX10_done (d + 1) 0 0 228 [.null, .null, .null] [.int 0] w Q)
    (k31 : ¬ x0 = 37 → ¬ x0 = 38 → ¬ x0 = 39 → ¬ x0 = 40 → ¬ x0 = 41 → ¬ x0 = 42 → ¬ x0 = 43 → ¬ x0 = 44 → ¬ x0 = 45 → ¬ x0 = 46 → ¬ x0 = 47 → ¬ x0 = 48 → x0 = 49 → x1 = 0 → ¬ x2 = 0 → px_W E mX10_done (d + 1) 0 0 223 [.null, .null, .null] [] w Q)
    (k32 : ¬ x0 = 37 → ¬ x0 = 38 → ¬ x0 = 39 → ¬ x0 = 40 → ¬ x0 = 41 → ¬ x0 = 42 → ¬ x0 = 43 → ¬ x0 = 44 → ¬ x0 = 45 → ¬ x0 = 46 → ¬ x0 = 47 → ¬ x0 = 48 → ¬ x0 = 49 → x0 = 50 → ¬ x1 = 0 → px_W E mX10_done (d + 1) 0 0 223 [.null, .null, .null] [] w Q)
    (k33 : ¬ x0 = 37 → ¬ x0 = 38 → ¬ x0 = 39 → ¬ x0 = 40 → ¬ x0 = 41 → ¬ x0 = 42 → ¬ x0 = 43 → ¬ x0 = 44 → ¬ x0 = 45 → ¬ x0 = 46 → ¬ x0 = 47 → ¬ x0 = 48 → ¬ x0 = 49 → x0 = 50 → x1 = 0 → x2 = 0 → px_W E mX10_done (d + 1) 0 0 228 [.null, .null, .null] [.int 0] w Q)
    (k34 : ¬ x0 = 37 → ¬ x0 = 38 → ¬ x0 = 39 → ¬ x0 = 40 → ¬ x0 = 41 → ¬ x0 = 42 → ¬ x0 = 43 → ¬ x0 = 44 → ¬ x0 = 45 → ¬ x0 = 46 → ¬ x0 = 47 → ¬ x0 = 48 → ¬ x0 = 49 → x0 = 50 → x1 = 0 → ¬ x2 = 0 → px_W E mX10_done (d + 1) 0 0 223 [.null, .null, .null] [] w Q)
    (k35 : ¬ x0 = 37 → ¬ x0 = 38 → ¬ x0 = 39 → ¬ x0 = 40 → ¬ x0 = 41 → ¬ x0 = 42 → ¬ x0 = 43 → ¬ x0 = 44 → ¬ x0 = 45 → ¬ x0 = 46 → ¬ x0 = 47 → ¬ x0 = 48 → ¬ x0 = 49 → ¬ x0 = 50 → x0 = 51 → ¬ x1 = 0 → px_W E mX10_done (d + 1) 0 0 223 [.null, .null, .null] [] w Q)
    (k36 : ¬ x0 = 37 → ¬ x0 = 38 → ¬ x0 = 39 → ¬ x0 = 40 → ¬ x0 = 41 → ¬ x0 = 42 → ¬ x0 = 43 → ¬ x0 = 44 → ¬ x0 = 45 → ¬ x0 = 46 → ¬ x0 = 47 → ¬ x0 = 48 → ¬ x0 = 49 → ¬ x0 = 50 → x0 = 51 → x1 = 0 → x2 = 0 → px_W E mX10_done (d + 1) 0 0 228 [.null, .null, .null] [.int 0] w Q)
    (k37 : ¬ x0 = 37 → ¬ x0 = 38 → ¬ x0 = 39 → ¬ x0 = 40 → ¬ x0 = 41 → ¬ x0 = 42 → ¬ x0 = 43 → ¬ x0 = 44 → ¬ x0 = 45 → ¬ x0 = 46 → ¬ x0 = 47 → ¬ x0 = 48 → ¬ x0 = 49 → ¬ x0 = 50 → x0 = 51 → x1 = 0 → ¬ x2 = 0 → px_W E mX10_done (d + 1) 0 0 223 [.null, .null, .null] [] w Q)
    (k38 : ¬ x0 = 37 → ¬ x0 = 38 → ¬ x0 = 39 → ¬ x0 = 40 → ¬ x0 = 41 → ¬ x0 = 42 → ¬ x0 = 43 → ¬ x0 = 44 → ¬ x0 = 45 → ¬ x0 = 46 → ¬ x0 = 47 → ¬ x0 = 48 → ¬ x0 = 49 → ¬ x0 = 50 → ¬ x0 = 51 → x0 = 52 → ¬ x1 = 0 → px_W E mX10_done (d + 1) 0 0 223 [.null, .null, .null] [] w Q)
    (k39 : ¬ x0 = 37 → ¬ x0 = 38 → ¬ x0 = 39 → ¬ x0 = 40 → ¬ x0 = 41 → ¬ x0 = 42 → ¬ x0 = 43 → ¬ x0 = 44 → ¬ x0 = 45 → ¬ x0 = 46 → ¬ x0 = 47 → ¬ x0 = 48 → ¬ x0 = 49 → ¬ x0 = 50 → ¬ x0 = 51 → x0 = 52 → x1 = 0 → x2 = 0 → px_W E mX10_done (d + 1) 0 0 228 [.null, .null, .null] [.int 0] w Q)
    (k40 : ¬ x0 = 37 → ¬ x0 = 38 → ¬ x0 = 39 → ¬ x0 = 40 → ¬ x0 = 41 → ¬ x0 = 42 → ¬ x0 = 43 → ¬ x0 = 44 → ¬ x0 = 45 → ¬ x0 = 46 → ¬ x0 = 47 → ¬ x0 = 48 → ¬ x0 = 49 → ¬ x0 = 50 → ¬ x0 = 51 → x0 = 52 → x1 = 0 → ¬ x2 = 0 → px_W E mX10_done (d + 1) 0 0 223 [.null, .null, .null] [] w Q)
    (k41 : ¬ x0 = 37 → ¬ x0 = 38 → ¬ x0 = 39 → ¬ x0 = 40 → ¬ x0 = 41 → ¬ x0 = 42 → ¬ x0 = 43 → ¬ x0 = 44 → ¬ x0 = 45 → ¬ x0 = 46 → ¬ x0 = 47 → ¬ x0 = 48 → ¬ x0 = 49 → ¬ x0 = 50 → ¬ x0 = 51 → ¬ x0 = 52 → x0 = 53 → ¬ x1 = 0 → px_W E mX10_done (d + 1) 0 0 223 [.null, .null, .null] [] w Q)
    (k42 : ¬ x0 = 37 → ¬ x0 = 38 → ¬ x0 = 39 → ¬ x0 = 40 → ¬ x0 = 41 → ¬ x0 = 42 → ¬ x0 = 43 → ¬ x0 = 44 → ¬ x0 = 45 → ¬ x0 = 46 → ¬ x0 = 47 → ¬ x0 = 48 → ¬ x0 = 49 → ¬ x0 = 50 → ¬ x0 = 51 → ¬ x0 = 52 → x0 = 53 → x1 = 0 → x2 = 0 → px_W E mX10_done (d + 1) 0 0 228 [.null, .null, .null] [.int 0] w Q)
    (k43 : ¬ x0 = 37 → ¬ x0 = 38 → ¬ x0 = 39 → ¬ x0 = 40 → ¬ x0 = 41 → ¬ x0 = 42 → ¬ x0 = 43 → ¬ x0 = 44 → ¬ x0 = 45 → ¬ x0 = 46 → ¬ x0 = 47 → ¬ x0 = 48 → ¬ x0 = 49 → ¬ x0 = 50 → ¬ x0 = 51 → ¬ x0 = 52 → x0 = 53 → x1 = 0 → ¬ x2 = 0 → px_W E mX10_done (d + 1) 0 0 223 [.null, .null, .null] [] w Q)
    (k44 : ¬ x0 = 37 → ¬ x0 = 38 → ¬ x0 = 39 → ¬ x0 = 40 → ¬ x0 = 41 → ¬ x0 = 42 → ¬ x0 = 43 → ¬ x0 = 44 → ¬ x0 = 45 → ¬ x0 = 46 → ¬ x0 = 47 → ¬ x0 = 48 → ¬ x0 = 49 → ¬ x0 = 50 → ¬ x0 = 51 → ¬ x0 = 52 → ¬ x0 = 53 → x0 = 54 → ¬ x1 = 0 → px_W E mX10_done (d + 1) 0 0 223 [.null, .null, .null] [] w Q)
    (k45 : ¬ x0 = 37 → ¬ x0 = 38 → ¬ x0 = 39 → ¬ x0 = 40 → ¬ x0 = 41 → ¬ x0 = 42 → ¬ x0 = 43 → ¬ x0 = 44 → ¬ x0 = 45 → ¬ x0 = 46 → ¬ x0 = 47 → ¬ x0 = 48 → ¬ x0 = 49 → ¬ x0 = 50 → ¬ x0 = 51 → ¬ x0 = 52 → ¬ x0 = 53 → x0 = 54 → x1 = 0 → x2 = 0 → px_W E mX10_done (d + 1) 0 0 228 [.null, .null, .null] [.int 0] w Q)
    (k46 : ¬ x0 = 37 → ¬ x0 = 38 → ¬ x0 = 39 → ¬ x0 = 40 → ¬ x0 = 41 → ¬ x0 = 42 → ¬ x0 = 43 → ¬ x0 = 44 → ¬ x0 = 45 → ¬ x0 = 46 → ¬ x0 = 47 → ¬ x0 = 48 → ¬ x0 = 49 → ¬ x0 = 50 → ¬ x0 = 51 → ¬ x0 = 52 → ¬ x0 = 53 → x0 = 54 → x1 = 0 → ¬ x2 = 0 → px_W E mX10_done (d + 1) 0 0 223 [.null, .null, .null] [] w Q)
    (k47 : ¬ x0 = 37 → ¬ x0 = 38 → ¬ x0 = 39 → ¬ x0 = 40 → ¬ x0 = 41 → ¬ x0 = 42 → ¬ x0 = 43 → ¬ x0 = 44 → ¬ x0 = 45 → ¬ x0 = 46 → ¬ x0 = 47 → ¬ x0 = 48 → ¬ x0 = 49 → ¬ x0 = 50 → ¬ x0 = 51 → ¬ x0 = 52 → ¬ x0 = 53 → ¬ x0 = 54 → x0 = 55 → ¬ x1 = 0 → px_W E mX10_done (d + 1) 0 0 223 [.null, .null, .null] [] w Q)
    (k48 : ¬ x0 = 37 → ¬ x0 = 38 → ¬ x0 = 39 → ¬ x0 = 40 → ¬ x0 = 41 → ¬ x0 = 42 → ¬ x0 = 43 → ¬ x0 = 44 → ¬ x0 = 45 → ¬ x0 = 46 → ¬ x0 = 47 → ¬ x0 = 48 → ¬ x0 = 49 → ¬ x0 = 50 → ¬ x0 = 51 → ¬ x0 = 52 → ¬ x0 = 53 → ¬ x0 = 54 → x0 = 55 → x1 = 0 → x2 = 0 → px_W E mX10_done (d + 1) 0 0 228 [.null, .null, .null] [.int 0] w Q)
    (k49 : ¬ x0 = 37 → ¬ x0 = 38 → ¬ x0 = 39 → ¬ x0 = 40 → ¬ x0 = 41 → ¬ x0 = 42 → ¬ x0 = 43 → ¬ x0 = 44 → ¬ x0 = 45 → ¬ x0 = 46 → ¬ x0 = 47 → ¬ x0 = 48 → ¬ x0 = 49 → ¬ x0 = 50 → ¬ x0 = 51 → ¬ x0 = 52 → ¬ x0 = 53 → ¬ x0 = 54 → x0 = 55 → x1 = 0 → ¬ x2 = 0 → px_W E mX10_done (d + 1) 0 0 223 [.null, .null, .null] [] w Q)
    (k50 : ¬ x0 = 37 → ¬ x0 = 38 → ¬ x0 = 39 → ¬ x0 = 40 → ¬ x0 = 41 → ¬ x0 = 42 → ¬ x0 = 43 → ¬ x0 = 44 → ¬ x0 = 45 → ¬ x0 = 46 → ¬ x0 = 47 → ¬ x0 = 48 → ¬ x0 = 49 → ¬ x0 = 50 → ¬ x0 = 51 → ¬ x0 = 52 → ¬ x0 = 53 → ¬ x0 = 54 → ¬ x0 = 55 → x0 = 56 → ¬ x1 = 0 → px_W E mX10_done (d + 1) 0 0 223 [.null, .null, .null] [] w Q)
    (k51 : ¬ x0 = 37 → ¬ x0 = 38 → ¬ x0 = 39 → ¬ x0 = 40 → ¬ x0 = 41 → ¬ x0 = 42 → ¬ x0 = 43 → ¬ x0 = 44 → ¬ x0 = 45 → ¬ x0 = 46 → ¬ x0 = 47 → ¬ x0 = 48 → ¬ x0 = 49 → ¬ x0 = 50 → ¬ x0 = 51 → ¬ x0 = 52 → ¬ x0 = 53 → ¬ x0 = 54 → ¬ x0 = 55 → x0 = 56 → x1 = 0 → x2 = 0 → px_W E mX10_done (d + 1) 0 0 228 [.null, .null, .null] [.int 0] w Q)
    (k52 : ¬ x0 = 37 → ¬ x0 = 38 → ¬ x0 = 39 → ¬ x0 = 40 → ¬ x0 = 41 → ¬ x0 = 42 → ¬ x0 = 43 → ¬ x0 = 44 → ¬ x0 = 45 → ¬ x0 = 46 → ¬ x0 = 47 → ¬ x0 = 48 → ¬ x0 = 49 → ¬ x0 = 50 → ¬ x0 = 51 → ¬ x0 = 52 → ¬ x0 = 53 → ¬ x0 = 54 → ¬ x0 = 55 → x0 = 56 → x1 = 0 → ¬ x2 = 0 → px_W E mX10_done (d + 1) 0 0 223 [.null, .null, .null] [] w Q)
    (k53 : ¬ x0 = 37 → ¬ x0 = 38 → ¬ x0 = 39 → ¬ x0 = 40 → ¬ x0 = 41 → ¬ x0 = 42 → ¬ x0 = 43 → ¬ x0 = 44 → ¬ x0 = 45 → ¬ x0 = 46 → ¬ x0 = 47 → ¬ x0 = 48 → ¬ x0 = 49 → ¬ x0 = 50 → ¬ x0 = 51 → ¬ x0 = 52 → ¬ x0 = 53 → ¬ x0 = 54 → ¬ x0 = 55 → ¬ x0 = 56 → x0 = 57 → ¬ x1 = 0 → px_W E mX10_done (d + 1) 0 0 223 [.null, .null, .null] [] w Q)
    (k54 : ¬ x0 = 37 → ¬ x0 = 38 → ¬ x0 = 39 → ¬ x0 = 40 → ¬ x0 = 41 → ¬ x0 = 42 → ¬ x0 = 43 → ¬ x0 = 44 → ¬ x0 = 45 → ¬ x0 = 46 → ¬ x0 = 47 → ¬ x0 = 48 → ¬ x0 = 49 → ¬ x0 = 50 → ¬ x0 = 51 → ¬ x0 = 52 → ¬ x0 = 53 → ¬ x0 = 54 → ¬ x0 = 55 → ¬ x0 = 56 → x0 = 57 → x1 = 0 → x2 = 0 → px_W E mX10_done (d + 1) 0 0 228 [.null, .null, .null] [.int 0] w Q)
    (k55 : ¬ x0 = 37 → ¬ x0 = 38 → ¬ x0 = 39 → ¬ x0 = 40 → ¬ x0 = 41 → ¬ x0 = 42 → ¬ x0 = 43 → ¬ x0 = 44 → ¬ x0 = 45 → ¬ x0 = 46 → ¬ x0 = 47 → ¬ x0 = 48 → ¬ x0 = 49 → ¬ x0 = 50 → ¬ x0 = 51 → ¬ x0 = 52 → ¬ x0 = 53 → ¬ x0 = 54 → ¬ x0 = 55 → ¬ x0 = 56 → x0 = 57 → x1 = 0 → ¬ x2 = 0 → px_W E mX10_done (d + 1) 0 0 223 [.null, .null, .null] [] w Q)
    (k56 : ¬ x0 = 37 → ¬ x0 = 38 → ¬ x0 = 39 → ¬ x0 = 40 → ¬ x0 = 41 → ¬ x0 = 42 → ¬ x0 = 43 → ¬ x0 = 44 → ¬ x0 = 45 → ¬ x0 = 46 → ¬ x0 = 47 → ¬ x0 = 48 → ¬ x0 = 49 → ¬ x0 = 50 → ¬ x0 = 51 → ¬ x0 = 52 → ¬ x0 = 53 → ¬ x0 = 54 → ¬ x0 = 55 → ¬ x0 = 56 → ¬ x0 = 57 → x0 = 58 → ¬ x1 = 0 → px_W E mX10_done (d + 1) 0 0 223 [.null, .null, .null] [] w Q)
    (k57 : ¬ x0 = 37 → ¬ x0 = 38 → ¬ x0 = 39 → ¬ x0 = 40 → ¬ x0 = 41 → ¬ x0 = 42 → ¬ x0 = 43 → ¬ x0 = 44 → ¬ x0 = 45 → ¬ x0 = 46 → ¬ x0 = 47 → ¬ x0 = 48 → ¬ x0 = 49 → ¬ x0 = 50 → ¬ x0 = 51 → ¬ x0 = 52 → ¬ x0 = 53 → ¬ x0 = 54 → ¬ x0 = 55 → ¬ x0 = 56 → ¬ x0 = 57 → x0 = 58 → x1 = 0 → x2 = 0 → px_W E mX10_done (d + 1) 0 0 228 [.null, .null, .null] [.int 0] w Q)
    (k58 : ¬ x0 = 37 → ¬ x0 = 38 → ¬ x0 = 39 → ¬ x0 = 40 → ¬ x0 = 41 → ¬ x0 = 42 → ¬ x0 = 43 → ¬ x0 = 44 → ¬ x0 = 45 → ¬ x0 = 46 → ¬ x0 = 47 → ¬ x0 = 48 → ¬ x0 = 49 → ¬ x0 = 50 → ¬ x0 = 51 → ¬ x0 = 52 → ¬ x0 = 53 → ¬ x0 = 54 → ¬ x0 = 55 → ¬ x0 = 56 → ¬ x0 = 57 → x0 = 58 → x1 = 0 → ¬ x2 = 0 → px_W E mX10_done (d + 1) 0 0 223 [.null, .null, .null] [] w Q)
    (k59 : ¬ x0 = 37 → ¬ x0 = 38 → ¬ x0 = 39 → ¬ x0 = 40 → ¬ x0 = 41 → ¬ x0 = 42 → ¬ x0 = 43 → ¬ x0 = 44 → ¬ x0 = 45 → ¬ x0 = 46 → ¬ x0 = 47 → ¬ x0 = 48 → ¬ x0 = 49 → ¬ x0 = 50 → ¬ x0 = 51 → ¬ x0 = 52 → ¬ x0 = 53 → ¬ x0 = 54 → ¬ x0 = 55 → ¬ x0 = 56 → ¬ x0 = 57 → ¬ x0 = 58 → x0 = 59 → ¬ x1 = 0 → px_W E mX10_done (d + 1) 0 0 223 [.null, .null, .null] [] w Q)
    (k60 : ¬ x0 = 37 → ¬ x0 = 38 → ¬ x0 = 39 → ¬ x0 = 40 → ¬ x0 = 41 → ¬ x0 = 42 → ¬ x0 = 43 → ¬ x0 = 44 → ¬ x0 = 45 → ¬ x0 = 46 → ¬ x0 = 47 → ¬ x0 = 48 → ¬ x0 = 49 → ¬ x0 = 50 → ¬ x0 = 51 → ¬ x0 = 52 → ¬ x0 = 53 → ¬ x0 = 54 → ¬ x0 = 55 → ¬ x0 = 56 → ¬ x0 = 57 → ¬ x0 = 58 → x0 = 59 → x1 = 0 → x2 = 0 → px_W E mX10_done (d + 1) 0 0 228 [.null, .null, .null] [.int 0] w Q)
    (k61 : ¬ x0 = 37 → ¬ x0 = 38 → ¬ x0 = 39 → ¬ x0 = 40 → ¬ x0 = 41 → ¬ x0 = 42 → ¬ x0 = 43 → ¬ x0 = 44 → ¬ x0 = 45 → ¬ x0 = 46 → ¬ x0 = 47 → ¬ x0 = 48 → ¬ x0 = 49 → ¬ x0 = 50 → ¬ x0 = 51 → ¬ x0 = 52 → ¬ x0 = 53 → ¬ x0 = 54 → ¬ x0 = 55 → ¬ x0 = 56 → ¬ x0 = 57 → ¬ x0 = 58 → x0 = 59 → x1 = 0 → ¬ x2 = 0 → px_W E mX10_done (d + 1) 0 0 223 [.null, .null, .null] [] w Q)
    (k62 : ¬ x0 = 37 → ¬ x0 = 38 → ¬ x0 = 39 → ¬ x0 = 40 → ¬ x0 = 41 → ¬ x0 = 42 → ¬ x0 = 43 → ¬ x0 = 44 → ¬ x0 = 45 → ¬ x0 = 46 → ¬ x0 = 47 → ¬ x0 = 48 → ¬ x0 = 49 → ¬ x0 = 50 → ¬ x0 = 51 → ¬ x0 = 52 → ¬ x0 = 53 → ¬ x0 = 54 → ¬ x0 = 55 → ¬ x0 = 56 → ¬ x0 = 57 → ¬ x0 = 58 → ¬ x0 = 59 → x0 = 60 → x2 ≤ x1 → px_W E mX10_done (d + 1) 0 0 166 [.null, .null, .null] [.int 0] w Q)
    (k63 : ¬ x0 = 37 → ¬ x0 = 38 → ¬ x0 = 39 → ¬ x0 = 40 → ¬ x0 = 41 → ¬ x0 = 42 → ¬ x0 = 43 → ¬ x0 = 44 → ¬ x0 = 45 → ¬ x0 = 46 → ¬ x0 = 47 → ¬ x0 = 48 → ¬ x0 = 49 → ¬ x0 = 50 → ¬ x0 = 51 → ¬ x0 = 52 → ¬ x0 = 53 → ¬ x0 = 54 → ¬ x0 = 55 → ¬ x0 = 56 → ¬ x0 = 57 → ¬ x0 = 58 → ¬ x0 = 59 → x0 = 60 → ¬ x2 ≤ x1 → px_W E mX10_done (d + 1) 0 0 166 [.null, .null, .null] [.int 1] w Q)
    (k64 : ¬ x0 = 37 → ¬ x0 = 38 → ¬ x0 = 39 → ¬ x0 = 40 → ¬ x0 = 41 → ¬ x0 = 42 → ¬ x0 = 43 → ¬ x0 = 44 → ¬ x0 = 45 → ¬ x0 = 46 → ¬ x0 = 47 → ¬ x0 = 48 → ¬ x0 = 49 → ¬ x0 = 50 → ¬ x0 = 51 → ¬ x0 = 52 → ¬ x0 = 53 → ¬ x0 = 54 → ¬ x0 = 55 → ¬ x0 = 56 → ¬ x0 = 57 → ¬ x0 = 58 → ¬ x0 = 59 → ¬ x0 = 60 → x0 = 61 → ¬ x1 = x2 → px_W E mX10_done (d + 1) 0 0 194 [.null, .null, .null] [.int 0] w Q)
    (k65 : ¬ x0 = 37 → ¬ x0 = 38 → ¬ x0 = 39 → ¬ x0 = 40 → ¬ x0 = 41 → ¬ x0 = 42 → ¬ x0 = 43 → ¬ x0 = 44 → ¬ x0 = 45 → ¬ x0 = 46 → ¬ x0 = 47 → ¬ x0 = 48 → ¬ x0 = 49 → ¬ x0 = 50 → ¬ x0 = 51 → ¬ x0 = 52 → ¬ x0 = 53 → ¬ x0 = 54 → ¬ x0 = 55 → ¬ x0 = 56 → ¬ x0 = 57 → ¬ x0 = 58 → ¬ x0 = 59 → ¬ x0 = 60 → x0 = 61 → x1 = x2 → px_W E mX10_done (d + 1) 0 0 194 [.null, .null, .null] [.int 1] w Q)
    (k66 : ¬ x0 = 37 → ¬ x0 = 38 → ¬ x0 = 39 → ¬ x0 = 40 → ¬ x0 = 41 → ¬ x0 = 42 → ¬ x0 = 43 → ¬ x0 = 44 → ¬ x0 = 45 → ¬ x0 = 46 → ¬ x0 = 47 → ¬ x0 = 48 → ¬ x0 = 49 → ¬ x0 = 50 → ¬ x0 = 51 → ¬ x0 = 52 → ¬ x0 = 53 → ¬ x0 = 54 → ¬ x0 = 55 → ¬ x0 = 56 → ¬ x0 = 57 → ¬ x0 = 58 → ¬ x0 = 59 → ¬ x0 = 60 → ¬ x0 = 61 → x0 = 62 → x1 ≤ x2 → px_W E mX10_done (d + 1) 0 0 180 [.null, .null, .null] [.int 0] w Q)
    (k67 : ¬ x0 = 37 → ¬ x0 = 38 → ¬ x0 = 39 → ¬ x0 = 40 → ¬ x0 = 41 → ¬ x0 = 42 → ¬ x0 = 43 → ¬ x0 = 44 → ¬ x0 = 45 → ¬ x0 = 46 → ¬ x0 = 47 → ¬ x0 = 48 → ¬ x0 = 49 → ¬ x0 = 50 → ¬ x0 = 51 → ¬ x0 = 52 → ¬ x0 = 53 → ¬ x0 = 54 → ¬ x0 = 55 → ¬ x0 = 56 → ¬ x0 = 57 → ¬ x0 = 58 → ¬ x0 = 59 → ¬ x0 = 60 → ¬ x0 = 61 → x0 = 62 → ¬ x1 ≤ x2 → px_W E mX10_done (d + 1) 0 0 180 [.null, .null, .null] [.int 1] w Q)
    (k68 : ¬ x0 = 37 → ¬ x0 = 38 → ¬ x0 = 39 → ¬ x0 = 40 → ¬ x0 = 41 → ¬ x0 = 42 → ¬ x0 = 43 → ¬ x0 = 44 → ¬ x0 = 45 → ¬ x0 = 46 → ¬ x0 = 47 → ¬ x0 = 48 → ¬ x0 = 49 → ¬ x0 = 50 → ¬ x0 = 51 → ¬ x0 = 52 → ¬ x0 = 53 → ¬ x0 = 54 → ¬ x0 = 55 → ¬ x0 = 56 → ¬ x0 = 57 → ¬ x0 = 58 → ¬ x0 = 59 → ¬ x0 = 60 → ¬ x0 = 61 → ¬ x0 = 62 → ¬ x1 = 0 → px_W E mX10_done (d + 1) 0 0 223 [.null, .null, .null] [] w Q)
    (k69 : ¬ x0 = 37 → ¬ x0 = 38 → ¬ x0 = 39 → ¬ x0 = 40 → ¬ x0 = 41 → ¬ x0 = 42 → ¬ x0 = 43 → ¬ x0 = 44 → ¬ x0 = 45 → ¬ x0 = 46 → ¬ x0 = 47 → ¬ x0 = 48 → ¬ x0 = 49 → ¬ x0 = 50 → ¬ x0 = 51 → ¬ x0 = 52 → ¬ x0 = 53 → ¬ x0 = 54 → ¬ x0 = 55 → ¬ x0 = 56 → ¬ x0 = 57 → ¬ x0 = 58 → ¬ x0 = 59 → ¬ x0 = 60 → ¬ x0 = 61 → ¬ x0 = 62 → x1 = 0 → x2 = 0 → px_W E mX10_done (d + 1) 0 0 228 [.null, .null, .null] [.int 0] w Q)
    (k70 : ¬ x0 = 37 → ¬ x0 = 38 → ¬ x0 = 39 → ¬ x0 = 40 → ¬ x0 = 41 → ¬ x0 = 42 → ¬ x0 = 43 → ¬ x0 = 44 → ¬ x0 = 45 → ¬ x0 = 46 → ¬ x0 = 47 → ¬ x0 = 48 → ¬ x0 = 49 → ¬ x0 = 50 → ¬ x0 = 51 → ¬ x0 = 52 → ¬ x0 = 53 → ¬ x0 = 54 → ¬ x0 = 55 → ¬ x0 = 56 → ¬ x0 = 57 → ¬ x0 = 58 → ¬ x0 = 59 → ¬ x0 = 60 → ¬ x0 = 61 → ¬ x0 = 62 → x1 = 0 → ¬ x2 = 0 → px_W E mX10_done (d + 1) 0 0 223 [.null, .null, .null] [] w Q) :
    px_W E mX10_done (d + 1) 0 0 0 [.int x0, .int x1, .int x2] [] w Q := by
  refine px_iload_n dX10_done_0 rfl rfl ?_
  by_cases h1 : x0 = 37
  ·
    refine px_table (tgt := 144) dX10_done_1 143 (by rw [h1]; decide) (by decide) ?_
    refine px_iload_n dX10_done_144 rfl rfl ?_
    refine px_if_ne (tgt := 152) dX10_done_145 (by decide) (fun h2 => ?_) (fun h2 => ?_)
    ·
      exact px_forget (k1 h1 h2) ⟨Or.inl rfl, Or.inr rfl, Or.inr rfl, trivial⟩
    ·
      refine px_iconst dX10_done_148 ic_0 ?_
      refine px_goto (tgt := 155) dX10_done_149 (by decide) ?_
      exact px_forget (k2 h1 h2) ⟨Or.inl rfl, Or.inl rfl, Or.inl rfl, trivial⟩
  by_cases h3 : x0 = 38
  ·
    refine px_table (tgt := 198) dX10_done_1 197 (by rw [h3]; decide) (by decide) ?_
    refine px_iload_n dX10_done_198 rfl rfl ?_
    refine px_if_eq (tgt := 210) dX10_done_199 (by decide) (fun h4 => ?_) (fun h4 => ?_)
    ·
      exact px_forget (k3 h1 h3 h4) ⟨Or.inl rfl, Or.inl rfl, Or.inl rfl, trivial⟩
    ·
      refine px_iload_n dX10_done_202 rfl rfl ?_
      refine px_if_eq (tgt := 210) dX10_done_203 (by decide) (fun h5 => ?_) (fun h5 => ?_)
      ·
        exact px_forget (k4 h1 h3 h4 h5) ⟨Or.inl rfl, Or.inl rfl, Or.inl rfl, trivial⟩
      ·
        refine px_iconst dX10_done_206 ic_1 ?_
        refine px_goto (tgt := 211) dX10_done_207 (by decide) ?_
        exact px_forget (k5 h1 h3 h4 h5) ⟨Or.inl rfl, Or.inl rfl, Or.inl rfl, trivial⟩
  by_cases h6 : x0 = 39
  ·
    refine px_table (tgt := 215) dX10_done_1 214 (by rw [h6]; decide) (by decide) ?_
    refine px_iload_n dX10_done_215 rfl rfl ?_
    refine px_if_ne (tgt := 223) dX10_done_216 (by decide) (fun h7 => ?_) (fun h7 => ?_)
    ·
      exact px_forget (k6 h1 h3 h6 h7) ⟨Or.inl rfl, Or.inl rfl, Or.inl rfl, trivial⟩
    ·
      refine px_iload_n dX10_done_219 rfl rfl ?_
      refine px_if_eq (tgt := 227) dX10_done_220 (by decide) (fun h8 => ?_) (fun h8 => ?_)
      ·
        refine px_iconst dX10_done_227 ic_0 ?_
        exact px_forget (k7 h1 h3 h6 h7 h8) ⟨Or.inl rfl, Or.inl rfl, Or.inl rfl, trivial⟩
      ·
        exact px_forget (k8 h1 h3 h6 h7 h8) ⟨Or.inl rfl, Or.inl rfl, Or.inl rfl, trivial⟩
  by_cases h9 : x0 = 40
  ·
    refine px_table (tgt := 215) dX10_done_1 214 (by rw [h9]; decide) (by decide) ?_
    refine px_iload_n dX10_done_215 rfl rfl ?_
    refine px_if_ne (tgt := 223) dX10_done_216 (by decide) (fun h10 => ?_) (fun h10 => ?_)
    ·
      exact px_forget (k9 h1 h3 h6 h9 h10) ⟨Or.inl rfl, Or.inl rfl, Or.inl rfl, trivial⟩
    ·
      refine px_iload_n dX10_done_219 rfl rfl ?_
      refine px_if_eq (tgt := 227) dX10_done_220 (by decide) (fun h11 => ?_) (fun h11 => ?_)
      ·
        refine px_iconst dX10_done_227 ic_0 ?_
        exact px_forget (k10 h1 h3 h6 h9 h10 h11) ⟨Or.inl rfl, Or.inl rfl, Or.inl rfl, trivial⟩
      ·
        exact px_forget (k11 h1 h3 h6 h9 h10 h11) ⟨Or.inl rfl, Or.inl rfl, Or.inl rfl, trivial⟩
  by_cases h12 : x0 = 41
  ·
    refine px_table (tgt := 215) dX10_done_1 214 (by rw [h12]; decide) (by decide) ?_
    refine px_iload_n dX10_done_215 rfl rfl ?_
    refine px_if_ne (tgt := 223) dX10_done_216 (by decide) (fun h13 => ?_) (fun h13 => ?_)
    ·
      exact px_forget (k12 h1 h3 h6 h9 h12 h13) ⟨Or.inl rfl, Or.inl rfl, Or.inl rfl, trivial⟩
    ·
      refine px_iload_n dX10_done_219 rfl rfl ?_
      refine px_if_eq (tgt := 227) dX10_done_220 (by decide) (fun h14 => ?_) (fun h14 => ?_)
      ·
        refine px_iconst dX10_done_227 ic_0 ?_
        exact px_forget (k13 h1 h3 h6 h9 h12 h13 h14) ⟨Or.inl rfl, Or.inl rfl, Or.inl rfl, trivial⟩
      ·
        exact px_forget (k14 h1 h3 h6 h9 h12 h13 h14) ⟨Or.inl rfl, Or.inl rfl, Or.inl rfl, trivial⟩
  by_cases h15 : x0 = 42
  ·
    refine px_table (tgt := 128) dX10_done_1 127 (by rw [h15]; decide) (by decide) ?_
    refine px_iload_n dX10_done_128 rfl rfl ?_
    refine px_iload_n dX10_done_129 rfl rfl ?_
    refine px_imul dX10_done_130 ?_
    exact px_ireturn dX10_done_131 rfl rfl (k15 h1 h3 h6 h9 h12 h15)
  by_cases h16 : x0 = 43
  ·
    refine px_table (tgt := 120) dX10_done_1 119 (by rw [h16]; decide) (by decide) ?_
    refine px_iload_n dX10_done_120 rfl rfl ?_
    refine px_iload_n dX10_done_121 rfl rfl ?_
    refine px_iadd dX10_done_122 ?_
    exact px_ireturn dX10_done_123 rfl rfl (k16 h1 h3 h6 h9 h12 h15 h16)
  by_cases h17 : x0 = 44
  ·
    refine px_table (tgt := 215) dX10_done_1 214 (by rw [h17]; decide) (by decide) ?_
    refine px_iload_n dX10_done_215 rfl rfl ?_
    refine px_if_ne (tgt := 223) dX10_done_216 (by decide) (fun h18 => ?_) (fun h18 => ?_)
    ·
      exact px_forget (k17 h1 h3 h6 h9 h12 h15 h16 h17 h18) ⟨Or.inl rfl, Or.inl rfl, Or.inl rfl, trivial⟩
    ·
      refine px_iload_n dX10_done_219 rfl rfl ?_
      refine px_if_eq (tgt := 227) dX10_done_220 (by decide) (fun h19 => ?_) (fun h19 => ?_)
      ·
        refine px_iconst dX10_done_227 ic_0 ?_
        exact px_forget (k18 h1 h3 h6 h9 h12 h15 h16 h17 h18 h19) ⟨Or.inl rfl, Or.inl rfl, Or.inl rfl, trivial⟩
      ·
        exact px_forget (k19 h1 h3 h6 h9 h12 h15 h16 h17 h18 h19) ⟨Or.inl rfl, Or.inl rfl, Or.inl rfl, trivial⟩
  by_cases h20 : x0 = 45
  ·
    refine px_table (tgt := 124) dX10_done_1 123 (by rw [h20]; decide) (by decide) ?_
    refine px_iload_n dX10_done_124 rfl rfl ?_
    refine px_iload_n dX10_done_125 rfl rfl ?_
    refine px_isub dX10_done_126 ?_
    exact px_ireturn dX10_done_127 rfl rfl (k20 h1 h3 h6 h9 h12 h15 h16 h17 h20)
  by_cases h21 : x0 = 46
  ·
    refine px_table (tgt := 215) dX10_done_1 214 (by rw [h21]; decide) (by decide) ?_
    refine px_iload_n dX10_done_215 rfl rfl ?_
    refine px_if_ne (tgt := 223) dX10_done_216 (by decide) (fun h22 => ?_) (fun h22 => ?_)
    ·
      exact px_forget (k21 h1 h3 h6 h9 h12 h15 h16 h17 h20 h21 h22) ⟨Or.inl rfl, Or.inl rfl, Or.inl rfl, trivial⟩
    ·
      refine px_iload_n dX10_done_219 rfl rfl ?_
      refine px_if_eq (tgt := 227) dX10_done_220 (by decide) (fun h23 => ?_) (fun h23 => ?_)
      ·
        refine px_iconst dX10_done_227 ic_0 ?_
        exact px_forget (k22 h1 h3 h6 h9 h12 h15 h16 h17 h20 h21 h22 h23) ⟨Or.inl rfl, Or.inl rfl, Or.inl rfl, trivial⟩
      ·
        exact px_forget (k23 h1 h3 h6 h9 h12 h15 h16 h17 h20 h21 h22 h23) ⟨Or.inl rfl, Or.inl rfl, Or.inl rfl, trivial⟩
  by_cases h24 : x0 = 47
  ·
    refine px_table (tgt := 132) dX10_done_1 131 (by rw [h24]; decide) (by decide) ?_
    refine px_iload_n dX10_done_132 rfl rfl ?_
    refine px_if_ne (tgt := 140) dX10_done_133 (by decide) (fun h25 => ?_) (fun h25 => ?_)
    ·
      exact px_forget (k24 h1 h3 h6 h9 h12 h15 h16 h17 h20 h21 h24 h25) ⟨Or.inl rfl, Or.inr rfl, Or.inr rfl, trivial⟩
    ·
      refine px_iconst dX10_done_136 ic_0 ?_
      refine px_goto (tgt := 143) dX10_done_137 (by decide) ?_
      exact px_forget (k25 h1 h3 h6 h9 h12 h15 h16 h17 h20 h21 h24 h25) ⟨Or.inl rfl, Or.inl rfl, Or.inl rfl, trivial⟩
  by_cases h26 : x0 = 48
  ·
    refine px_table (tgt := 215) dX10_done_1 214 (by rw [h26]; decide) (by decide) ?_
    refine px_iload_n dX10_done_215 rfl rfl ?_
    refine px_if_ne (tgt := 223) dX10_done_216 (by decide) (fun h27 => ?_) (fun h27 => ?_)
    ·
      exact px_forget (k26 h1 h3 h6 h9 h12 h15 h16 h17 h20 h21 h24 h26 h27) ⟨Or.inl rfl, Or.inl rfl, Or.inl rfl, trivial⟩
    ·
      refine px_iload_n dX10_done_219 rfl rfl ?_
      refine px_if_eq (tgt := 227) dX10_done_220 (by decide) (fun h28 => ?_) (fun h28 => ?_)
      ·
        refine px_iconst dX10_done_227 ic_0 ?_
        exact px_forget (k27 h1 h3 h6 h9 h12 h15 h16 h17 h20 h21 h24 h26 h27 h28) ⟨Or.inl rfl, Or.inl rfl, Or.inl rfl, trivial⟩
      ·
        exact px_forget (k28 h1 h3 h6 h9 h12 h15 h16 h17 h20 h21 h24 h26 h27 h28) ⟨Or.inl rfl, Or.inl rfl, Or.inl rfl, trivial⟩
  by_cases h29 : x0 = 49
  ·
    refine px_table (tgt := 215) dX10_done_1 214 (by rw [h29]; decide) (by decide) ?_
    refine px_iload_n dX10_done_215 rfl rfl ?_
    refine px_if_ne (tgt := 223) dX10_done_216 (by decide) (fun h30 => ?_) (fun h30 => ?_)
    ·
      exact px_forget (k29 h1 h3 h6 h9 h12 h15 h16 h17 h20 h21 h24 h26 h29 h30) ⟨Or.inl rfl, Or.inl rfl, Or.inl rfl, trivial⟩
    ·
      refine px_iload_n dX10_done_219 rfl rfl ?_
      refine px_if_eq (tgt := 227) dX10_done_220 (by decide) (fun h31 => ?_) (fun h31 => ?_)
      ·
        refine px_iconst dX10_done_227 ic_0 ?_
        exact px_forget (k30 h1 h3 h6 h9 h12 h15 h16 h17 h20 h21 h24 h26 h29 h30 h31) ⟨Or.inl rfl, Or.inl rfl, Or.inl rfl, trivial⟩
      ·
        exact px_forget (k31 h1 h3 h6 h9 h12 h15 h16 h17 h20 h21 h24 h26 h29 h30 h31) ⟨Or.inl rfl, Or.inl rfl, Or.inl rfl, trivial⟩
  by_cases h32 : x0 = 50
  ·
    refine px_table (tgt := 215) dX10_done_1 214 (by rw [h32]; decide) (by decide) ?_
    refine px_iload_n dX10_done_215 rfl rfl ?_
    refine px_if_ne (tgt := 223) dX10_done_216 (by decide) (fun h33 => ?_) (fun h33 => ?_)
    ·
      exact px_forget (k32 h1 h3 h6 h9 h12 h15 h16 h17 h20 h21 h24 h26 h29 h32 h33) ⟨Or.inl rfl, Or.inl rfl, Or.inl rfl, trivial⟩
    ·
      refine px_iload_n dX10_done_219 rfl rfl ?_
      refine px_if_eq (tgt := 227) dX10_done_220 (by decide) (fun h34 => ?_) (fun h34 => ?_)
      ·
        refine px_iconst dX10_done_227 ic_0 ?_
        exact px_forget (k33 h1 h3 h6 h9 h12 h15 h16 h17 h20 h21 h24 h26 h29 h32 h33 h34) ⟨Or.inl rfl, Or.inl rfl, Or.inl rfl, trivial⟩
      ·
        exact px_forget (k34 h1 h3 h6 h9 h12 h15 h16 h17 h20 h21 h24 h26 h29 h32 h33 h34) ⟨Or.inl rfl, Or.inl rfl, Or.inl rfl, trivial⟩
  by_cases h35 : x0 = 51
  ·
    refine px_table (tgt := 215) dX10_done_1 214 (by rw [h35]; decide) (by decide) ?_
    refine px_iload_n dX10_done_215 rfl rfl ?_
    refine px_if_ne (tgt := 223) dX10_done_216 (by decide) (fun h36 => ?_) (fun h36 => ?_)
    ·
      exact px_forget (k35 h1 h3 h6 h9 h12 h15 h16 h17 h20 h21 h24 h26 h29 h32 h35 h36) ⟨Or.inl rfl, Or.inl rfl, Or.inl rfl, trivial⟩
    ·
      refine px_iload_n dX10_done_219 rfl rfl ?_
      refine px_if_eq (tgt := 227) dX10_done_220 (by decide) (fun h37 => ?_) (fun h37 => ?_)
      ·
        refine px_iconst dX10_done_227 ic_0 ?_
        exact px_forget (k36 h1 h3 h6 h9 h12 h15 h16 h17 h20 h21 h24 h26 h29 h32 h35 h36 h37) ⟨Or.inl rfl, Or.inl rfl, Or.inl rfl, trivial⟩
      ·
        exact px_forget (k37 h1 h3 h6 h9 h12 h15 h16 h17 h20 h21 h24 h26 h29 h32 h35 h36 h37) ⟨Or.inl rfl, Or.inl rfl, Or.inl rfl, trivial⟩
  by_cases h38 : x0 = 52
  ·
    refine px_table (tgt := 215) dX10_done_1 214 (by rw [h38]; decide) (by decide) ?_
    refine px_iload_n dX10_done_215 rfl rfl ?_
    refine px_if_ne (tgt := 223) dX10_done_216 (by decide) (fun h39 => ?_) (fun h39 => ?_)
    ·
      exact px_forget (k38 h1 h3 h6 h9 h12 h15 h16 h17 h20 h21 h24 h26 h29 h32 h35 h38 h39) ⟨Or.inl rfl, Or.inl rfl, Or.inl rfl, trivial⟩
    ·
      refine px_iload_n dX10_done_219 rfl rfl ?_
      refine px_if_eq (tgt := 227) dX10_done_220 (by decide) (fun h40 => ?_) (fun h40 => ?_)
      ·
        refine px_iconst dX10_done_227 ic_0 ?_
        exact px_forget (k39 h1 h3 h6 h9 h12 h15 h16 h17 h20 h21 h24 h26 h29 h32 h35 h38 h39 h40) ⟨Or.inl rfl, Or.inl rfl, Or.inl rfl, trivial⟩
      ·
        exact px_forget (k40 h1 h3 h6 h9 h12 h15 h16 h17 h20 h21 h24 h26 h29 h32 h35 h38 h39 h40) ⟨Or.inl rfl, Or.inl rfl, Or.inl rfl, trivial⟩
  by_cases h41 : x0 = 53
  ·
    refine px_table (tgt := 215) dX10_done_1 214 (by rw [h41]; decide) (by decide) ?_
    refine px_iload_n dX10_done_215 rfl rfl ?_
    refine px_if_ne (tgt := 223) dX10_done_216 (by decide) (fun h42 => ?_) (fun h42 => ?_)
    ·
      exact px_forget (k41 h1 h3 h6 h9 h12 h15 h16 h17 h20 h21 h24 h26 h29 h32 h35 h38 h41 h42) ⟨Or.inl rfl, Or.inl rfl, Or.inl rfl, trivial⟩
    ·
      refine px_iload_n dX10_done_219 rfl rfl ?_
      refine px_if_eq (tgt := 227) dX10_done_220 (by decide) (fun h43 => ?_) (fun h43 => ?_)
      ·
        refine px_iconst dX10_done_227 ic_0 ?_
        exact px_forget (k42 h1 h3 h6 h9 h12 h15 h16 h17 h20 h21 h24 h26 h29 h32 h35 h38 h41 h42 h43) ⟨Or.inl rfl, Or.inl rfl, Or.inl rfl, trivial⟩
      ·
        exact px_forget (k43 h1 h3 h6 h9 h12 h15 h16 h17 h20 h21 h24 h26 h29 h32 h35 h38 h41 h42 h43) ⟨Or.inl rfl, Or.inl rfl, Or.inl rfl, trivial⟩
  by_cases h44 : x0 = 54
  ·
    refine px_table (tgt := 215) dX10_done_1 214 (by rw [h44]; decide) (by decide) ?_
    refine px_iload_n dX10_done_215 rfl rfl ?_
    refine px_if_ne (tgt := 223) dX10_done_216 (by decide) (fun h45 => ?_) (fun h45 => ?_)
    ·
      exact px_forget (k44 h1 h3 h6 h9 h12 h15 h16 h17 h20 h21 h24 h26 h29 h32 h35 h38 h41 h44 h45) ⟨Or.inl rfl, Or.inl rfl, Or.inl rfl, trivial⟩
    ·
      refine px_iload_n dX10_done_219 rfl rfl ?_
      refine px_if_eq (tgt := 227) dX10_done_220 (by decide) (fun h46 => ?_) (fun h46 => ?_)
      ·
        refine px_iconst dX10_done_227 ic_0 ?_
        exact px_forget (k45 h1 h3 h6 h9 h12 h15 h16 h17 h20 h21 h24 h26 h29 h32 h35 h38 h41 h44 h45 h46) ⟨Or.inl rfl, Or.inl rfl, Or.inl rfl, trivial⟩
      ·
        exact px_forget (k46 h1 h3 h6 h9 h12 h15 h16 h17 h20 h21 h24 h26 h29 h32 h35 h38 h41 h44 h45 h46) ⟨Or.inl rfl, Or.inl rfl, Or.inl rfl, trivial⟩
  by_cases h47 : x0 = 55
  ·
    refine px_table (tgt := 215) dX10_done_1 214 (by rw [h47]; decide) (by decide) ?_
    refine px_iload_n dX10_done_215 rfl rfl ?_
    refine px_if_ne (tgt := 223) dX10_done_216 (by decide) (fun h48 => ?_) (fun h48 => ?_)
    ·
      exact px_forget (k47 h1 h3 h6 h9 h12 h15 h16 h17 h20 h21 h24 h26 h29 h32 h35 h38 h41 h44 h47 h48) ⟨Or.inl rfl, Or.inl rfl, Or.inl rfl, trivial⟩
    ·
      refine px_iload_n dX10_done_219 rfl rfl ?_
      refine px_if_eq (tgt := 227) dX10_done_220 (by decide) (fun h49 => ?_) (fun h49 => ?_)
      ·
        refine px_iconst dX10_done_227 ic_0 ?_
        exact px_forget (k48 h1 h3 h6 h9 h12 h15 h16 h17 h20 h21 h24 h26 h29 h32 h35 h38 h41 h44 h47 h48 h49) ⟨Or.inl rfl, Or.inl rfl, Or.inl rfl, trivial⟩
      ·
        exact px_forget (k49 h1 h3 h6 h9 h12 h15 h16 h17 h20 h21 h24 h26 h29 h32 h35 h38 h41 h44 h47 h48 h49) ⟨Or.inl rfl, Or.inl rfl, Or.inl rfl, trivial⟩
  by_cases h50 : x0 = 56
  ·
    refine px_table (tgt := 215) dX10_done_1 214 (by rw [h50]; decide) (by decide) ?_
    refine px_iload_n dX10_done_215 rfl rfl ?_
    refine px_if_ne (tgt := 223) dX10_done_216 (by decide) (fun h51 => ?_) (fun h51 => ?_)
    ·
      exact px_forget (k50 h1 h3 h6 h9 h12 h15 h16 h17 h20 h21 h24 h26 h29 h32 h35 h38 h41 h44 h47 h50 h51) ⟨Or.inl rfl, Or.inl rfl, Or.inl rfl, trivial⟩
    ·
      refine px_iload_n dX10_done_219 rfl rfl ?_
      refine px_if_eq (tgt := 227) dX10_done_220 (by decide) (fun h52 => ?_) (fun h52 => ?_)
      ·
        refine px_iconst dX10_done_227 ic_0 ?_
        exact px_forget (k51 h1 h3 h6 h9 h12 h15 h16 h17 h20 h21 h24 h26 h29 h32 h35 h38 h41 h44 h47 h50 h51 h52) ⟨Or.inl rfl, Or.inl rfl, Or.inl rfl, trivial⟩
      ·
        exact px_forget (k52 h1 h3 h6 h9 h12 h15 h16 h17 h20 h21 h24 h26 h29 h32 h35 h38 h41 h44 h47 h50 h51 h52) ⟨Or.inl rfl, Or.inl rfl, Or.inl rfl, trivial⟩
  by_cases h53 : x0 = 57
  ·
    refine px_table (tgt := 215) dX10_done_1 214 (by rw [h53]; decide) (by decide) ?_
    refine px_iload_n dX10_done_215 rfl rfl ?_
    refine px_if_ne (tgt := 223) dX10_done_216 (by decide) (fun h54 => ?_) (fun h54 => ?_)
    ·
      exact px_forget (k53 h1 h3 h6 h9 h12 h15 h16 h17 h20 h21 h24 h26 h29 h32 h35 h38 h41 h44 h47 h50 h53 h54) ⟨Or.inl rfl, Or.inl rfl, Or.inl rfl, trivial⟩
    ·
      refine px_iload_n dX10_done_219 rfl rfl ?_
      refine px_if_eq (tgt := 227) dX10_done_220 (by decide) (fun h55 => ?_) (fun h55 => ?_)
      ·
        refine px_iconst dX10_done_227 ic_0 ?_
        exact px_forget (k54 h1 h3 h6 h9 h12 h15 h16 h17 h20 h21 h24 h26 h29 h32 h35 h38 h41 h44 h47 h50 h53 h54 h55) ⟨Or.inl rfl, Or.inl rfl, Or.inl rfl, trivial⟩
      ·
        exact px_forget (k55 h1 h3 h6 h9 h12 h15 h16 h17 h20 h21 h24 h26 h29 h32 h35 h38 h41 h44 h47 h50 h53 h54 h55) ⟨Or.inl rfl, Or.inl rfl, Or.inl rfl, trivial⟩
  by_cases h56 : x0 = 58
  ·
    refine px_table (tgt := 215) dX10_done_1 214 (by rw [h56]; decide) (by decide) ?_
    refine px_iload_n dX10_done_215 rfl rfl ?_
    refine px_if_ne (tgt := 223) dX10_done_216 (by decide) (fun h57 => ?_) (fun h57 => ?_)
    ·
      exact px_forget (k56 h1 h3 h6 h9 h12 h15 h16 h17 h20 h21 h24 h26 h29 h32 h35 h38 h41 h44 h47 h50 h53 h56 h57) ⟨Or.inl rfl, Or.inl rfl, Or.inl rfl, trivial⟩
    ·
      refine px_iload_n dX10_done_219 rfl rfl ?_
      refine px_if_eq (tgt := 227) dX10_done_220 (by decide) (fun h58 => ?_) (fun h58 => ?_)
      ·
        refine px_iconst dX10_done_227 ic_0 ?_
        exact px_forget (k57 h1 h3 h6 h9 h12 h15 h16 h17 h20 h21 h24 h26 h29 h32 h35 h38 h41 h44 h47 h50 h53 h56 h57 h58) ⟨Or.inl rfl, Or.inl rfl, Or.inl rfl, trivial⟩
      ·
        exact px_forget (k58 h1 h3 h6 h9 h12 h15 h16 h17 h20 h21 h24 h26 h29 h32 h35 h38 h41 h44 h47 h50 h53 h56 h57 h58) ⟨Or.inl rfl, Or.inl rfl, Or.inl rfl, trivial⟩
  by_cases h59 : x0 = 59
  ·
    refine px_table (tgt := 215) dX10_done_1 214 (by rw [h59]; decide) (by decide) ?_
    refine px_iload_n dX10_done_215 rfl rfl ?_
    refine px_if_ne (tgt := 223) dX10_done_216 (by decide) (fun h60 => ?_) (fun h60 => ?_)
    ·
      exact px_forget (k59 h1 h3 h6 h9 h12 h15 h16 h17 h20 h21 h24 h26 h29 h32 h35 h38 h41 h44 h47 h50 h53 h56 h59 h60) ⟨Or.inl rfl, Or.inl rfl, Or.inl rfl, trivial⟩
    ·
      refine px_iload_n dX10_done_219 rfl rfl ?_
      refine px_if_eq (tgt := 227) dX10_done_220 (by decide) (fun h61 => ?_) (fun h61 => ?_)
      ·
        refine px_iconst dX10_done_227 ic_0 ?_
        exact px_forget (k60 h1 h3 h6 h9 h12 h15 h16 h17 h20 h21 h24 h26 h29 h32 h35 h38 h41 h44 h47 h50 h53 h56 h59 h60 h61) ⟨Or.inl rfl, Or.inl rfl, Or.inl rfl, trivial⟩
      ·
        exact px_forget (k61 h1 h3 h6 h9 h12 h15 h16 h17 h20 h21 h24 h26 h29 h32 h35 h38 h41 h44 h47 h50 h53 h56 h59 h60 h61) ⟨Or.inl rfl, Or.inl rfl, Or.inl rfl, trivial⟩
  by_cases h62 : x0 = 60
  ·
    refine px_table (tgt := 156) dX10_done_1 155 (by rw [h62]; decide) (by decide) ?_
    refine px_iload_n dX10_done_156 rfl rfl ?_
    refine px_iload_n dX10_done_157 rfl rfl ?_
    refine px_icmp_ge (tgt := 165) dX10_done_158 (by decide) (fun h63 => ?_) (fun h63 => ?_)
    ·
      refine px_iconst dX10_done_165 ic_0 ?_
      exact px_forget (k62 h1 h3 h6 h9 h12 h15 h16 h17 h20 h21 h24 h26 h29 h32 h35 h38 h41 h44 h47 h50 h53 h56 h59 h62 h63) ⟨Or.inl rfl, Or.inl rfl, Or.inl rfl, trivial⟩
    ·
      refine px_iconst dX10_done_161 ic_1 ?_
      refine px_goto (tgt := 166) dX10_done_162 (by decide) ?_
      exact px_forget (k63 h1 h3 h6 h9 h12 h15 h16 h17 h20 h21 h24 h26 h29 h32 h35 h38 h41 h44 h47 h50 h53 h56 h59 h62 h63) ⟨Or.inl rfl, Or.inl rfl, Or.inl rfl, trivial⟩
  by_cases h64 : x0 = 61
  ·
    refine px_table (tgt := 184) dX10_done_1 183 (by rw [h64]; decide) (by decide) ?_
    refine px_iload_n dX10_done_184 rfl rfl ?_
    refine px_iload_n dX10_done_185 rfl rfl ?_
    refine px_icmp_ne (tgt := 193) dX10_done_186 (by decide) (fun h65 => ?_) (fun h65 => ?_)
    ·
      refine px_iconst dX10_done_193 ic_0 ?_
      exact px_forget (k64 h1 h3 h6 h9 h12 h15 h16 h17 h20 h21 h24 h26 h29 h32 h35 h38 h41 h44 h47 h50 h53 h56 h59 h62 h64 h65) ⟨Or.inl rfl, Or.inl rfl, Or.inl rfl, trivial⟩
    ·
      refine px_iconst dX10_done_189 ic_1 ?_
      refine px_goto (tgt := 194) dX10_done_190 (by decide) ?_
      exact px_forget (k65 h1 h3 h6 h9 h12 h15 h16 h17 h20 h21 h24 h26 h29 h32 h35 h38 h41 h44 h47 h50 h53 h56 h59 h62 h64 h65) ⟨Or.inl rfl, Or.inl rfl, Or.inl rfl, trivial⟩
  by_cases h66 : x0 = 62
  ·
    refine px_table (tgt := 170) dX10_done_1 169 (by rw [h66]; decide) (by decide) ?_
    refine px_iload_n dX10_done_170 rfl rfl ?_
    refine px_iload_n dX10_done_171 rfl rfl ?_
    refine px_icmp_le (tgt := 179) dX10_done_172 (by decide) (fun h67 => ?_) (fun h67 => ?_)
    ·
      refine px_iconst dX10_done_179 ic_0 ?_
      exact px_forget (k66 h1 h3 h6 h9 h12 h15 h16 h17 h20 h21 h24 h26 h29 h32 h35 h38 h41 h44 h47 h50 h53 h56 h59 h62 h64 h66 h67) ⟨Or.inl rfl, Or.inl rfl, Or.inl rfl, trivial⟩
    ·
      refine px_iconst dX10_done_175 ic_1 ?_
      refine px_goto (tgt := 180) dX10_done_176 (by decide) ?_
      exact px_forget (k67 h1 h3 h6 h9 h12 h15 h16 h17 h20 h21 h24 h26 h29 h32 h35 h38 h41 h44 h47 h50 h53 h56 h59 h62 h64 h66 h67) ⟨Or.inl rfl, Or.inl rfl, Or.inl rfl, trivial⟩
  refine px_table (tgt := 215) dX10_done_1 214 (by have a37 := lv_neT h1 (show (37 : Int32).toInt = 37 from by decide); have a38 := lv_neT h3 (show (38 : Int32).toInt = 38 from by decide); have a39 := lv_neT h6 (show (39 : Int32).toInt = 39 from by decide); have a40 := lv_neT h9 (show (40 : Int32).toInt = 40 from by decide); have a41 := lv_neT h12 (show (41 : Int32).toInt = 41 from by decide); have a42 := lv_neT h15 (show (42 : Int32).toInt = 42 from by decide); have a43 := lv_neT h16 (show (43 : Int32).toInt = 43 from by decide); have a44 := lv_neT h17 (show (44 : Int32).toInt = 44 from by decide); have a45 := lv_neT h20 (show (45 : Int32).toInt = 45 from by decide); have a46 := lv_neT h21 (show (46 : Int32).toInt = 46 from by decide); have a47 := lv_neT h24 (show (47 : Int32).toInt = 47 from by decide); have a48 := lv_neT h26 (show (48 : Int32).toInt = 48 from by decide); have a49 := lv_neT h29 (show (49 : Int32).toInt = 49 from by decide); have a50 := lv_neT h32 (show (50 : Int32).toInt = 50 from by decide); have a51 := lv_neT h35 (show (51 : Int32).toInt = 51 from by decide); have a52 := lv_neT h38 (show (52 : Int32).toInt = 52 from by decide); have a53 := lv_neT h41 (show (53 : Int32).toInt = 53 from by decide); have a54 := lv_neT h44 (show (54 : Int32).toInt = 54 from by decide); have a55 := lv_neT h47 (show (55 : Int32).toInt = 55 from by decide); have a56 := lv_neT h50 (show (56 : Int32).toInt = 56 from by decide); have a57 := lv_neT h53 (show (57 : Int32).toInt = 57 from by decide); have a58 := lv_neT h56 (show (58 : Int32).toInt = 58 from by decide); have a59 := lv_neT h59 (show (59 : Int32).toInt = 59 from by decide); have a60 := lv_neT h62 (show (60 : Int32).toInt = 60 from by decide); have a61 := lv_neT h64 (show (61 : Int32).toInt = 61 from by decide); have a62 := lv_neT h66 (show (62 : Int32).toInt = 62 from by decide); rw [if_pos (by omega)]) (by decide) ?_
  refine px_iload_n dX10_done_215 rfl rfl ?_
  refine px_if_ne (tgt := 223) dX10_done_216 (by decide) (fun h68 => ?_) (fun h68 => ?_)
  ·
    exact px_forget (k68 h1 h3 h6 h9 h12 h15 h16 h17 h20 h21 h24 h26 h29 h32 h35 h38 h41 h44 h47 h50 h53 h56 h59 h62 h64 h66 h68) ⟨Or.inl rfl, Or.inl rfl, Or.inl rfl, trivial⟩
  ·
    refine px_iload_n dX10_done_219 rfl rfl ?_
    refine px_if_eq (tgt := 227) dX10_done_220 (by decide) (fun h69 => ?_) (fun h69 => ?_)
    ·
      refine px_iconst dX10_done_227 ic_0 ?_
      exact px_forget (k69 h1 h3 h6 h9 h12 h15 h16 h17 h20 h21 h24 h26 h29 h32 h35 h38 h41 h44 h47 h50 h53 h56 h59 h62 h64 h66 h68 h69) ⟨Or.inl rfl, Or.inl rfl, Or.inl rfl, trivial⟩
    ·
      exact px_forget (k70 h1 h3 h6 h9 h12 h15 h16 h17 h20 h21 h24 h26 h29 h32 h35 h38 h41 h44 h47 h50 h53 h56 h59 h62 h64 h66 h68 h69) ⟨Or.inl rfl, Or.inl rfl, Or.inl rfl, trivial⟩
theorem eX10_done {E : px_E} {d : Nat} {w : pw_W} {Q : Option Value → pw_W → Prop} {x0 x1 x2 : Int32}  
    (k1 : x0 = 37 → ¬ x2 = 0 → px_W E mX10_done (d + 1) 0 0 152 [.null, .int x1, .int x2] [] w Q)
    (k2 : x0 = 37 → x2 = 0 → px_W E mX10_done (d + 1) 0 0 155 [.null, .null, .null] [.int 0] w Q)
    (k3 : ¬ x0 = 37 → x0 = 38 → x1 = 0 → px_W E mX10_done (d + 1) 0 0 210 [.null, .null, .null] [] w Q)
    (k4 : ¬ x0 = 37 → x0 = 38 → ¬ x1 = 0 → x2 = 0 → px_W E mX10_done (d + 1) 0 0 210 [.null, .null, .null] [] w Q)
    (k5 : ¬ x0 = 37 → x0 = 38 → ¬ x1 = 0 → ¬ x2 = 0 → px_W E mX10_done (d + 1) 0 0 211 [.null, .null, .null] [.int 1] w Q)
    (k6 : ¬ x0 = 37 → ¬ x0 = 38 → x0 = 39 → ¬ x1 = 0 → px_W E mX10_done (d + 1) 0 0 223 [.null, .null, .null] [] w Q)
    (k7 : ¬ x0 = 37 → ¬ x0 = 38 → x0 = 39 → x1 = 0 → x2 = 0 → px_W E mX10_done (d + 1) 0 0 228 [.null, .null, .null] [.int 0] w Q)
    (k8 : ¬ x0 = 37 → ¬ x0 = 38 → x0 = 39 → x1 = 0 → ¬ x2 = 0 → px_W E mX10_done (d + 1) 0 0 223 [.null, .null, .null] [] w Q)
    (k9 : ¬ x0 = 37 → ¬ x0 = 38 → ¬ x0 = 39 → x0 = 40 → ¬ x1 = 0 → px_W E mX10_done (d + 1) 0 0 223 [.null, .null, .null] [] w Q)
    (k10 : ¬ x0 = 37 → ¬ x0 = 38 → ¬ x0 = 39 → x0 = 40 → x1 = 0 → x2 = 0 → px_W E mX10_done (d + 1) 0 0 228 [.null, .null, .null] [.int 0] w Q)
    (k11 : ¬ x0 = 37 → ¬ x0 = 38 → ¬ x0 = 39 → x0 = 40 → x1 = 0 → ¬ x2 = 0 → px_W E mX10_done (d + 1) 0 0 223 [.null, .null, .null] [] w Q)
    (k12 : ¬ x0 = 37 → ¬ x0 = 38 → ¬ x0 = 39 → ¬ x0 = 40 → x0 = 41 → ¬ x1 = 0 → px_W E mX10_done (d + 1) 0 0 223 [.null, .null, .null] [] w Q)
    (k13 : ¬ x0 = 37 → ¬ x0 = 38 → ¬ x0 = 39 → ¬ x0 = 40 → x0 = 41 → x1 = 0 → x2 = 0 → px_W E mX10_done (d + 1) 0 0 228 [.null, .null, .null] [.int 0] w Q)
    (k14 : ¬ x0 = 37 → ¬ x0 = 38 → ¬ x0 = 39 → ¬ x0 = 40 → x0 = 41 → x1 = 0 → ¬ x2 = 0 → px_W E mX10_done (d + 1) 0 0 223 [.null, .null, .null] [] w Q)
    (k15 : ¬ x0 = 37 → ¬ x0 = 38 → ¬ x0 = 39 → ¬ x0 = 40 → ¬ x0 = 41 → x0 = 42 → Q (some (.int (x1 * x2))) w)
    (k16 : ¬ x0 = 37 → ¬ x0 = 38 → ¬ x0 = 39 → ¬ x0 = 40 → ¬ x0 = 41 → ¬ x0 = 42 → x0 = 43 → Q (some (.int (x1 + x2))) w)
    (k17 : ¬ x0 = 37 → ¬ x0 = 38 → ¬ x0 = 39 → ¬ x0 = 40 → ¬ x0 = 41 → ¬ x0 = 42 → ¬ x0 = 43 → x0 = 44 → ¬ x1 = 0 → px_W E mX10_done (d + 1) 0 0 223 [.null, .null, .null] [] w Q)
    (k18 : ¬ x0 = 37 → ¬ x0 = 38 → ¬ x0 = 39 → ¬ x0 = 40 → ¬ x0 = 41 → ¬ x0 = 42 → ¬ x0 = 43 → x0 = 44 → x1 = 0 → x2 = 0 → px_W E mX10_done (d + 1) 0 0 228 [.null, .null, .null] [.int 0] w Q)
    (k19 : ¬ x0 = 37 → ¬ x0 = 38 → ¬ x0 = 39 → ¬ x0 = 40 → ¬ x0 = 41 → ¬ x0 = 42 → ¬ x0 = 43 → x0 = 44 → x1 = 0 → ¬ x2 = 0 → px_W E mX10_done (d + 1) 0 0 223 [.null, .null, .null] [] w Q)
    (k20 : ¬ x0 = 37 → ¬ x0 = 38 → ¬ x0 = 39 → ¬ x0 = 40 → ¬ x0 = 41 → ¬ x0 = 42 → ¬ x0 = 43 → ¬ x0 = 44 → x0 = 45 → Q (some (.int (x1 - x2))) w)
    (k21 : ¬ x0 = 37 → ¬ x0 = 38 → ¬ x0 = 39 → ¬ x0 = 40 → ¬ x0 = 41 → ¬ x0 = 42 → ¬ x0 = 43 → ¬ x0 = 44 → ¬ x0 = 45 → x0 = 46 → ¬ x1 = 0 → px_W E mX10_done (d + 1) 0 0 223 [.null, .null, .null] [] w Q)
    (k22 : ¬ x0 = 37 → ¬ x0 = 38 → ¬ x0 = 39 → ¬ x0 = 40 → ¬ x0 = 41 → ¬ x0 = 42 → ¬ x0 = 43 → ¬ x0 = 44 → ¬ x0 = 45 → x0 = 46 → x1 = 0 → x2 = 0 → px_W E mX10_done (d + 1) 0 0 228 [.null, .null, .null] [.int 0] w Q)
    (k23 : ¬ x0 = 37 → ¬ x0 = 38 → ¬ x0 = 39 → ¬ x0 = 40 → ¬ x0 = 41 → ¬ x0 = 42 → ¬ x0 = 43 → ¬ x0 = 44 → ¬ x0 = 45 → x0 = 46 → x1 = 0 → ¬ x2 = 0 → px_W E mX10_done (d + 1) 0 0 223 [.null, .null, .null] [] w Q)
    (k24 : ¬ x0 = 37 → ¬ x0 = 38 → ¬ x0 = 39 → ¬ x0 = 40 → ¬ x0 = 41 → ¬ x0 = 42 → ¬ x0 = 43 → ¬ x0 = 44 → ¬ x0 = 45 → ¬ x0 = 46 → x0 = 47 → ¬ x2 = 0 → px_W E mX10_done (d + 1) 0 0 140 [.null, .int x1, .int x2] [] w Q)
    (k25 : ¬ x0 = 37 → ¬ x0 = 38 → ¬ x0 = 39 → ¬ x0 = 40 → ¬ x0 = 41 → ¬ x0 = 42 → ¬ x0 = 43 → ¬ x0 = 44 → ¬ x0 = 45 → ¬ x0 = 46 → x0 = 47 → x2 = 0 → px_W E mX10_done (d + 1) 0 0 143 [.null, .null, .null] [.int 0] w Q)
    (k26 : ¬ x0 = 37 → ¬ x0 = 38 → ¬ x0 = 39 → ¬ x0 = 40 → ¬ x0 = 41 → ¬ x0 = 42 → ¬ x0 = 43 → ¬ x0 = 44 → ¬ x0 = 45 → ¬ x0 = 46 → ¬ x0 = 47 → x0 = 48 → ¬ x1 = 0 → px_W E mX10_done (d + 1) 0 0 223 [.null, .null, .null] [] w Q)
    (k27 : ¬ x0 = 37 → ¬ x0 = 38 → ¬ x0 = 39 → ¬ x0 = 40 → ¬ x0 = 41 → ¬ x0 = 42 → ¬ x0 = 43 → ¬ x0 = 44 → ¬ x0 = 45 → ¬ x0 = 46 → ¬ x0 = 47 → x0 = 48 → x1 = 0 → x2 = 0 → px_W E mX10_done (d + 1) 0 0 228 [.null, .null, .null] [.int 0] w Q)
    (k28 : ¬ x0 = 37 → ¬ x0 = 38 → ¬ x0 = 39 → ¬ x0 = 40 → ¬ x0 = 41 → ¬ x0 = 42 → ¬ x0 = 43 → ¬ x0 = 44 → ¬ x0 = 45 → ¬ x0 = 46 → ¬ x0 = 47 → x0 = 48 → x1 = 0 → ¬ x2 = 0 → px_W E mX10_done (d + 1) 0 0 223 [.null, .null, .null] [] w Q)
    (k29 : ¬ x0 = 37 → ¬ x0 = 38 → ¬ x0 = 39 → ¬ x0 = 40 → ¬ x0 = 41 → ¬ x0 = 42 → ¬ x0 = 43 → ¬ x0 = 44 → ¬ x0 = 45 → ¬ x0 = 46 → ¬ x0 = 47 → ¬ x0 = 48 → x0 = 49 → ¬ x1 = 0 → px_W E mX10_done (d + 1) 0 0 223 [.null, .null, .null] [] w Q)
    (k30 : ¬ x0 = 37 → ¬ x0 = 38 → ¬ x0 = 39 → ¬ x0 = 40 → ¬ x0 = 41 → ¬ x0 = 42 → ¬ x0 = 43 → ¬ x0 = 44 → ¬ x0 = 45 → ¬ x0 = 46 → ¬ x0 = 47 → ¬ x0 = 48 → x0 = 49 → x1 = 0 → x2 = 0 → px_W E mX10_done (d + 1) 0 0 228 [.null, .null, .null] [.int 0] w Q)
    (k31 : ¬ x0 = 37 → ¬ x0 = 38 → ¬ x0 = 39 → ¬ x0 = 40 → ¬ x0 = 41 → ¬ x0 = 42 → ¬ x0 = 43 → ¬ x0 = 44 → ¬ x0 = 45 → ¬ x0 = 46 → ¬ x0 = 47 → ¬ x0 = 48 → x0 = 49 → x1 = 0 → ¬ x2 = 0 → px_W E mX10_done (d + 1) 0 0 223 [.null, .null, .null] [] w Q)
    (k32 : ¬ x0 = 37 → ¬ x0 = 38 → ¬ x0 = 39 → ¬ x0 = 40 → ¬ x0 = 41 → ¬ x0 = 42 → ¬ x0 = 43 → ¬ x0 = 44 → ¬ x0 = 45 → ¬ x0 = 46 → ¬ x0 = 47 → ¬ x0 = 48 → ¬ x0 = 49 → x0 = 50 → ¬ x1 = 0 → px_W E mX10_done (d + 1) 0 0 223 [.null, .null, .null] [] w Q)
    (k33 : ¬ x0 = 37 → ¬ x0 = 38 → ¬ x0 = 39 → ¬ x0 = 40 → ¬ x0 = 41 → ¬ x0 = 42 → ¬ x0 = 43 → ¬ x0 = 44 → ¬ x0 = 45 → ¬ x0 = 46 → ¬ x0 = 47 → ¬ x0 = 48 → ¬ x0 = 49 → x0 = 50 → x1 = 0 → x2 = 0 → px_W E mX10_done (d + 1) 0 0 228 [.null, .null, .null] [.int 0] w Q)
    (k34 : ¬ x0 = 37 → ¬ x0 = 38 → ¬ x0 = 39 → ¬ x0 = 40 → ¬ x0 = 41 → ¬ x0 = 42 → ¬ x0 = 43 → ¬ x0 = 44 → ¬ x0 = 45 → ¬ x0 = 46 → ¬ x0 = 47 → ¬ x0 = 48 → ¬ x0 = 49 → x0 = 50 → x1 = 0 → ¬ x2 = 0 → px_W E mX10_done (d + 1) 0 0 223 [.null, .null, .null] [] w Q)
    (k35 : ¬ x0 = 37 → ¬ x0 = 38 → ¬ x0 = 39 → ¬ x0 = 40 → ¬ x0 = 41 → ¬ x0 = 42 → ¬ x0 = 43 → ¬ x0 = 44 → ¬ x0 = 45 → ¬ x0 = 46 → ¬ x0 = 47 → ¬ x0 = 48 → ¬ x0 = 49 → ¬ x0 = 50 → x0 = 51 → ¬ x1 = 0 → px_W E mX10_done (d + 1) 0 0 223 [.null, .null, .null] [] w Q)
    (k36 : ¬ x0 = 37 → ¬ x0 = 38 → ¬ x0 = 39 → ¬ x0 = 40 → ¬ x0 = 41 → ¬ x0 = 42 → ¬ x0 = 43 → ¬ x0 = 44 → ¬ x0 = 45 → ¬ x0 = 46 → ¬ x0 = 47 → ¬ x0 = 48 → ¬ x0 = 49 → ¬ x0 = 50 → x0 = 51 → x1 = 0 → x2 = 0 → px_W E mX10_done (d + 1) 0 0 228 [.null, .null, .null] [.int 0] w Q)
    (k37 : ¬ x0 = 37 → ¬ x0 = 38 → ¬ x0 = 39 → ¬ x0 = 40 → ¬ x0 = 41 → ¬ x0 = 42 → ¬ x0 = 43 → ¬ x0 = 44 → ¬ x0 = 45 → ¬ x0 = 46 → ¬ x0 = 47 → ¬ x0 = 48 → ¬ x0 = 49 → ¬ x0 = 50 → x0 = 51 → x1 = 0 → ¬ x2 = 0 → px_W E mX10_done (d + 1) 0 0 223 [.null, .null, .null] [] w Q)
    (k38 : ¬ x0 = 37 → ¬ x0 = 38 → ¬ x0 = 39 → ¬ x0 = 40 → ¬ x0 = 41 → ¬ x0 = 42 → ¬ x0 = 43 → ¬ x0 = 44 → ¬ x0 = 45 → ¬ x0 = 46 → ¬ x0 = 47 → ¬ x0 = 48 → ¬ x0 = 49 → ¬ x0 = 50 → ¬ x0 = 51 → x0 = 52 → ¬ x1 = 0 → px_W E mX10_done (d + 1) 0 0 223 [.null, .null, .null] [] w Q)
    (k39 : ¬ x0 = 37 → ¬ x0 = 38 → ¬ x0 = 39 → ¬ x0 = 40 → ¬ x0 = 41 → ¬ x0 = 42 → ¬ x0 = 43 → ¬ x0 = 44 → ¬ x0 = 45 → ¬ x0 = 46 → ¬ x0 = 47 → ¬ x0 = 48 → ¬ x0 = 49 → ¬ x0 = 50 → ¬ x0 = 51 → x0 = 52 → x1 = 0 → x2 = 0 → px_W E mX10_done (d + 1) 0 0 228 [.null, .null, .null] [.int 0] w Q)
    (k40 : ¬ x0 = 37 → ¬ x0 = 38 → ¬ x0 = 39 → ¬ x0 = 40 → ¬ x0 = 41 → ¬ x0 = 42 → ¬ x0 = 43 → ¬ x0 = 44 → ¬ x0 = 45 → ¬ x0 = 46 → ¬ x0 = 47 → ¬ x0 = 48 → ¬ x0 = 49 → ¬ x0 = 50 → ¬ x0 = 51 → x0 = 52 → x1 = 0 → ¬ x2 = 0 → px_W E mX10_done (d + 1) 0 0 223 [.null, .null, .null] [] w Q)
    (k41 : ¬ x0 = 37 → ¬ x0 = 38 → ¬ x0 = 39 → ¬ x0 = 40 → ¬ x0 = 41 → ¬ x0 = 42 → ¬ x0 = 43 → ¬ x0 = 44 → ¬ x0 = 45 → ¬ x0 = 46 → ¬ x0 = 47 → ¬ x0 = 48 → ¬ x0 = 49 → ¬ x0 = 50 → ¬ x0 = 51 → ¬ x0 = 52 → x0 = 53 → ¬ x1 = 0 → px_W E mX10_done (d + 1) 0 0 223 [.null, .null, .null] [] w Q)
    (k42 : ¬ x0 = 37 → ¬ x0 = 38 → ¬ x0 = 39 → ¬ x0 = 40 → ¬ x0 = 41 → ¬ x0 = 42 → ¬ x0 = 43 → ¬ x0 = 44 → ¬ x0 = 45 → ¬ x0 = 46 → ¬ x0 = 47 → ¬ x0 = 48 → ¬ x0 = 49 → ¬ x0 = 50 → ¬ x0 = 51 → ¬ x0 = 52 → x0 = 53 → x1 = 0 → x2 = 0 → px_W E mX10_done (d + 1) 0 0 228 [.null, .null, .null] [.int 0] w Q)
    (k43 : ¬ x0 = 37 → ¬ x0 = 38 → ¬ x0 = 39 → ¬ x0 = 40 → ¬ x0 = 41 → ¬ x0 = 42 → ¬ x0 = 43 → ¬ x0 = 44 → ¬ x0 = 45 → ¬ x0 = 46 → ¬ x0 = 47 → ¬ x0 = 48 → ¬ x0 = 49 → ¬ x0 = 50 → ¬ x0 = 51 → ¬ x0 = 52 → x0 = 53 → x1 = 0 → ¬ x2 = 0 → px_W E mX10_done (d + 1) 0 0 223 [.null, .null, .null] [] w Q)
    (k44 : ¬ x0 = 37 → ¬ x0 = 38 → ¬ x0 = 39 → ¬ x0 = 40 → ¬ x0 = 41 → ¬ x0 = 42 → ¬ x0 = 43 → ¬ x0 = 44 → ¬ x0 = 45 → ¬ x0 = 46 → ¬ x0 = 47 → ¬ x0 = 48 → ¬ x0 = 49 → ¬ x0 = 50 → ¬ x0 = 51 → ¬ x0 = 52 → ¬ x0 = 53 → x0 = 54 → ¬ x1 = 0 → px_W E mX10_done (d + 1) 0 0 223 [.null, .null, .null] [] w Q)
    (k45 : ¬ x0 = 37 → ¬ x0 = 38 → ¬ x0 = 39 → ¬ x0 = 40 → ¬ x0 = 41 → ¬ x0 = 42 → ¬ x0 = 43 → ¬ x0 = 44 → ¬ x0 = 45 → ¬ x0 = 46 → ¬ x0 = 47 → ¬ x0 = 48 → ¬ x0 = 49 → ¬ x0 = 50 → ¬ x0 = 51 → ¬ x0 = 52 → ¬ x0 = 53 → x0 = 54 → x1 = 0 → x2 = 0 → px_W E mX10_done (d + 1) 0 0 228 [.null, .null, .null] [.int 0] w Q)
    (k46 : ¬ x0 = 37 → ¬ x0 = 38 → ¬ x0 = 39 → ¬ x0 = 40 → ¬ x0 = 41 → ¬ x0 = 42 → ¬ x0 = 43 → ¬ x0 = 44 → ¬ x0 = 45 → ¬ x0 = 46 → ¬ x0 = 47 → ¬ x0 = 48 → ¬ x0 = 49 → ¬ x0 = 50 → ¬ x0 = 51 → ¬ x0 = 52 → ¬ x0 = 53 → x0 = 54 → x1 = 0 → ¬ x2 = 0 → px_W E mX10_done (d + 1) 0 0 223 [.null, .null, .null] [] w Q)
    (k47 : ¬ x0 = 37 → ¬ x0 = 38 → ¬ x0 = 39 → ¬ x0 = 40 → ¬ x0 = 41 → ¬ x0 = 42 → ¬ x0 = 43 → ¬ x0 = 44 → ¬ x0 = 45 → ¬ x0 = 46 → ¬ x0 = 47 → ¬ x0 = 48 → ¬ x0 = 49 → ¬ x0 = 50 → ¬ x0 = 51 → ¬ x0 = 52 → ¬ x0 = 53 → ¬ x0 = 54 → x0 = 55 → ¬ x1 = 0 → px_W E mX10_done (d + 1) 0 0 223 [.null, .null, .null] [] w Q)
    (k48 : ¬ x0 = 37 → ¬ x0 = 38 → ¬ x0 = 39 → ¬ x0 = 40 → ¬ x0 = 41 → ¬ x0 = 42 → ¬ x0 = 43 → ¬ x0 = 44 → ¬ x0 = 45 → ¬ x0 = 46 → ¬ x0 = 47 → ¬ x0 = 48 → ¬ x0 = 49 → ¬ x0 = 50 → ¬ x0 = 51 → ¬ x0 = 52 → ¬ x0 = 53 → ¬ x0 = 54 → x0 = 55 → x1 = 0 → x2 = 0 → px_W E mX10_done (d + 1) 0 0 228 [.null, .null, .null] [.int 0] w Q)
    (k49 : ¬ x0 = 37 → ¬ x0 = 38 → ¬ x0 = 39 → ¬ x0 = 40 → ¬ x0 = 41 → ¬ x0 = 42 → ¬ x0 = 43 → ¬ x0 = 44 → ¬ x0 = 45 → ¬ x0 = 46 → ¬ x0 = 47 → ¬ x0 = 48 → ¬ x0 = 49 → ¬ x0 = 50 → ¬ x0 = 51 → ¬ x0 = 52 → ¬ x0 = 53 → ¬ x0 = 54 → x0 = 55 → x1 = 0 → ¬ x2 = 0 → px_W E mX10_done (d + 1) 0 0 223 [.null, .null, .null] [] w Q)
    (k50 : ¬ x0 = 37 → ¬ x0 = 38 → ¬ x0 = 39 → ¬ x0 = 40 → ¬ x0 = 41 → ¬ x0 = 42 → ¬ x0 = 43 → ¬ x0 = 44 → ¬ x0 = 45 → ¬ x0 = 46 → ¬ x0 = 47 → ¬ x0 = 48 → ¬ x0 = 49 → ¬ x0 = 50 → ¬ x0 = 51 → ¬ x0 = 52 → ¬ x0 = 53 → ¬ x0 = 54 → ¬ x0 = 55 → x0 = 56 → ¬ x1 = 0 → px_W E mX10_done (d + 1) 0 0 223 [.null, .null, .null] [] w Q)
    (k51 : ¬ x0 = 37 → ¬ x0 = 38 → ¬ x0 = 39 → ¬ x0 = 40 → ¬ x0 = 41 → ¬ x0 = 42 → ¬ x0 = 43 → ¬ x0 = 44 → ¬ x0 = 45 → ¬ x0 = 46 → ¬ x0 = 47 → ¬ x0 = 48 → ¬ x0 = 49 → ¬ x0 = 50 → ¬ x0 = 51 → ¬ x0 = 52 → ¬ x0 = 53 → ¬ x0 = 54 → ¬ x0 = 55 → x0 = 56 → x1 = 0 → x2 = 0 → px_W E mX10_done (d + 1) 0 0 228 [.null, .null, .null] [.int 0] w Q)
    (k52 : ¬ x0 = 37 → ¬ x0 = 38 → ¬ x0 = 39 → ¬ x0 = 40 → ¬ x0 = 41 → ¬ x0 = 42 → ¬ x0 = 43 → ¬ x0 = 44 → ¬ x0 = 45 → ¬ x0 = 46 → ¬ x0 = 47 → ¬ x0 = 48 → ¬ x0 = 49 → ¬ x0 = 50 → ¬ x0 = 51 → ¬ x0 = 52 → ¬ x0 = 53 → ¬ x0 = 54 → ¬ x0 = 55 → x0 = 56 → x1 = 0 → ¬ x2 = 0 → px_W E mX10_done (d + 1) 0 0 223 [.null, .null, .null] [] w Q)
    (k53 : ¬ x0 = 37 → ¬ x0 = 38 → ¬ x0 = 39 → ¬ x0 = 40 → ¬ x0 = 41 → ¬ x0 = 42 → ¬ x0 = 43 → ¬ x0 = 44 → ¬ x0 = 45 → ¬ x0 = 46 → ¬ x0 = 47 → ¬ x0 = 48 → ¬ x0 = 49 → ¬ x0 = 50 → ¬ x0 = 51 → ¬ x0 = 52 → ¬ x0 = 53 → ¬ x0 = 54 → ¬ x0 = 55 → ¬ x0 = 56 → x0 = 57 → ¬ x1 = 0 → px_W E mX10_done (d + 1) 0 0 223 [.null, .null, .null] [] w Q)
    (k54 : ¬ x0 = 37 → ¬ x0 = 38 → ¬ x0 = 39 → ¬ x0 = 40 → ¬ x0 = 41 → ¬ x0 = 42 → ¬ x0 = 43 → ¬ x0 = 44 → ¬ x0 = 45 → ¬ x0 = 46 → ¬ x0 = 47 → ¬ x0 = 48 → ¬ x0 = 49 → ¬ x0 = 50 → ¬ x0 = 51 → ¬ x0 = 52 → ¬ x0 = 53 → ¬ x0 = 54 → ¬ x0 = 55 → ¬ x0 = 56 → x0 = 57 → x1 = 0 → x2 = 0 → px_W E mX10_done (d + 1) 0 0 228 [.null, .null, .null] [.int 0] w Q)
    (k55 : ¬ x0 = 37 → ¬ x0 = 38 → ¬ x0 = 39 → ¬ x0 = 40 → ¬ x0 = 41 → ¬ x0 = 42 → ¬ x0 = 43 → ¬ x0 = 44 → ¬ x0 = 45 → ¬ x0 = 46 → ¬ x0 = 47 → ¬ x0 = 48 → ¬ x0 = 49 → ¬ x0 = 50 → ¬ x0 = 51 → ¬ x0 = 52 → ¬ x0 = 53 → ¬ x0 = 54 → ¬ x0 = 55 → ¬ x0 = 56 → x0 = 57 → x1 = 0 → ¬ x2 = 0 → px_W E mX10_done (d + 1) 0 0 223 [.null, .null, .null] [] w Q)
    (k56 : ¬ x0 = 37 → ¬ x0 = 38 → ¬ x0 = 39 → ¬ x0 = 40 → ¬ x0 = 41 → ¬ x0 = 42 → ¬ x0 = 43 → ¬ x0 = 44 → ¬ x0 = 45 → ¬ x0 = 46 → ¬ x0 = 47 → ¬ x0 = 48 → ¬ x0 = 49 → ¬ x0 = 50 → ¬ x0 = 51 → ¬ x0 = 52 → ¬ x0 = 53 → ¬ x0 = 54 → ¬ x0 = 55 → ¬ x0 = 56 → ¬ x0 = 57 → x0 = 58 → ¬ x1 = 0 → px_W E mX10_done (d + 1) 0 0 223 [.null, .null, .null] [] w Q)
    (k57 : ¬ x0 = 37 → ¬ x0 = 38 → ¬ x0 = 39 → ¬ x0 = 40 → ¬ x0 = 41 → ¬ x0 = 42 → ¬ x0 = 43 → ¬ x0 = 44 → ¬ x0 = 45 → ¬ x0 = 46 → ¬ x0 = 47 → ¬ x0 = 48 → ¬ x0 = 49 → ¬ x0 = 50 → ¬ x0 = 51 → ¬ x0 = 52 → ¬ x0 = 53 → ¬ x0 = 54 → ¬ x0 = 55 → ¬ x0 = 56 → ¬ x0 = 57 → x0 = 58 → x1 = 0 → x2 = 0 → px_W E mX10_done (d + 1) 0 0 228 [.null, .null, .null] [.int 0] w Q)
    (k58 : ¬ x0 = 37 → ¬ x0 = 38 → ¬ x0 = 39 → ¬ x0 = 40 → ¬ x0 = 41 → ¬ x0 = 42 → ¬ x0 = 43 → ¬ x0 = 44 → ¬ x0 = 45 → ¬ x0 = 46 → ¬ x0 = 47 → ¬ x0 = 48 → ¬ x0 = 49 → ¬ x0 = 50 → ¬ x0 = 51 → ¬ x0 = 52 → ¬ x0 = 53 → ¬ x0 = 54 → ¬ x0 = 55 → ¬ x0 = 56 → ¬ x0 = 57 → x0 = 58 → x1 = 0 → ¬ x2 = 0 → px_W E mX10_done (d + 1) 0 0 223 [.null, .null, .null] [] w Q)
    (k59 : ¬ x0 = 37 → ¬ x0 = 38 → ¬ x0 = 39 → ¬ x0 = 40 → ¬ x0 = 41 → ¬ x0 = 42 → ¬ x0 = 43 → ¬ x0 = 44 → ¬ x0 = 45 → ¬ x0 = 46 → ¬ x0 = 47 → ¬ x0 = 48 → ¬ x0 = 49 → ¬ x0 = 50 → ¬ x0 = 51 → ¬ x0 = 52 → ¬ x0 = 53 → ¬ x0 = 54 → ¬ x0 = 55 → ¬ x0 = 56 → ¬ x0 = 57 → ¬ x0 = 58 → x0 = 59 → ¬ x1 = 0 → px_W E mX10_done (d + 1) 0 0 223 [.null, .null, .null] [] w Q)
    (k60 : ¬ x0 = 37 → ¬ x0 = 38 → ¬ x0 = 39 → ¬ x0 = 40 → ¬ x0 = 41 → ¬ x0 = 42 → ¬ x0 = 43 → ¬ x0 = 44 → ¬ x0 = 45 → ¬ x0 = 46 → ¬ x0 = 47 → ¬ x0 = 48 → ¬ x0 = 49 → ¬ x0 = 50 → ¬ x0 = 51 → ¬ x0 = 52 → ¬ x0 = 53 → ¬ x0 = 54 → ¬ x0 = 55 → ¬ x0 = 56 → ¬ x0 = 57 → ¬ x0 = 58 → x0 = 59 → x1 = 0 → x2 = 0 → px_W E mX10_done (d + 1) 0 0 228 [.null, .null, .null] [.int 0] w Q)
    (k61 : ¬ x0 = 37 → ¬ x0 = 38 → ¬ x0 = 39 → ¬ x0 = 40 → ¬ x0 = 41 → ¬ x0 = 42 → ¬ x0 = 43 → ¬ x0 = 44 → ¬ x0 = 45 → ¬ x0 = 46 → ¬ x0 = 47 → ¬ x0 = 48 → ¬ x0 = 49 → ¬ x0 = 50 → ¬ x0 = 51 → ¬ x0 = 52 → ¬ x0 = 53 → ¬ x0 = 54 → ¬ x0 = 55 → ¬ x0 = 56 → ¬ x0 = 57 → ¬ x0 = 58 → x0 = 59 → x1 = 0 → ¬ x2 = 0 → px_W E mX10_done (d + 1) 0 0 223 [.null, .null, .null] [] w Q)
    (k62 : ¬ x0 = 37 → ¬ x0 = 38 → ¬ x0 = 39 → ¬ x0 = 40 → ¬ x0 = 41 → ¬ x0 = 42 → ¬ x0 = 43 → ¬ x0 = 44 → ¬ x0 = 45 → ¬ x0 = 46 → ¬ x0 = 47 → ¬ x0 = 48 → ¬ x0 = 49 → ¬ x0 = 50 → ¬ x0 = 51 → ¬ x0 = 52 → ¬ x0 = 53 → ¬ x0 = 54 → ¬ x0 = 55 → ¬ x0 = 56 → ¬ x0 = 57 → ¬ x0 = 58 → ¬ x0 = 59 → x0 = 60 → x2 ≤ x1 → px_W E mX10_done (d + 1) 0 0 166 [.null, .null, .null] [.int 0] w Q)
    (k63 : ¬ x0 = 37 → ¬ x0 = 38 → ¬ x0 = 39 → ¬ x0 = 40 → ¬ x0 = 41 → ¬ x0 = 42 → ¬ x0 = 43 → ¬ x0 = 44 → ¬ x0 = 45 → ¬ x0 = 46 → ¬ x0 = 47 → ¬ x0 = 48 → ¬ x0 = 49 → ¬ x0 = 50 → ¬ x0 = 51 → ¬ x0 = 52 → ¬ x0 = 53 → ¬ x0 = 54 → ¬ x0 = 55 → ¬ x0 = 56 → ¬ x0 = 57 → ¬ x0 = 58 → ¬ x0 = 59 → x0 = 60 → ¬ x2 ≤ x1 → px_W E mX10_done (d + 1) 0 0 166 [.null, .null, .null] [.int 1] w Q)
    (k64 : ¬ x0 = 37 → ¬ x0 = 38 → ¬ x0 = 39 → ¬ x0 = 40 → ¬ x0 = 41 → ¬ x0 = 42 → ¬ x0 = 43 → ¬ x0 = 44 → ¬ x0 = 45 → ¬ x0 = 46 → ¬ x0 = 47 → ¬ x0 = 48 → ¬ x0 = 49 → ¬ x0 = 50 → ¬ x0 = 51 → ¬ x0 = 52 → ¬ x0 = 53 → ¬ x0 = 54 → ¬ x0 = 55 → ¬ x0 = 56 → ¬ x0 = 57 → ¬ x0 = 58 → ¬ x0 = 59 → ¬ x0 = 60 → x0 = 61 → ¬ x1 = x2 → px_W E mX10_done (d + 1) 0 0 194 [.null, .null, .null] [.int 0] w Q)
    (k65 : ¬ x0 = 37 → ¬ x0 = 38 → ¬ x0 = 39 → ¬ x0 = 40 → ¬ x0 = 41 → ¬ x0 = 42 → ¬ x0 = 43 → ¬ x0 = 44 → ¬ x0 = 45 → ¬ x0 = 46 → ¬ x0 = 47 → ¬ x0 = 48 → ¬ x0 = 49 → ¬ x0 = 50 → ¬ x0 = 51 → ¬ x0 = 52 → ¬ x0 = 53 → ¬ x0 = 54 → ¬ x0 = 55 → ¬ x0 = 56 → ¬ x0 = 57 → ¬ x0 = 58 → ¬ x0 = 59 → ¬ x0 = 60 → x0 = 61 → x1 = x2 → px_W E mX10_done (d + 1) 0 0 194 [.null, .null, .null] [.int 1] w Q)
    (k66 : ¬ x0 = 37 → ¬ x0 = 38 → ¬ x0 = 39 → ¬ x0 = 40 → ¬ x0 = 41 → ¬ x0 = 42 → ¬ x0 = 43 → ¬ x0 = 44 → ¬ x0 = 45 → ¬ x0 = 46 → ¬ x0 = 47 → ¬ x0 = 48 → ¬ x0 = 49 → ¬ x0 = 50 → ¬ x0 = 51 → ¬ x0 = 52 → ¬ x0 = 53 → ¬ x0 = 54 → ¬ x0 = 55 → ¬ x0 = 56 → ¬ x0 = 57 → ¬ x0 = 58 → ¬ x0 = 59 → ¬ x0 = 60 → ¬ x0 = 61 → x0 = 62 → x1 ≤ x2 → px_W E mX10_done (d + 1) 0 0 180 [.null, .null, .null] [.int 0] w Q)
    (k67 : ¬ x0 = 37 → ¬ x0 = 38 → ¬ x0 = 39 → ¬ x0 = 40 → ¬ x0 = 41 → ¬ x0 = 42 → ¬ x0 = 43 → ¬ x0 = 44 → ¬ x0 = 45 → ¬ x0 = 46 → ¬ x0 = 47 → ¬ x0 = 48 → ¬ x0 = 49 → ¬ x0 = 50 → ¬ x0 = 51 → ¬ x0 = 52 → ¬ x0 = 53 → ¬ x0 = 54 → ¬ x0 = 55 → ¬ x0 = 56 → ¬ x0 = 57 → ¬ x0 = 58 → ¬ x0 = 59 → ¬ x0 = 60 → ¬ x0 = 61 → x0 = 62 → ¬ x1 ≤ x2 → px_W E mX10_done (d + 1) 0 0 180 [.null, .null, .null] [.int 1] w Q)
    (k68 : ¬ x0 = 37 → ¬ x0 = 38 → ¬ x0 = 39 → ¬ x0 = 40 → ¬ x0 = 41 → ¬ x0 = 42 → ¬ x0 = 43 → ¬ x0 = 44 → ¬ x0 = 45 → ¬ x0 = 46 → ¬ x0 = 47 → ¬ x0 = 48 → ¬ x0 = 49 → ¬ x0 = 50 → ¬ x0 = 51 → ¬ x0 = 52 → ¬ x0 = 53 → ¬ x0 = 54 → ¬ x0 = 55 → ¬ x0 = 56 → ¬ x0 = 57 → ¬ x0 = 58 → ¬ x0 = 59 → ¬ x0 = 60 → ¬ x0 = 61 → ¬ x0 = 62 → ¬ x1 = 0 → px_W E mX10_done (d + 1) 0 0 223 [.null, .null, .null] [] w Q)
    (k69 : ¬ x0 = 37 → ¬ x0 = 38 → ¬ x0 = 39 → ¬ x0 = 40 → ¬ x0 = 41 → ¬ x0 = 42 → ¬ x0 = 43 → ¬ x0 = 44 → ¬ x0 = 45 → ¬ x0 = 46 → ¬ x0 = 47 → ¬ x0 = 48 → ¬ x0 = 49 → ¬ x0 = 50 → ¬ x0 = 51 → ¬ x0 = 52 → ¬ x0 = 53 → ¬ x0 = 54 → ¬ x0 = 55 → ¬ x0 = 56 → ¬ x0 = 57 → ¬ x0 = 58 → ¬ x0 = 59 → ¬ x0 = 60 → ¬ x0 = 61 → ¬ x0 = 62 → x1 = 0 → x2 = 0 → px_W E mX10_done (d + 1) 0 0 228 [.null, .null, .null] [.int 0] w Q)
    (k70 : ¬ x0 = 37 → ¬ x0 = 38 → ¬ x0 = 39 → ¬ x0 = 40 → ¬ x0 = 41 → ¬ x0 = 42 → ¬ x0 = 43 → ¬ x0 = 44 → ¬ x0 = 45 → ¬ x0 = 46 → ¬ x0 = 47 → ¬ x0 = 48 → ¬ x0 = 49 → ¬ x0 = 50 → ¬ x0 = 51 → ¬ x0 = 52 → ¬ x0 = 53 → ¬ x0 = 54 → ¬ x0 = 55 → ¬ x0 = 56 → ¬ x0 = 57 → ¬ x0 = 58 → ¬ x0 = 59 → ¬ x0 = 60 → ¬ x0 = 61 → ¬ x0 = 62 → x1 = 0 → ¬ x2 = 0 → px_W E mX10_done (d + 1) 0 0 223 [.null, .null, .null] [] w Q) :
    px_Call E (d + 1) 0 0 mX10_done [.int x0, .int x1, .int x2] w Q :=
  px_enter (k := 0) (by decide) (Nat.le_of_ble_eq_true rfl) rfl (px_forget (bX10_done_0 k1 k2 k3 k4 k5 k6 k7 k8 k9 k10 k11 k12 k13 k14 k15 k16 k17 k18 k19 k20 k21 k22 k23 k24 k25 k26 k27 k28 k29 k30 k31 k32 k33 k34 k35 k36 k37 k38 k39 k40 k41 k42 k43 k44 k45 k46 k47 k48 k49 k50 k51 k52 k53 k54 k55 k56 k57 k58 k59 k60 k61 k62 k63 k64 k65 k66 k67 k68 k69 k70) ⟨Or.inr rfl, Or.inr rfl, Or.inr rfl, trivial⟩)
theorem bX10_done_140 {E : px_E} {d : Nat} {w : pw_W} {Q : Option Value → pw_W → Prop} {x1 x2 : Int32}  (hz1 : ¬ x2 = 0)
    (k1 : px_W E mX10_done (d + 1) 0 0 143 [.null, .null, .null] [.int (x1 / x2)] w Q) :
    px_W E mX10_done (d + 1) 0 0 140 [.null, .int x1, .int x2] [] w Q := by
  refine px_iload_n dX10_done_140 rfl rfl ?_
  refine px_iload_n dX10_done_141 rfl rfl ?_
  refine px_idiv dX10_done_142 hz1 ?_
  exact px_forget k1 ⟨Or.inl rfl, Or.inl rfl, Or.inl rfl, trivial⟩
theorem bX10_done_143 {E : px_E} {d : Nat} {w : pw_W} {Q : Option Value → pw_W → Prop} {y0 : Int32}  
    (k1 : Q (some (.int y0)) w) :
    px_W E mX10_done (d + 1) 0 0 143 [.null, .null, .null] [.int y0] w Q := by
  exact px_ireturn dX10_done_143 rfl rfl k1
theorem bX10_done_152 {E : px_E} {d : Nat} {w : pw_W} {Q : Option Value → pw_W → Prop} {x1 x2 : Int32}  (hz1 : ¬ x2 = 0)
    (k1 : px_W E mX10_done (d + 1) 0 0 155 [.null, .null, .null] [.int (js_rem x1 x2)] w Q) :
    px_W E mX10_done (d + 1) 0 0 152 [.null, .int x1, .int x2] [] w Q := by
  refine px_iload_n dX10_done_152 rfl rfl ?_
  refine px_iload_n dX10_done_153 rfl rfl ?_
  refine px_irem dX10_done_154 hz1 ?_
  exact px_forget k1 ⟨Or.inl rfl, Or.inl rfl, Or.inl rfl, trivial⟩
theorem bX10_done_155 {E : px_E} {d : Nat} {w : pw_W} {Q : Option Value → pw_W → Prop} {y0 : Int32}  
    (k1 : Q (some (.int y0)) w) :
    px_W E mX10_done (d + 1) 0 0 155 [.null, .null, .null] [.int y0] w Q := by
  exact px_ireturn dX10_done_155 rfl rfl k1
theorem bX10_done_166 {E : px_E} {d : Nat} {w : pw_W} {Q : Option Value → pw_W → Prop} {y0 : Int32}  
    (k1 : px_Call E d 0 0 mX10_truth [.int y0] w (fun v w' => px_W E mX10_done (d + 1) 0 0 169 [.null, .null, .null] (v.toList ++ []) w' Q)) :
    px_W E mX10_done (d + 1) 0 0 166 [.null, .null, .null] [.int y0] w Q := by
  exact px_callS (As := [.int y0]) (st := []) (rc := 0) (rs := 0) (mc := 0) (ms := 0) dX10_done_166 lk_10_332 rfl rfl (Nat.le_of_ble_eq_true rfl) k1
theorem bX10_done_169 {E : px_E} {d : Nat} {w : pw_W} {Q : Option Value → pw_W → Prop} {y0 : Int32}  
    (k1 : Q (some (.int y0)) w) :
    px_W E mX10_done (d + 1) 0 0 169 [.null, .null, .null] [.int y0] w Q := by
  exact px_ireturn dX10_done_169 rfl rfl k1
theorem bX10_done_180 {E : px_E} {d : Nat} {w : pw_W} {Q : Option Value → pw_W → Prop} {y0 : Int32}  
    (k1 : px_Call E d 0 0 mX10_truth [.int y0] w (fun v w' => px_W E mX10_done (d + 1) 0 0 183 [.null, .null, .null] (v.toList ++ []) w' Q)) :
    px_W E mX10_done (d + 1) 0 0 180 [.null, .null, .null] [.int y0] w Q := by
  exact px_callS (As := [.int y0]) (st := []) (rc := 0) (rs := 0) (mc := 0) (ms := 0) dX10_done_180 lk_10_332 rfl rfl (Nat.le_of_ble_eq_true rfl) k1
theorem bX10_done_183 {E : px_E} {d : Nat} {w : pw_W} {Q : Option Value → pw_W → Prop} {y0 : Int32}  
    (k1 : Q (some (.int y0)) w) :
    px_W E mX10_done (d + 1) 0 0 183 [.null, .null, .null] [.int y0] w Q := by
  exact px_ireturn dX10_done_183 rfl rfl k1
theorem bX10_done_194 {E : px_E} {d : Nat} {w : pw_W} {Q : Option Value → pw_W → Prop} {y0 : Int32}  
    (k1 : px_Call E d 0 0 mX10_truth [.int y0] w (fun v w' => px_W E mX10_done (d + 1) 0 0 197 [.null, .null, .null] (v.toList ++ []) w' Q)) :
    px_W E mX10_done (d + 1) 0 0 194 [.null, .null, .null] [.int y0] w Q := by
  exact px_callS (As := [.int y0]) (st := []) (rc := 0) (rs := 0) (mc := 0) (ms := 0) dX10_done_194 lk_10_332 rfl rfl (Nat.le_of_ble_eq_true rfl) k1
theorem bX10_done_197 {E : px_E} {d : Nat} {w : pw_W} {Q : Option Value → pw_W → Prop} {y0 : Int32}  
    (k1 : Q (some (.int y0)) w) :
    px_W E mX10_done (d + 1) 0 0 197 [.null, .null, .null] [.int y0] w Q := by
  exact px_ireturn dX10_done_197 rfl rfl k1
theorem bX10_done_210 {E : px_E} {d : Nat} {w : pw_W} {Q : Option Value → pw_W → Prop}  
    (k1 : px_W E mX10_done (d + 1) 0 0 211 [.null, .null, .null] [.int 0] w Q) :
    px_W E mX10_done (d + 1) 0 0 210 [.null, .null, .null] [] w Q := by
  refine px_iconst dX10_done_210 ic_0 ?_
  exact k1
theorem bX10_done_211 {E : px_E} {d : Nat} {w : pw_W} {Q : Option Value → pw_W → Prop} {y0 : Int32}  
    (k1 : px_Call E d 0 0 mX10_truth [.int y0] w (fun v w' => px_W E mX10_done (d + 1) 0 0 214 [.null, .null, .null] (v.toList ++ []) w' Q)) :
    px_W E mX10_done (d + 1) 0 0 211 [.null, .null, .null] [.int y0] w Q := by
  exact px_callS (As := [.int y0]) (st := []) (rc := 0) (rs := 0) (mc := 0) (ms := 0) dX10_done_211 lk_10_332 rfl rfl (Nat.le_of_ble_eq_true rfl) k1
theorem bX10_done_214 {E : px_E} {d : Nat} {w : pw_W} {Q : Option Value → pw_W → Prop} {y0 : Int32}  
    (k1 : Q (some (.int y0)) w) :
    px_W E mX10_done (d + 1) 0 0 214 [.null, .null, .null] [.int y0] w Q := by
  exact px_ireturn dX10_done_214 rfl rfl k1
theorem bX10_done_223 {E : px_E} {d : Nat} {w : pw_W} {Q : Option Value → pw_W → Prop}  
    (k1 : px_W E mX10_done (d + 1) 0 0 228 [.null, .null, .null] [.int 1] w Q) :
    px_W E mX10_done (d + 1) 0 0 223 [.null, .null, .null] [] w Q := by
  refine px_iconst dX10_done_223 ic_1 ?_
  refine px_goto (tgt := 228) dX10_done_224 (by decide) ?_
  exact k1
theorem bX10_done_228 {E : px_E} {d : Nat} {w : pw_W} {Q : Option Value → pw_W → Prop} {y0 : Int32}  
    (k1 : px_Call E d 0 0 mX10_truth [.int y0] w (fun v w' => px_W E mX10_done (d + 1) 0 0 231 [.null, .null, .null] (v.toList ++ []) w' Q)) :
    px_W E mX10_done (d + 1) 0 0 228 [.null, .null, .null] [.int y0] w Q := by
  exact px_callS (As := [.int y0]) (st := []) (rc := 0) (rs := 0) (mc := 0) (ms := 0) dX10_done_228 lk_10_332 rfl rfl (Nat.le_of_ble_eq_true rfl) k1
theorem bX10_done_231 {E : px_E} {d : Nat} {w : pw_W} {Q : Option Value → pw_W → Prop} {y0 : Int32}  
    (k1 : Q (some (.int y0)) w) :
    px_W E mX10_done (d + 1) 0 0 231 [.null, .null, .null] [.int y0] w Q := by
  exact px_ireturn dX10_done_231 rfl rfl k1
theorem dX10_formula_0 : decode mX10_formula.2.1 0 = .ok (.aload_n 0, 1) := by decide +kernel
theorem dX10_formula_1 : decode mX10_formula.2.1 1 = .ok (.invokevirtual 251, 3) := by decide +kernel
theorem dX10_formula_4 : decode mX10_formula.2.1 4 = .ok (.aload_n 0, 1) := by decide +kernel
theorem dX10_formula_5 : decode mX10_formula.2.1 5 = .ok (.iconst 1, 1) := by decide +kernel
theorem dX10_formula_6 : decode mX10_formula.2.1 6 = .ok (.putfield 313, 3) := by decide +kernel
theorem dX10_formula_9 : decode mX10_formula.2.1 9 = .ok (.aload_n 0, 1) := by decide +kernel
theorem dX10_formula_10 : decode mX10_formula.2.1 10 = .ok (.iconst 0, 1) := by decide +kernel
theorem dX10_formula_11 : decode mX10_formula.2.1 11 = .ok (.putfield 275, 3) := by decide +kernel
theorem dX10_formula_14 : decode mX10_formula.2.1 14 = .ok (.aload_n 0, 1) := by decide +kernel
theorem dX10_formula_15 : decode mX10_formula.2.1 15 = .ok (.iconst 0, 1) := by decide +kernel
theorem dX10_formula_16 : decode mX10_formula.2.1 16 = .ok (.putfield 278, 3) := by decide +kernel
theorem dX10_formula_19 : decode mX10_formula.2.1 19 = .ok (.aload_n 0, 1) := by decide +kernel
theorem dX10_formula_20 : decode mX10_formula.2.1 20 = .ok (.iconst 0, 1) := by decide +kernel
theorem dX10_formula_21 : decode mX10_formula.2.1 21 = .ok (.putfield 288, 3) := by decide +kernel
theorem dX10_formula_24 : decode mX10_formula.2.1 24 = .ok (.aload_n 0, 1) := by decide +kernel
theorem dX10_formula_25 : decode mX10_formula.2.1 25 = .ok (.iconst 0, 1) := by decide +kernel
theorem dX10_formula_26 : decode mX10_formula.2.1 26 = .ok (.putfield 294, 3) := by decide +kernel
theorem dX10_formula_29 : decode mX10_formula.2.1 29 = .ok (.aload_n 0, 1) := by decide +kernel
theorem dX10_formula_30 : decode mX10_formula.2.1 30 = .ok (.invokevirtual 317, 3) := by decide +kernel
theorem dX10_formula_33 : decode mX10_formula.2.1 33 = .ok (.iconst 1, 1) := by decide +kernel
theorem dX10_formula_34 : decode mX10_formula.2.1 34 = .ok (.istore_n 1, 1) := by decide +kernel
theorem dX10_formula_35 : decode mX10_formula.2.1 35 = .ok (.iload_n 1, 1) := by decide +kernel
theorem dX10_formula_36 : decode mX10_formula.2.1 36 = .ok (.ifCond .eq 126, 3) := by decide +kernel
theorem dX10_formula_39 : decode mX10_formula.2.1 39 = .ok (.aload_n 0, 1) := by decide +kernel
theorem dX10_formula_40 : decode mX10_formula.2.1 40 = .ok (.getfield 197, 3) := by decide +kernel
theorem dX10_formula_43 : decode mX10_formula.2.1 43 = .ok (.ifCond .ne 119, 3) := by decide +kernel
theorem dX10_formula_46 : decode mX10_formula.2.1 46 = .ok (.aload_n 0, 1) := by decide +kernel
theorem dX10_formula_47 : decode mX10_formula.2.1 47 = .ok (.invokevirtual 320, 3) := by decide +kernel
theorem dX10_formula_50 : decode mX10_formula.2.1 50 = .ok (.istore_n 2, 1) := by decide +kernel
theorem dX10_formula_51 : decode mX10_formula.2.1 51 = .ok (.aload_n 0, 1) := by decide +kernel
theorem dX10_formula_52 : decode mX10_formula.2.1 52 = .ok (.getfield 184, 3) := by decide +kernel
theorem dX10_formula_55 : decode mX10_formula.2.1 55 = .ok (.bipush 41, 2) := by decide +kernel
theorem dX10_formula_57 : decode mX10_formula.2.1 57 = .ok (.if_icmp .ne 42, 3) := by decide +kernel
theorem dX10_formula_60 : decode mX10_formula.2.1 60 = .ok (.aload_n 0, 1) := by decide +kernel
theorem dX10_formula_61 : decode mX10_formula.2.1 61 = .ok (.invokevirtual 323, 3) := by decide +kernel
theorem dX10_formula_64 : decode mX10_formula.2.1 64 = .ok (.ifCond .eq 35, 3) := by decide +kernel
theorem dX10_formula_67 : decode mX10_formula.2.1 67 = .ok (.aload_n 0, 1) := by decide +kernel
theorem dX10_formula_68 : decode mX10_formula.2.1 68 = .ok (.iconst 0, 1) := by decide +kernel
theorem dX10_formula_69 : decode mX10_formula.2.1 69 = .ok (.invokevirtual 326, 3) := by decide +kernel
theorem dX10_formula_72 : decode mX10_formula.2.1 72 = .ok (.aload_n 0, 1) := by decide +kernel
theorem dX10_formula_73 : decode mX10_formula.2.1 73 = .ok (.dup, 1) := by decide +kernel
theorem dX10_formula_74 : decode mX10_formula.2.1 74 = .ok (.getfield 278, 3) := by decide +kernel
theorem dX10_formula_77 : decode mX10_formula.2.1 77 = .ok (.iconst 1, 1) := by decide +kernel
theorem dX10_formula_78 : decode mX10_formula.2.1 78 = .ok (.isub, 1) := by decide +kernel
theorem dX10_formula_79 : decode mX10_formula.2.1 79 = .ok (.putfield 278, 3) := by decide +kernel
theorem dX10_formula_82 : decode mX10_formula.2.1 82 = .ok (.aload_n 0, 1) := by decide +kernel
theorem dX10_formula_83 : decode mX10_formula.2.1 83 = .ok (.dup, 1) := by decide +kernel
theorem dX10_formula_84 : decode mX10_formula.2.1 84 = .ok (.getfield 288, 3) := by decide +kernel
theorem dX10_formula_87 : decode mX10_formula.2.1 87 = .ok (.iconst 1, 1) := by decide +kernel
theorem dX10_formula_88 : decode mX10_formula.2.1 88 = .ok (.isub, 1) := by decide +kernel
theorem dX10_formula_89 : decode mX10_formula.2.1 89 = .ok (.putfield 288, 3) := by decide +kernel
theorem dX10_formula_92 : decode mX10_formula.2.1 92 = .ok (.aload_n 0, 1) := by decide +kernel
theorem dX10_formula_93 : decode mX10_formula.2.1 93 = .ok (.invokevirtual 251, 3) := by decide +kernel
theorem dX10_formula_96 : decode mX10_formula.2.1 96 = .ok (.goto 63, 3) := by decide +kernel
theorem dX10_formula_99 : decode mX10_formula.2.1 99 = .ok (.iload_n 2, 1) := by decide +kernel
theorem dX10_formula_100 : decode mX10_formula.2.1 100 = .ok (.ifCond .eq 57, 3) := by decide +kernel
theorem dX10_formula_103 : decode mX10_formula.2.1 103 = .ok (.iload_n 2, 1) := by decide +kernel
theorem dX10_formula_104 : decode mX10_formula.2.1 104 = .ok (.invokestatic 281, 3) := by decide +kernel
theorem dX10_formula_107 : decode mX10_formula.2.1 107 = .ok (.iconst 4, 1) := by decide +kernel
theorem dX10_formula_108 : decode mX10_formula.2.1 108 = .ok (.if_icmp .ne 10, 3) := by decide +kernel
theorem dX10_formula_111 : decode mX10_formula.2.1 111 = .ok (.aload_n 0, 1) := by decide +kernel
theorem dX10_formula_112 : decode mX10_formula.2.1 112 = .ok (.invokevirtual 329, 3) := by decide +kernel
theorem dX10_formula_115 : decode mX10_formula.2.1 115 = .ok (.ifCond .ne 42, 3) := by decide +kernel
theorem dX10_formula_118 : decode mX10_formula.2.1 118 = .ok (.aload_n 0, 1) := by decide +kernel
theorem dX10_formula_119 : decode mX10_formula.2.1 119 = .ok (.iload_n 2, 1) := by decide +kernel
theorem dX10_formula_120 : decode mX10_formula.2.1 120 = .ok (.invokestatic 281, 3) := by decide +kernel
theorem dX10_formula_123 : decode mX10_formula.2.1 123 = .ok (.invokevirtual 326, 3) := by decide +kernel
theorem dX10_formula_126 : decode mX10_formula.2.1 126 = .ok (.aload_n 0, 1) := by decide +kernel
theorem dX10_formula_127 : decode mX10_formula.2.1 127 = .ok (.getfield 33, 3) := by decide +kernel
theorem dX10_formula_130 : decode mX10_formula.2.1 130 = .ok (.aload_n 0, 1) := by decide +kernel
theorem dX10_formula_131 : decode mX10_formula.2.1 131 = .ok (.getfield 278, 3) := by decide +kernel
theorem dX10_formula_134 : decode mX10_formula.2.1 134 = .ok (.iload_n 2, 1) := by decide +kernel
theorem dX10_formula_135 : decode mX10_formula.2.1 135 = .ok (.iastore, 1) := by decide +kernel
theorem dX10_formula_136 : decode mX10_formula.2.1 136 = .ok (.aload_n 0, 1) := by decide +kernel
theorem dX10_formula_137 : decode mX10_formula.2.1 137 = .ok (.dup, 1) := by decide +kernel
theorem dX10_formula_138 : decode mX10_formula.2.1 138 = .ok (.getfield 278, 3) := by decide +kernel
theorem dX10_formula_141 : decode mX10_formula.2.1 141 = .ok (.iconst 1, 1) := by decide +kernel
theorem dX10_formula_142 : decode mX10_formula.2.1 142 = .ok (.iadd, 1) := by decide +kernel
theorem dX10_formula_143 : decode mX10_formula.2.1 143 = .ok (.putfield 278, 3) := by decide +kernel
theorem dX10_formula_146 : decode mX10_formula.2.1 146 = .ok (.aload_n 0, 1) := by decide +kernel
theorem dX10_formula_147 : decode mX10_formula.2.1 147 = .ok (.invokevirtual 251, 3) := by decide +kernel
theorem dX10_formula_150 : decode mX10_formula.2.1 150 = .ok (.aload_n 0, 1) := by decide +kernel
theorem dX10_formula_151 : decode mX10_formula.2.1 151 = .ok (.invokevirtual 317, 3) := by decide +kernel
theorem dX10_formula_154 : decode mX10_formula.2.1 154 = .ok (.goto 5, 3) := by decide +kernel
theorem dX10_formula_157 : decode mX10_formula.2.1 157 = .ok (.iconst 0, 1) := by decide +kernel
theorem dX10_formula_158 : decode mX10_formula.2.1 158 = .ok (.istore_n 1, 1) := by decide +kernel
theorem dX10_formula_159 : decode mX10_formula.2.1 159 = .ok (.goto (-124), 3) := by decide +kernel
theorem dX10_formula_162 : decode mX10_formula.2.1 162 = .ok (.aload_n 0, 1) := by decide +kernel
theorem dX10_formula_163 : decode mX10_formula.2.1 163 = .ok (.getfield 197, 3) := by decide +kernel
theorem dX10_formula_166 : decode mX10_formula.2.1 166 = .ok (.ifCond .ne 15, 3) := by decide +kernel
theorem dX10_formula_169 : decode mX10_formula.2.1 169 = .ok (.aload_n 0, 1) := by decide +kernel
theorem dX10_formula_170 : decode mX10_formula.2.1 170 = .ok (.invokevirtual 323, 3) := by decide +kernel
theorem dX10_formula_173 : decode mX10_formula.2.1 173 = .ok (.ifCond .eq 8, 3) := by decide +kernel
theorem dX10_formula_176 : decode mX10_formula.2.1 176 = .ok (.aload_n 0, 1) := by decide +kernel
theorem dX10_formula_177 : decode mX10_formula.2.1 177 = .ok (.iconst 2, 1) := by decide +kernel
theorem dX10_formula_178 : decode mX10_formula.2.1 178 = .ok (.invokevirtual 248, 3) := by decide +kernel
theorem dX10_formula_181 : decode mX10_formula.2.1 181 = .ok (.aload_n 0, 1) := by decide +kernel
theorem dX10_formula_182 : decode mX10_formula.2.1 182 = .ok (.getfield 197, 3) := by decide +kernel
theorem dX10_formula_185 : decode mX10_formula.2.1 185 = .ok (.ifCond .ne 8, 3) := by decide +kernel
theorem dX10_formula_188 : decode mX10_formula.2.1 188 = .ok (.aload_n 0, 1) := by decide +kernel
theorem dX10_formula_189 : decode mX10_formula.2.1 189 = .ok (.iconst 0, 1) := by decide +kernel
theorem dX10_formula_190 : decode mX10_formula.2.1 190 = .ok (.invokevirtual 326, 3) := by decide +kernel
theorem dX10_formula_193 : decode mX10_formula.2.1 193 = .ok (.return_, 1) := by decide +kernel
theorem bX10_formula_0 {E : px_E} {d : Nat} {w : pw_W} {Q : Option Value → pw_W → Prop} {t : ct_T} (hw : w.1 = cs t)  
    (k1 : px_Call E d 0 0 mX10_token [.ref 61] w (fun v w' => px_W E mX10_formula (d + 1) 0 0 4 [.ref 61, .null, .null] (v.toList ++ []) w' Q)) :
    px_W E mX10_formula (d + 1) 0 0 0 [.ref 61, .null, .null] [] w Q := by
  refine px_aload_n dX10_formula_0 rfl rfl ?_
  exact px_callV (As := []) (st := []) (rc := 0) (rs := 0) (mc := 0) (ms := 0) dX10_formula_1 lk_10_251 (px_sh1 hw sh_61) rfl rfl (Nat.le_of_ble_eq_true rfl) k1
theorem eX10_formula {E : px_E} {d : Nat} {w : pw_W} {Q : Option Value → pw_W → Prop} {t : ct_T} (hw : w.1 = cs t)  
    (k1 : px_Call E d 0 0 mX10_token [.ref 61] w (fun v w' => px_W E mX10_formula (d + 1) 0 0 4 [.ref 61, .null, .null] (v.toList ++ []) w' Q)) :
    px_Call E (d + 1) 0 0 mX10_formula [.ref 61] w Q :=
  px_enter (k := 2) (by decide) (Nat.le_of_ble_eq_true rfl) rfl (px_forget (bX10_formula_0 hw k1) ⟨Or.inr rfl, Or.inl rfl, Or.inl rfl, trivial⟩)
theorem bX10_formula_4 {E : px_E} {d : Nat} {w : pw_W} {Q : Option Value → pw_W → Prop} {t : ct_T} (hw : w.1 = cs t)  
    (k1 : px_Call E d 0 0 mX10_unit [.ref 61] (pw_sI (pw_sI (pw_sI (pw_sI (pw_sI w 61 24 1) 61 17 0) 61 19 0) 61 23 0) 61 22 0) (fun v w' => px_W E mX10_formula (d + 1) 0 0 33 [.ref 61, .null, .null] (v.toList ++ []) w' Q)) :
    px_W E mX10_formula (d + 1) 0 0 4 [.ref 61, .null, .null] [] w Q := by
  refine px_aload_n dX10_formula_4 rfl rfl ?_
  refine px_iconst dX10_formula_5 ic_1 ?_
  refine px_putI dX10_formula_6 fl_10_313 (Or.inl rfl) rfl (px_sh1 hw sh_61) (by decide) (by decide) (by omega) ?_
  refine px_aload_n dX10_formula_9 rfl rfl ?_
  refine px_iconst dX10_formula_10 ic_0 ?_
  refine px_putI dX10_formula_11 fl_10_275 (Or.inl rfl) rfl (px_sh1 hw sh_61) rfl rfl (by omega) ?_
  refine px_aload_n dX10_formula_14 rfl rfl ?_
  refine px_iconst dX10_formula_15 ic_0 ?_
  refine px_putI dX10_formula_16 fl_10_278 (Or.inl rfl) rfl (px_sh1 hw sh_61) rfl rfl (by omega) ?_
  refine px_aload_n dX10_formula_19 rfl rfl ?_
  refine px_iconst dX10_formula_20 ic_0 ?_
  refine px_putI dX10_formula_21 fl_10_288 (Or.inl rfl) rfl (px_sh1 hw sh_61) rfl rfl (by omega) ?_
  refine px_aload_n dX10_formula_24 rfl rfl ?_
  refine px_iconst dX10_formula_25 ic_0 ?_
  refine px_putI dX10_formula_26 fl_10_294 (Or.inl rfl) rfl (px_sh1 hw sh_61) rfl rfl (by omega) ?_
  refine px_aload_n dX10_formula_29 rfl rfl ?_
  exact px_callV (As := []) (st := []) (rc := 0) (rs := 0) (mc := 0) (ms := 0) dX10_formula_30 lk_10_317 (px_sh1 hw sh_61) rfl rfl (Nat.le_of_ble_eq_true rfl) k1
theorem bX10_formula_33 {E : px_E} {d : Nat} {w : pw_W} {Q : Option Value → pw_W → Prop}  
    (k1 : px_W E mX10_formula (d + 1) 0 0 35 [.ref 61, .int 1, .null] [] w Q) :
    px_W E mX10_formula (d + 1) 0 0 33 [.ref 61, .null, .null] [] w Q := by
  refine px_iconst dX10_formula_33 ic_1 ?_
  refine px_istore_n (ls' := [.ref 61, .int 1, .null]) dX10_formula_34 rfl ⟨by decide, rfl⟩ rfl ?_
  exact k1
theorem bX10_formula_35 {E : px_E} {d : Nat} {w : pw_W} {Q : Option Value → pw_W → Prop} {t : ct_T} (hw : w.1 = cs t) {x1 : Int32}  
    (k1 : x1 = 0 → px_W E mX10_formula (d + 1) 0 0 162 [.ref 61, .null, .null] [] w Q)
    (k2 : ¬ x1 = 0 → ¬ (pw_I w 61 2) = 0 → px_W E mX10_formula (d + 1) 0 0 162 [.ref 61, .null, .null] [] w Q)
    (k3 : ¬ x1 = 0 → (pw_I w 61 2) = 0 → px_Call E d 0 0 mX10_sign [.ref 61] w (fun v w' => px_W E mX10_formula (d + 1) 0 0 50 [.ref 61, .int x1, .null] (v.toList ++ []) w' Q)) :
    px_W E mX10_formula (d + 1) 0 0 35 [.ref 61, .int x1, .null] [] w Q := by
  refine px_iload_n dX10_formula_35 rfl rfl ?_
  refine px_if_eq (tgt := 162) dX10_formula_36 (by decide) (fun h1 => ?_) (fun h1 => ?_)
  ·
    exact px_forget (k1 h1) ⟨Or.inr rfl, Or.inl rfl, Or.inl rfl, trivial⟩
  ·
    refine px_aload_n dX10_formula_39 rfl rfl ?_
    refine px_getI dX10_formula_40 fr_10_197 rfl (px_sh1 hw sh_61) ?_
    refine px_if_ne (tgt := 162) dX10_formula_43 (by decide) (fun h2 => ?_) (fun h2 => ?_)
    ·
      exact px_forget (k2 h1 h2) ⟨Or.inr rfl, Or.inl rfl, Or.inl rfl, trivial⟩
    ·
      refine px_aload_n dX10_formula_46 rfl rfl ?_
      exact px_callV (As := []) (st := []) (rc := 0) (rs := 0) (mc := 0) (ms := 0) dX10_formula_47 lk_10_320 (px_sh1 hw sh_61) rfl rfl (Nat.le_of_ble_eq_true rfl) (k3 h1 h2)
theorem bX10_formula_50 {E : px_E} {d : Nat} {w : pw_W} {Q : Option Value → pw_W → Prop} {t : ct_T} (hw : w.1 = cs t) {x1 y0 : Int32}  
    (k1 : ¬ (pw_I w 61 6) = 41 → px_W E mX10_formula (d + 1) 0 0 99 [.ref 61, .int x1, .int y0] [] w Q)
    (k2 : (pw_I w 61 6) = 41 → px_Call E d 0 0 mX10_hasBracket [.ref 61] w (fun v w' => px_W E mX10_formula (d + 1) 0 0 64 [.ref 61, .int x1, .int y0] (v.toList ++ []) w' Q)) :
    px_W E mX10_formula (d + 1) 0 0 50 [.ref 61, .int x1, .null] [.int y0] w Q := by
  refine px_istore_n (ls' := [.ref 61, .int x1, .int y0]) dX10_formula_50 rfl ⟨by decide, rfl⟩ rfl ?_
  refine px_aload_n dX10_formula_51 rfl rfl ?_
  refine px_getI dX10_formula_52 fr_10_184 rfl (px_sh1 hw sh_61) ?_
  refine px_bipush dX10_formula_55 bp_41 ?_
  refine px_icmp_ne (tgt := 99) dX10_formula_57 (by decide) (fun h1 => ?_) (fun h1 => ?_)
  ·
    exact (k1 h1)
  ·
    refine px_aload_n dX10_formula_60 rfl rfl ?_
    exact px_callV (As := []) (st := []) (rc := 0) (rs := 0) (mc := 0) (ms := 0) dX10_formula_61 lk_10_323 (px_sh1 hw sh_61) rfl rfl (Nat.le_of_ble_eq_true rfl) (k2 h1)
theorem bX10_formula_64 {E : px_E} {d : Nat} {w : pw_W} {Q : Option Value → pw_W → Prop} {t : ct_T} (hw : w.1 = cs t) {x1 x2 y0 : Int32}  
    (k1 : y0 = 0 → px_W E mX10_formula (d + 1) 0 0 99 [.ref 61, .int x1, .int x2] [] w Q)
    (k2 : ¬ y0 = 0 → px_Call E d 0 0 mX10_close [.ref 61, .int 0] w (fun v w' => px_W E mX10_formula (d + 1) 0 0 72 [.ref 61, .int x1, .null] (v.toList ++ []) w' Q)) :
    px_W E mX10_formula (d + 1) 0 0 64 [.ref 61, .int x1, .int x2] [.int y0] w Q := by
  refine px_if_eq (tgt := 99) dX10_formula_64 (by decide) (fun h1 => ?_) (fun h1 => ?_)
  ·
    exact (k1 h1)
  ·
    refine px_aload_n dX10_formula_67 rfl rfl ?_
    refine px_iconst dX10_formula_68 ic_0 ?_
    refine px_forget (ls' := [.ref 61, .int x1, .null]) ?_ ⟨Or.inr rfl, Or.inr rfl, Or.inl rfl, trivial⟩
    exact px_callV (As := [.int 0]) (st := []) (rc := 0) (rs := 0) (mc := 0) (ms := 0) dX10_formula_69 lk_10_326 (px_sh1 hw sh_61) rfl rfl (Nat.le_of_ble_eq_true rfl) (k2 h1)
theorem bX10_formula_72 {E : px_E} {d : Nat} {w : pw_W} {Q : Option Value → pw_W → Prop} {t : ct_T} (hw : w.1 = cs t) {x1 : Int32}  
    (k1 : px_Call E d 0 0 mX10_token [.ref 61] (pw_sI (pw_sI w 61 19 ((pw_I w 61 19) - 1)) 61 23 ((pw_I (pw_sI w 61 19 ((pw_I w 61 19) - 1)) 61 23) - 1)) (fun v w' => px_W E mX10_formula (d + 1) 0 0 96 [.ref 61, .int x1, .null] (v.toList ++ []) w' Q)) :
    px_W E mX10_formula (d + 1) 0 0 72 [.ref 61, .int x1, .null] [] w Q := by
  refine px_aload_n dX10_formula_72 rfl rfl ?_
  refine px_dup dX10_formula_73 rfl ?_
  refine px_getI dX10_formula_74 fr_10_278 rfl (px_sh1 hw sh_61) ?_
  refine px_iconst dX10_formula_77 ic_1 ?_
  refine px_isub dX10_formula_78 ?_
  refine px_putI dX10_formula_79 fl_10_278 (Or.inl rfl) rfl (px_sh1 hw sh_61) rfl rfl (by omega) ?_
  refine px_aload_n dX10_formula_82 rfl rfl ?_
  refine px_dup dX10_formula_83 rfl ?_
  refine px_getI dX10_formula_84 fr_10_288 rfl (px_sh1 hw sh_61) ?_
  refine px_iconst dX10_formula_87 ic_1 ?_
  refine px_isub dX10_formula_88 ?_
  refine px_putI dX10_formula_89 fl_10_288 (Or.inl rfl) rfl (px_sh1 hw sh_61) rfl rfl (by omega) ?_
  refine px_aload_n dX10_formula_92 rfl rfl ?_
  exact px_callV (As := []) (st := []) (rc := 0) (rs := 0) (mc := 0) (ms := 0) dX10_formula_93 lk_10_251 (px_sh1 hw sh_61) rfl rfl (Nat.le_of_ble_eq_true rfl) k1
theorem bX10_formula_96 {E : px_E} {d : Nat} {w : pw_W} {Q : Option Value → pw_W → Prop} {x1 : Int32}  
    (k1 : px_W E mX10_formula (d + 1) 0 0 159 [.ref 61, .int x1, .null] [] w Q) :
    px_W E mX10_formula (d + 1) 0 0 96 [.ref 61, .int x1, .null] [] w Q := by
  refine px_goto (tgt := 159) dX10_formula_96 (by decide) ?_
  exact k1
theorem bX10_formula_99 {E : px_E} {d : Nat} {w : pw_W} {Q : Option Value → pw_W → Prop} {x1 x2 : Int32}  
    (k1 : x2 = 0 → px_W E mX10_formula (d + 1) 0 0 157 [.ref 61, .null, .null] [] w Q)
    (k2 : ¬ x2 = 0 → px_Call E d 0 0 mX10_tight [.int x2] w (fun v w' => px_W E mX10_formula (d + 1) 0 0 107 [.ref 61, .int x1, .int x2] (v.toList ++ []) w' Q)) :
    px_W E mX10_formula (d + 1) 0 0 99 [.ref 61, .int x1, .int x2] [] w Q := by
  refine px_iload_n dX10_formula_99 rfl rfl ?_
  refine px_if_eq (tgt := 157) dX10_formula_100 (by decide) (fun h1 => ?_) (fun h1 => ?_)
  ·
    exact px_forget (k1 h1) ⟨Or.inr rfl, Or.inl rfl, Or.inl rfl, trivial⟩
  ·
    refine px_iload_n dX10_formula_103 rfl rfl ?_
    exact px_callS (As := [.int x2]) (st := []) (rc := 0) (rs := 0) (mc := 0) (ms := 0) dX10_formula_104 lk_10_281 rfl rfl (Nat.le_of_ble_eq_true rfl) (k2 h1)
theorem bX10_formula_107 {E : px_E} {d : Nat} {w : pw_W} {Q : Option Value → pw_W → Prop} {t : ct_T} (hw : w.1 = cs t) {x1 x2 y0 : Int32}  
    (k1 : ¬ y0 = 4 → px_W E mX10_formula (d + 1) 0 0 118 [.ref 61, .int x1, .int x2] [] w Q)
    (k2 : y0 = 4 → px_Call E d 0 0 mX10_hasRelation [.ref 61] w (fun v w' => px_W E mX10_formula (d + 1) 0 0 115 [.ref 61, .int x1, .int x2] (v.toList ++ []) w' Q)) :
    px_W E mX10_formula (d + 1) 0 0 107 [.ref 61, .int x1, .int x2] [.int y0] w Q := by
  refine px_iconst dX10_formula_107 ic_4 ?_
  refine px_icmp_ne (tgt := 118) dX10_formula_108 (by decide) (fun h1 => ?_) (fun h1 => ?_)
  ·
    exact (k1 h1)
  ·
    refine px_aload_n dX10_formula_111 rfl rfl ?_
    exact px_callV (As := []) (st := []) (rc := 0) (rs := 0) (mc := 0) (ms := 0) dX10_formula_112 lk_10_329 (px_sh1 hw sh_61) rfl rfl (Nat.le_of_ble_eq_true rfl) (k2 h1)
theorem bX10_formula_115 {E : px_E} {d : Nat} {w : pw_W} {Q : Option Value → pw_W → Prop} {x1 x2 y0 : Int32}  
    (k1 : ¬ y0 = 0 → px_W E mX10_formula (d + 1) 0 0 157 [.ref 61, .null, .null] [] w Q)
    (k2 : y0 = 0 → px_W E mX10_formula (d + 1) 0 0 118 [.ref 61, .int x1, .int x2] [] w Q) :
    px_W E mX10_formula (d + 1) 0 0 115 [.ref 61, .int x1, .int x2] [.int y0] w Q := by
  refine px_if_ne (tgt := 157) dX10_formula_115 (by decide) (fun h1 => ?_) (fun h1 => ?_)
  ·
    exact px_forget (k1 h1) ⟨Or.inr rfl, Or.inl rfl, Or.inl rfl, trivial⟩
  ·
    exact (k2 h1)
theorem bX10_formula_118 {E : px_E} {d : Nat} {w : pw_W} {Q : Option Value → pw_W → Prop} {x1 x2 : Int32}  
    (k1 : px_Call E d 0 0 mX10_tight [.int x2] w (fun v w' => px_W E mX10_formula (d + 1) 0 0 123 [.ref 61, .int x1, .int x2] (v.toList ++ [.ref 61]) w' Q)) :
    px_W E mX10_formula (d + 1) 0 0 118 [.ref 61, .int x1, .int x2] [] w Q := by
  refine px_aload_n dX10_formula_118 rfl rfl ?_
  refine px_iload_n dX10_formula_119 rfl rfl ?_
  exact px_callS (As := [.int x2]) (st := [.ref 61]) (rc := 0) (rs := 0) (mc := 0) (ms := 0) dX10_formula_120 lk_10_281 rfl rfl (Nat.le_of_ble_eq_true rfl) k1
theorem bX10_formula_123 {E : px_E} {d : Nat} {w : pw_W} {Q : Option Value → pw_W → Prop} {t : ct_T} (hw : w.1 = cs t) {x1 x2 y1 : Int32}  
    (k1 : px_Call E d 0 0 mX10_close [.ref 61, .int y1] w (fun v w' => px_W E mX10_formula (d + 1) 0 0 126 [.ref 61, .int x1, .int x2] (v.toList ++ []) w' Q)) :
    px_W E mX10_formula (d + 1) 0 0 123 [.ref 61, .int x1, .int x2] [.int y1, .ref 61] w Q := by
  exact px_callV (As := [.int y1]) (st := []) (rc := 0) (rs := 0) (mc := 0) (ms := 0) dX10_formula_123 lk_10_326 (px_sh1 hw sh_61) rfl rfl (Nat.le_of_ble_eq_true rfl) k1
theorem bX10_formula_126 {E : px_E} {d : Nat} {w : pw_W} {Q : Option Value → pw_W → Prop} {t : ct_T} (hw : w.1 = cs t) {x1 x2 : Int32}  (j1 : Nat) (hj1 : (pw_I w 61 19) = nI j1) (hl1 : j1 < 160)
    (k1 : px_Call E d 0 0 mX10_token [.ref 61] (pw_sI (pw_sI w 68 j1 x2) 61 19 ((pw_I (pw_sI w 68 j1 x2) 61 19) + 1)) (fun v w' => px_W E mX10_formula (d + 1) 0 0 150 [.ref 61, .int x1, .null] (v.toList ++ []) w' Q)) :
    px_W E mX10_formula (d + 1) 0 0 126 [.ref 61, .int x1, .int x2] [] w Q := by
  refine px_aload_n dX10_formula_126 rfl rfl ?_
  refine px_getR (v := 68) dX10_formula_127 fr_10_33 rfl (px_sh1 hw sh_61) (px_rf hw rf_61_15) (by decide) ?_
  refine px_aload_n dX10_formula_130 rfl rfl ?_
  refine px_getI dX10_formula_131 fr_10_278 rfl (px_sh1 hw sh_61) ?_
  refine px_iload_n dX10_formula_134 rfl rfl ?_
  refine px_iast dX10_formula_135 (px_sh2 hw sh_68) (by decide) j1 hj1 hl1 (by omega) ?_
  refine px_aload_n dX10_formula_136 rfl rfl ?_
  refine px_dup dX10_formula_137 rfl ?_
  refine px_getI dX10_formula_138 fr_10_278 rfl (px_sh1 hw sh_61) ?_
  refine px_iconst dX10_formula_141 ic_1 ?_
  refine px_iadd dX10_formula_142 ?_
  refine px_putI dX10_formula_143 fl_10_278 (Or.inl rfl) rfl (px_sh1 hw sh_61) rfl rfl (by omega) ?_
  refine px_aload_n dX10_formula_146 rfl rfl ?_
  refine px_forget (ls' := [.ref 61, .int x1, .null]) ?_ ⟨Or.inr rfl, Or.inr rfl, Or.inl rfl, trivial⟩
  exact px_callV (As := []) (st := []) (rc := 0) (rs := 0) (mc := 0) (ms := 0) dX10_formula_147 lk_10_251 (px_sh1 hw sh_61) rfl rfl (Nat.le_of_ble_eq_true rfl) k1
theorem bX10_formula_150 {E : px_E} {d : Nat} {w : pw_W} {Q : Option Value → pw_W → Prop} {t : ct_T} (hw : w.1 = cs t) {x1 : Int32}  
    (k1 : px_Call E d 0 0 mX10_unit [.ref 61] w (fun v w' => px_W E mX10_formula (d + 1) 0 0 154 [.ref 61, .int x1, .null] (v.toList ++ []) w' Q)) :
    px_W E mX10_formula (d + 1) 0 0 150 [.ref 61, .int x1, .null] [] w Q := by
  refine px_aload_n dX10_formula_150 rfl rfl ?_
  exact px_callV (As := []) (st := []) (rc := 0) (rs := 0) (mc := 0) (ms := 0) dX10_formula_151 lk_10_317 (px_sh1 hw sh_61) rfl rfl (Nat.le_of_ble_eq_true rfl) k1
theorem bX10_formula_154 {E : px_E} {d : Nat} {w : pw_W} {Q : Option Value → pw_W → Prop} {x1 : Int32}  
    (k1 : px_W E mX10_formula (d + 1) 0 0 159 [.ref 61, .int x1, .null] [] w Q) :
    px_W E mX10_formula (d + 1) 0 0 154 [.ref 61, .int x1, .null] [] w Q := by
  refine px_goto (tgt := 159) dX10_formula_154 (by decide) ?_
  exact k1
theorem bX10_formula_157 {E : px_E} {d : Nat} {w : pw_W} {Q : Option Value → pw_W → Prop}  
    (k1 : px_W E mX10_formula (d + 1) 0 0 159 [.ref 61, .int 0, .null] [] w Q) :
    px_W E mX10_formula (d + 1) 0 0 157 [.ref 61, .null, .null] [] w Q := by
  refine px_iconst dX10_formula_157 ic_0 ?_
  refine px_istore_n (ls' := [.ref 61, .int 0, .null]) dX10_formula_158 rfl ⟨by decide, rfl⟩ rfl ?_
  exact k1
theorem bX10_formula_159 {E : px_E} {d : Nat} {w : pw_W} {Q : Option Value → pw_W → Prop} {x1 : Int32}  
    (k1 : px_W E mX10_formula (d + 1) 0 0 35 [.ref 61, .int x1, .null] [] w Q) :
    px_W E mX10_formula (d + 1) 0 0 159 [.ref 61, .int x1, .null] [] w Q := by
  refine px_goto (tgt := 35) dX10_formula_159 (by decide) ?_
  exact k1
theorem bX10_formula_162 {E : px_E} {d : Nat} {w : pw_W} {Q : Option Value → pw_W → Prop} {t : ct_T} (hw : w.1 = cs t)  
    (k1 : ¬ (pw_I w 61 2) = 0 → px_W E mX10_formula (d + 1) 0 0 181 [.ref 61, .null, .null] [] w Q)
    (k2 : (pw_I w 61 2) = 0 → px_Call E d 0 0 mX10_hasBracket [.ref 61] w (fun v w' => px_W E mX10_formula (d + 1) 0 0 173 [.ref 61, .null, .null] (v.toList ++ []) w' Q)) :
    px_W E mX10_formula (d + 1) 0 0 162 [.ref 61, .null, .null] [] w Q := by
  refine px_aload_n dX10_formula_162 rfl rfl ?_
  refine px_getI dX10_formula_163 fr_10_197 rfl (px_sh1 hw sh_61) ?_
  refine px_if_ne (tgt := 181) dX10_formula_166 (by decide) (fun h1 => ?_) (fun h1 => ?_)
  ·
    exact (k1 h1)
  ·
    refine px_aload_n dX10_formula_169 rfl rfl ?_
    exact px_callV (As := []) (st := []) (rc := 0) (rs := 0) (mc := 0) (ms := 0) dX10_formula_170 lk_10_323 (px_sh1 hw sh_61) rfl rfl (Nat.le_of_ble_eq_true rfl) (k2 h1)
theorem bX10_formula_173 {E : px_E} {d : Nat} {w : pw_W} {Q : Option Value → pw_W → Prop} {t : ct_T} (hw : w.1 = cs t) {y0 : Int32}  
    (k1 : y0 = 0 → px_W E mX10_formula (d + 1) 0 0 181 [.ref 61, .null, .null] [] w Q)
    (k2 : ¬ y0 = 0 → px_Call E d 0 0 mX10_wrong [.ref 61, .int 2] w (fun v w' => px_W E mX10_formula (d + 1) 0 0 181 [.ref 61, .null, .null] (v.toList ++ []) w' Q)) :
    px_W E mX10_formula (d + 1) 0 0 173 [.ref 61, .null, .null] [.int y0] w Q := by
  refine px_if_eq (tgt := 181) dX10_formula_173 (by decide) (fun h1 => ?_) (fun h1 => ?_)
  ·
    exact (k1 h1)
  ·
    refine px_aload_n dX10_formula_176 rfl rfl ?_
    refine px_iconst dX10_formula_177 ic_2 ?_
    exact px_callV (As := [.int 2]) (st := []) (rc := 0) (rs := 0) (mc := 0) (ms := 0) dX10_formula_178 lk_10_248 (px_sh1 hw sh_61) rfl rfl (Nat.le_of_ble_eq_true rfl) (k2 h1)
theorem bX10_formula_181 {E : px_E} {d : Nat} {w : pw_W} {Q : Option Value → pw_W → Prop} {t : ct_T} (hw : w.1 = cs t)  
    (k1 : ¬ (pw_I w 61 2) = 0 → px_W E mX10_formula (d + 1) 0 0 193 [.null, .null, .null] [] w Q)
    (k2 : (pw_I w 61 2) = 0 → px_Call E d 0 0 mX10_close [.ref 61, .int 0] w (fun v w' => px_W E mX10_formula (d + 1) 0 0 193 [.null, .null, .null] (v.toList ++ []) w' Q)) :
    px_W E mX10_formula (d + 1) 0 0 181 [.ref 61, .null, .null] [] w Q := by
  refine px_aload_n dX10_formula_181 rfl rfl ?_
  refine px_getI dX10_formula_182 fr_10_197 rfl (px_sh1 hw sh_61) ?_
  refine px_if_ne (tgt := 193) dX10_formula_185 (by decide) (fun h1 => ?_) (fun h1 => ?_)
  ·
    exact px_forget (k1 h1) ⟨Or.inl rfl, Or.inl rfl, Or.inl rfl, trivial⟩
  ·
    refine px_aload_n dX10_formula_188 rfl rfl ?_
    refine px_iconst dX10_formula_189 ic_0 ?_
    refine px_forget (ls' := [.null, .null, .null]) ?_ ⟨Or.inl rfl, Or.inl rfl, Or.inl rfl, trivial⟩
    exact px_callV (As := [.int 0]) (st := []) (rc := 0) (rs := 0) (mc := 0) (ms := 0) dX10_formula_190 lk_10_326 (px_sh1 hw sh_61) rfl rfl (Nat.le_of_ble_eq_true rfl) (k2 h1)
theorem bX10_formula_193 {E : px_E} {d : Nat} {w : pw_W} {Q : Option Value → pw_W → Prop}  
    (k1 : Q none w) :
    px_W E mX10_formula (d + 1) 0 0 193 [.null, .null, .null] [] w Q := by
  exact px_return dX10_formula_193 rfl k1
theorem dX10_hamlet_0 : decode mX10_hamlet.2.1 0 = .ok (.aload_n 0, 1) := by decide +kernel
theorem dX10_hamlet_1 : decode mX10_hamlet.2.1 1 = .ok (.invokevirtual 401, 3) := by decide +kernel
theorem dX10_hamlet_4 : decode mX10_hamlet.2.1 4 = .ok (.aload_n 0, 1) := by decide +kernel
theorem dX10_hamlet_5 : decode mX10_hamlet.2.1 5 = .ok (.getfield 197, 3) := by decide +kernel
theorem dX10_hamlet_8 : decode mX10_hamlet.2.1 8 = .ok (.ifCond .le 5, 3) := by decide +kernel
theorem dX10_hamlet_11 : decode mX10_hamlet.2.1 11 = .ok (.iconst (-1), 1) := by decide +kernel
theorem dX10_hamlet_12 : decode mX10_hamlet.2.1 12 = .ok (.ireturn, 1) := by decide +kernel
theorem dX10_hamlet_13 : decode mX10_hamlet.2.1 13 = .ok (.aload_n 0, 1) := by decide +kernel
theorem dX10_hamlet_14 : decode mX10_hamlet.2.1 14 = .ok (.aload_n 0, 1) := by decide +kernel
theorem dX10_hamlet_15 : decode mX10_hamlet.2.1 15 = .ok (.getfield 272, 3) := by decide +kernel
theorem dX10_hamlet_18 : decode mX10_hamlet.2.1 18 = .ok (.putfield 404, 3) := by decide +kernel
theorem dX10_hamlet_21 : decode mX10_hamlet.2.1 21 = .ok (.aload_n 0, 1) := by decide +kernel
theorem dX10_hamlet_22 : decode mX10_hamlet.2.1 22 = .ok (.aload_n 0, 1) := by decide +kernel
theorem dX10_hamlet_23 : decode mX10_hamlet.2.1 23 = .ok (.getfield 356, 3) := by decide +kernel
theorem dX10_hamlet_26 : decode mX10_hamlet.2.1 26 = .ok (.putfield 407, 3) := by decide +kernel
theorem dX10_hamlet_29 : decode mX10_hamlet.2.1 29 = .ok (.aload_n 0, 1) := by decide +kernel
theorem dX10_hamlet_30 : decode mX10_hamlet.2.1 30 = .ok (.aload_n 0, 1) := by decide +kernel
theorem dX10_hamlet_31 : decode mX10_hamlet.2.1 31 = .ok (.getfield 362, 3) := by decide +kernel
theorem dX10_hamlet_34 : decode mX10_hamlet.2.1 34 = .ok (.putfield 410, 3) := by decide +kernel
theorem dX10_hamlet_37 : decode mX10_hamlet.2.1 37 = .ok (.aload_n 0, 1) := by decide +kernel
theorem dX10_hamlet_38 : decode mX10_hamlet.2.1 38 = .ok (.aload_n 0, 1) := by decide +kernel
theorem dX10_hamlet_39 : decode mX10_hamlet.2.1 39 = .ok (.getfield 383, 3) := by decide +kernel
theorem dX10_hamlet_42 : decode mX10_hamlet.2.1 42 = .ok (.putfield 96, 3) := by decide +kernel
theorem dX10_hamlet_45 : decode mX10_hamlet.2.1 45 = .ok (.aload_n 0, 1) := by decide +kernel
theorem dX10_hamlet_46 : decode mX10_hamlet.2.1 46 = .ok (.aload_n 0, 1) := by decide +kernel
theorem dX10_hamlet_47 : decode mX10_hamlet.2.1 47 = .ok (.getfield 389, 3) := by decide +kernel
theorem dX10_hamlet_50 : decode mX10_hamlet.2.1 50 = .ok (.putfield 413, 3) := by decide +kernel
theorem dX10_hamlet_53 : decode mX10_hamlet.2.1 53 = .ok (.aload_n 0, 1) := by decide +kernel
theorem dX10_hamlet_54 : decode mX10_hamlet.2.1 54 = .ok (.aload_n 0, 1) := by decide +kernel
theorem dX10_hamlet_55 : decode mX10_hamlet.2.1 55 = .ok (.getfield 395, 3) := by decide +kernel
theorem dX10_hamlet_58 : decode mX10_hamlet.2.1 58 = .ok (.putfield 416, 3) := by decide +kernel
theorem dX10_hamlet_61 : decode mX10_hamlet.2.1 61 = .ok (.aload_n 0, 1) := by decide +kernel
theorem dX10_hamlet_62 : decode mX10_hamlet.2.1 62 = .ok (.aload_n 0, 1) := by decide +kernel
theorem dX10_hamlet_63 : decode mX10_hamlet.2.1 63 = .ok (.getfield 291, 3) := by decide +kernel
theorem dX10_hamlet_66 : decode mX10_hamlet.2.1 66 = .ok (.putfield 419, 3) := by decide +kernel
theorem dX10_hamlet_69 : decode mX10_hamlet.2.1 69 = .ok (.aload_n 0, 1) := by decide +kernel
theorem dX10_hamlet_70 : decode mX10_hamlet.2.1 70 = .ok (.aload_n 0, 1) := by decide +kernel
theorem dX10_hamlet_71 : decode mX10_hamlet.2.1 71 = .ok (.getfield 313, 3) := by decide +kernel
theorem dX10_hamlet_74 : decode mX10_hamlet.2.1 74 = .ok (.putfield 336, 3) := by decide +kernel
theorem dX10_hamlet_77 : decode mX10_hamlet.2.1 77 = .ok (.aload_n 0, 1) := by decide +kernel
theorem dX10_hamlet_78 : decode mX10_hamlet.2.1 78 = .ok (.aload_n 0, 1) := by decide +kernel
theorem dX10_hamlet_79 : decode mX10_hamlet.2.1 79 = .ok (.getfield 313, 3) := by decide +kernel
theorem dX10_hamlet_82 : decode mX10_hamlet.2.1 82 = .ok (.ifCond .eq 10, 3) := by decide +kernel
theorem dX10_hamlet_85 : decode mX10_hamlet.2.1 85 = .ok (.aload_n 0, 1) := by decide +kernel
theorem dX10_hamlet_86 : decode mX10_hamlet.2.1 86 = .ok (.getfield 275, 3) := by decide +kernel
theorem dX10_hamlet_89 : decode mX10_hamlet.2.1 89 = .ok (.goto 4, 3) := by decide +kernel
theorem dX10_hamlet_92 : decode mX10_hamlet.2.1 92 = .ok (.iconst 0, 1) := by decide +kernel
theorem dX10_hamlet_93 : decode mX10_hamlet.2.1 93 = .ok (.putfield 343, 3) := by decide +kernel
theorem dX10_hamlet_96 : decode mX10_hamlet.2.1 96 = .ok (.iconst 0, 1) := by decide +kernel
theorem dX10_hamlet_97 : decode mX10_hamlet.2.1 97 = .ok (.istore_n 1, 1) := by decide +kernel
theorem dX10_hamlet_98 : decode mX10_hamlet.2.1 98 = .ok (.iload_n 1, 1) := by decide +kernel
theorem dX10_hamlet_99 : decode mX10_hamlet.2.1 99 = .ok (.aload_n 0, 1) := by decide +kernel
theorem dX10_hamlet_100 : decode mX10_hamlet.2.1 100 = .ok (.getfield 343, 3) := by decide +kernel
theorem dX10_hamlet_103 : decode mX10_hamlet.2.1 103 = .ok (.if_icmp .ge 33, 3) := by decide +kernel
theorem dX10_hamlet_106 : decode mX10_hamlet.2.1 106 = .ok (.aload_n 0, 1) := by decide +kernel
theorem dX10_hamlet_107 : decode mX10_hamlet.2.1 107 = .ok (.getfield 27, 3) := by decide +kernel
theorem dX10_hamlet_110 : decode mX10_hamlet.2.1 110 = .ok (.iload_n 1, 1) := by decide +kernel
theorem dX10_hamlet_111 : decode mX10_hamlet.2.1 111 = .ok (.aload_n 0, 1) := by decide +kernel
theorem dX10_hamlet_112 : decode mX10_hamlet.2.1 112 = .ok (.getfield 21, 3) := by decide +kernel
theorem dX10_hamlet_115 : decode mX10_hamlet.2.1 115 = .ok (.iload_n 1, 1) := by decide +kernel
theorem dX10_hamlet_116 : decode mX10_hamlet.2.1 116 = .ok (.iaload, 1) := by decide +kernel
theorem dX10_hamlet_117 : decode mX10_hamlet.2.1 117 = .ok (.iastore, 1) := by decide +kernel
theorem dX10_hamlet_118 : decode mX10_hamlet.2.1 118 = .ok (.aload_n 0, 1) := by decide +kernel
theorem dX10_hamlet_119 : decode mX10_hamlet.2.1 119 = .ok (.getfield 30, 3) := by decide +kernel
theorem dX10_hamlet_122 : decode mX10_hamlet.2.1 122 = .ok (.iload_n 1, 1) := by decide +kernel
theorem dX10_hamlet_123 : decode mX10_hamlet.2.1 123 = .ok (.aload_n 0, 1) := by decide +kernel
theorem dX10_hamlet_124 : decode mX10_hamlet.2.1 124 = .ok (.getfield 24, 3) := by decide +kernel
theorem dX10_hamlet_127 : decode mX10_hamlet.2.1 127 = .ok (.iload_n 1, 1) := by decide +kernel
theorem dX10_hamlet_128 : decode mX10_hamlet.2.1 128 = .ok (.iaload, 1) := by decide +kernel
theorem dX10_hamlet_129 : decode mX10_hamlet.2.1 129 = .ok (.iastore, 1) := by decide +kernel
theorem dX10_hamlet_130 : decode mX10_hamlet.2.1 130 = .ok (.iinc 1 1, 3) := by decide +kernel
theorem dX10_hamlet_133 : decode mX10_hamlet.2.1 133 = .ok (.goto (-35), 3) := by decide +kernel
theorem dX10_hamlet_136 : decode mX10_hamlet.2.1 136 = .ok (.iconst 0, 1) := by decide +kernel
theorem dX10_hamlet_137 : decode mX10_hamlet.2.1 137 = .ok (.istore_n 1, 1) := by decide +kernel
theorem dX10_hamlet_138 : decode mX10_hamlet.2.1 138 = .ok (.iload_n 1, 1) := by decide +kernel
theorem dX10_hamlet_139 : decode mX10_hamlet.2.1 139 = .ok (.aload_n 0, 1) := by decide +kernel
theorem dX10_hamlet_140 : decode mX10_hamlet.2.1 140 = .ok (.getfield 404, 3) := by decide +kernel
theorem dX10_hamlet_143 : decode mX10_hamlet.2.1 143 = .ok (.if_icmp .ge 45, 3) := by decide +kernel
theorem dX10_hamlet_146 : decode mX10_hamlet.2.1 146 = .ok (.aload_n 0, 1) := by decide +kernel
theorem dX10_hamlet_147 : decode mX10_hamlet.2.1 147 = .ok (.getfield 69, 3) := by decide +kernel
theorem dX10_hamlet_150 : decode mX10_hamlet.2.1 150 = .ok (.iload_n 1, 1) := by decide +kernel
theorem dX10_hamlet_151 : decode mX10_hamlet.2.1 151 = .ok (.aload_n 0, 1) := by decide +kernel
theorem dX10_hamlet_152 : decode mX10_hamlet.2.1 152 = .ok (.getfield 42, 3) := by decide +kernel
theorem dX10_hamlet_155 : decode mX10_hamlet.2.1 155 = .ok (.iload_n 1, 1) := by decide +kernel
theorem dX10_hamlet_156 : decode mX10_hamlet.2.1 156 = .ok (.iaload, 1) := by decide +kernel
theorem dX10_hamlet_157 : decode mX10_hamlet.2.1 157 = .ok (.iastore, 1) := by decide +kernel
theorem dX10_hamlet_158 : decode mX10_hamlet.2.1 158 = .ok (.aload_n 0, 1) := by decide +kernel
theorem dX10_hamlet_159 : decode mX10_hamlet.2.1 159 = .ok (.getfield 72, 3) := by decide +kernel
theorem dX10_hamlet_162 : decode mX10_hamlet.2.1 162 = .ok (.iload_n 1, 1) := by decide +kernel
theorem dX10_hamlet_163 : decode mX10_hamlet.2.1 163 = .ok (.aload_n 0, 1) := by decide +kernel
theorem dX10_hamlet_164 : decode mX10_hamlet.2.1 164 = .ok (.getfield 45, 3) := by decide +kernel
theorem dX10_hamlet_167 : decode mX10_hamlet.2.1 167 = .ok (.iload_n 1, 1) := by decide +kernel
theorem dX10_hamlet_168 : decode mX10_hamlet.2.1 168 = .ok (.iaload, 1) := by decide +kernel
theorem dX10_hamlet_169 : decode mX10_hamlet.2.1 169 = .ok (.iastore, 1) := by decide +kernel
theorem dX10_hamlet_170 : decode mX10_hamlet.2.1 170 = .ok (.aload_n 0, 1) := by decide +kernel
theorem dX10_hamlet_171 : decode mX10_hamlet.2.1 171 = .ok (.getfield 75, 3) := by decide +kernel
theorem dX10_hamlet_174 : decode mX10_hamlet.2.1 174 = .ok (.iload_n 1, 1) := by decide +kernel
theorem dX10_hamlet_175 : decode mX10_hamlet.2.1 175 = .ok (.aload_n 0, 1) := by decide +kernel
theorem dX10_hamlet_176 : decode mX10_hamlet.2.1 176 = .ok (.getfield 48, 3) := by decide +kernel
theorem dX10_hamlet_179 : decode mX10_hamlet.2.1 179 = .ok (.iload_n 1, 1) := by decide +kernel
theorem dX10_hamlet_180 : decode mX10_hamlet.2.1 180 = .ok (.iaload, 1) := by decide +kernel
theorem dX10_hamlet_181 : decode mX10_hamlet.2.1 181 = .ok (.iastore, 1) := by decide +kernel
theorem dX10_hamlet_182 : decode mX10_hamlet.2.1 182 = .ok (.iinc 1 1, 3) := by decide +kernel
theorem dX10_hamlet_185 : decode mX10_hamlet.2.1 185 = .ok (.goto (-47), 3) := by decide +kernel
theorem dX10_hamlet_188 : decode mX10_hamlet.2.1 188 = .ok (.iconst 0, 1) := by decide +kernel
theorem dX10_hamlet_189 : decode mX10_hamlet.2.1 189 = .ok (.istore_n 1, 1) := by decide +kernel
theorem dX10_hamlet_190 : decode mX10_hamlet.2.1 190 = .ok (.iload_n 1, 1) := by decide +kernel
theorem dX10_hamlet_191 : decode mX10_hamlet.2.1 191 = .ok (.aload_n 0, 1) := by decide +kernel
theorem dX10_hamlet_192 : decode mX10_hamlet.2.1 192 = .ok (.getfield 407, 3) := by decide +kernel
theorem dX10_hamlet_195 : decode mX10_hamlet.2.1 195 = .ok (.if_icmp .ge 45, 3) := by decide +kernel
theorem dX10_hamlet_198 : decode mX10_hamlet.2.1 198 = .ok (.aload_n 0, 1) := by decide +kernel
theorem dX10_hamlet_199 : decode mX10_hamlet.2.1 199 = .ok (.getfield 78, 3) := by decide +kernel
theorem dX10_hamlet_202 : decode mX10_hamlet.2.1 202 = .ok (.iload_n 1, 1) := by decide +kernel
theorem dX10_hamlet_203 : decode mX10_hamlet.2.1 203 = .ok (.aload_n 0, 1) := by decide +kernel
theorem dX10_hamlet_204 : decode mX10_hamlet.2.1 204 = .ok (.getfield 51, 3) := by decide +kernel
theorem dX10_hamlet_207 : decode mX10_hamlet.2.1 207 = .ok (.iload_n 1, 1) := by decide +kernel
theorem dX10_hamlet_208 : decode mX10_hamlet.2.1 208 = .ok (.iaload, 1) := by decide +kernel
theorem dX10_hamlet_209 : decode mX10_hamlet.2.1 209 = .ok (.iastore, 1) := by decide +kernel
theorem dX10_hamlet_210 : decode mX10_hamlet.2.1 210 = .ok (.aload_n 0, 1) := by decide +kernel
theorem dX10_hamlet_211 : decode mX10_hamlet.2.1 211 = .ok (.getfield 81, 3) := by decide +kernel
theorem dX10_hamlet_214 : decode mX10_hamlet.2.1 214 = .ok (.iload_n 1, 1) := by decide +kernel
theorem dX10_hamlet_215 : decode mX10_hamlet.2.1 215 = .ok (.aload_n 0, 1) := by decide +kernel
theorem dX10_hamlet_216 : decode mX10_hamlet.2.1 216 = .ok (.getfield 54, 3) := by decide +kernel
theorem dX10_hamlet_219 : decode mX10_hamlet.2.1 219 = .ok (.iload_n 1, 1) := by decide +kernel
theorem dX10_hamlet_220 : decode mX10_hamlet.2.1 220 = .ok (.iaload, 1) := by decide +kernel
theorem dX10_hamlet_221 : decode mX10_hamlet.2.1 221 = .ok (.iastore, 1) := by decide +kernel
theorem dX10_hamlet_222 : decode mX10_hamlet.2.1 222 = .ok (.aload_n 0, 1) := by decide +kernel
theorem dX10_hamlet_223 : decode mX10_hamlet.2.1 223 = .ok (.getfield 84, 3) := by decide +kernel
theorem dX10_hamlet_226 : decode mX10_hamlet.2.1 226 = .ok (.iload_n 1, 1) := by decide +kernel
theorem dX10_hamlet_227 : decode mX10_hamlet.2.1 227 = .ok (.aload_n 0, 1) := by decide +kernel
theorem dX10_hamlet_228 : decode mX10_hamlet.2.1 228 = .ok (.getfield 57, 3) := by decide +kernel
theorem dX10_hamlet_231 : decode mX10_hamlet.2.1 231 = .ok (.iload_n 1, 1) := by decide +kernel
theorem dX10_hamlet_232 : decode mX10_hamlet.2.1 232 = .ok (.iaload, 1) := by decide +kernel
theorem dX10_hamlet_233 : decode mX10_hamlet.2.1 233 = .ok (.iastore, 1) := by decide +kernel
theorem dX10_hamlet_234 : decode mX10_hamlet.2.1 234 = .ok (.iinc 1 1, 3) := by decide +kernel
theorem dX10_hamlet_237 : decode mX10_hamlet.2.1 237 = .ok (.goto (-47), 3) := by decide +kernel
theorem dX10_hamlet_240 : decode mX10_hamlet.2.1 240 = .ok (.iconst 0, 1) := by decide +kernel
theorem dX10_hamlet_241 : decode mX10_hamlet.2.1 241 = .ok (.istore_n 1, 1) := by decide +kernel
theorem dX10_hamlet_242 : decode mX10_hamlet.2.1 242 = .ok (.iload_n 1, 1) := by decide +kernel
theorem dX10_hamlet_243 : decode mX10_hamlet.2.1 243 = .ok (.aload_n 0, 1) := by decide +kernel
theorem dX10_hamlet_244 : decode mX10_hamlet.2.1 244 = .ok (.getfield 410, 3) := by decide +kernel
theorem dX10_hamlet_247 : decode mX10_hamlet.2.1 247 = .ok (.if_icmp .ge 73, 3) := by decide +kernel
theorem dX10_hamlet_250 : decode mX10_hamlet.2.1 250 = .ok (.aload_n 0, 1) := by decide +kernel
theorem dX10_hamlet_251 : decode mX10_hamlet.2.1 251 = .ok (.getfield 87, 3) := by decide +kernel
theorem dX10_hamlet_254 : decode mX10_hamlet.2.1 254 = .ok (.iload_n 1, 1) := by decide +kernel
theorem dX10_hamlet_255 : decode mX10_hamlet.2.1 255 = .ok (.aload_n 0, 1) := by decide +kernel
theorem dX10_hamlet_256 : decode mX10_hamlet.2.1 256 = .ok (.getfield 60, 3) := by decide +kernel
theorem dX10_hamlet_259 : decode mX10_hamlet.2.1 259 = .ok (.iload_n 1, 1) := by decide +kernel
theorem dX10_hamlet_260 : decode mX10_hamlet.2.1 260 = .ok (.iaload, 1) := by decide +kernel
theorem dX10_hamlet_261 : decode mX10_hamlet.2.1 261 = .ok (.iastore, 1) := by decide +kernel
theorem dX10_hamlet_262 : decode mX10_hamlet.2.1 262 = .ok (.aload_n 0, 1) := by decide +kernel
theorem dX10_hamlet_263 : decode mX10_hamlet.2.1 263 = .ok (.getfield 93, 3) := by decide +kernel
theorem dX10_hamlet_266 : decode mX10_hamlet.2.1 266 = .ok (.iload_n 1, 1) := by decide +kernel
theorem dX10_hamlet_267 : decode mX10_hamlet.2.1 267 = .ok (.aload_n 0, 1) := by decide +kernel
theorem dX10_hamlet_268 : decode mX10_hamlet.2.1 268 = .ok (.getfield 66, 3) := by decide +kernel
theorem dX10_hamlet_271 : decode mX10_hamlet.2.1 271 = .ok (.iload_n 1, 1) := by decide +kernel
theorem dX10_hamlet_272 : decode mX10_hamlet.2.1 272 = .ok (.iaload, 1) := by decide +kernel
theorem dX10_hamlet_273 : decode mX10_hamlet.2.1 273 = .ok (.iastore, 1) := by decide +kernel
theorem dX10_hamlet_274 : decode mX10_hamlet.2.1 274 = .ok (.iconst 0, 1) := by decide +kernel
theorem dX10_hamlet_275 : decode mX10_hamlet.2.1 275 = .ok (.istore_n 2, 1) := by decide +kernel
theorem dX10_hamlet_276 : decode mX10_hamlet.2.1 276 = .ok (.iload_n 2, 1) := by decide +kernel
theorem dX10_hamlet_277 : decode mX10_hamlet.2.1 277 = .ok (.aload_n 0, 1) := by decide +kernel
theorem dX10_hamlet_278 : decode mX10_hamlet.2.1 278 = .ok (.getfield 93, 3) := by decide +kernel
theorem dX10_hamlet_281 : decode mX10_hamlet.2.1 281 = .ok (.iload_n 1, 1) := by decide +kernel
theorem dX10_hamlet_282 : decode mX10_hamlet.2.1 282 = .ok (.iaload, 1) := by decide +kernel
theorem dX10_hamlet_283 : decode mX10_hamlet.2.1 283 = .ok (.if_icmp .ge 31, 3) := by decide +kernel
theorem dX10_hamlet_286 : decode mX10_hamlet.2.1 286 = .ok (.aload_n 0, 1) := by decide +kernel
theorem dX10_hamlet_287 : decode mX10_hamlet.2.1 287 = .ok (.getfield 90, 3) := by decide +kernel
theorem dX10_hamlet_290 : decode mX10_hamlet.2.1 290 = .ok (.bipush 6, 2) := by decide +kernel
theorem dX10_hamlet_292 : decode mX10_hamlet.2.1 292 = .ok (.iload_n 1, 1) := by decide +kernel
theorem dX10_hamlet_293 : decode mX10_hamlet.2.1 293 = .ok (.imul, 1) := by decide +kernel
theorem dX10_hamlet_294 : decode mX10_hamlet.2.1 294 = .ok (.iload_n 2, 1) := by decide +kernel
theorem dX10_hamlet_295 : decode mX10_hamlet.2.1 295 = .ok (.iadd, 1) := by decide +kernel
theorem dX10_hamlet_296 : decode mX10_hamlet.2.1 296 = .ok (.aload_n 0, 1) := by decide +kernel
theorem dX10_hamlet_297 : decode mX10_hamlet.2.1 297 = .ok (.getfield 63, 3) := by decide +kernel
theorem dX10_hamlet_300 : decode mX10_hamlet.2.1 300 = .ok (.bipush 6, 2) := by decide +kernel
theorem dX10_hamlet_302 : decode mX10_hamlet.2.1 302 = .ok (.iload_n 1, 1) := by decide +kernel
theorem dX10_hamlet_303 : decode mX10_hamlet.2.1 303 = .ok (.imul, 1) := by decide +kernel
theorem dX10_hamlet_304 : decode mX10_hamlet.2.1 304 = .ok (.iload_n 2, 1) := by decide +kernel
theorem dX10_hamlet_305 : decode mX10_hamlet.2.1 305 = .ok (.iadd, 1) := by decide +kernel
theorem dX10_hamlet_306 : decode mX10_hamlet.2.1 306 = .ok (.iaload, 1) := by decide +kernel
theorem dX10_hamlet_307 : decode mX10_hamlet.2.1 307 = .ok (.iastore, 1) := by decide +kernel
theorem dX10_hamlet_308 : decode mX10_hamlet.2.1 308 = .ok (.iinc 2 1, 3) := by decide +kernel
theorem dX10_hamlet_311 : decode mX10_hamlet.2.1 311 = .ok (.goto (-35), 3) := by decide +kernel
theorem dX10_hamlet_314 : decode mX10_hamlet.2.1 314 = .ok (.iinc 1 1, 3) := by decide +kernel
theorem dX10_hamlet_317 : decode mX10_hamlet.2.1 317 = .ok (.goto (-75), 3) := by decide +kernel
theorem dX10_hamlet_320 : decode mX10_hamlet.2.1 320 = .ok (.aload_n 0, 1) := by decide +kernel
theorem dX10_hamlet_321 : decode mX10_hamlet.2.1 321 = .ok (.invokevirtual 422, 3) := by decide +kernel
theorem dX10_hamlet_324 : decode mX10_hamlet.2.1 324 = .ok (.aload_n 0, 1) := by decide +kernel
theorem dX10_hamlet_325 : decode mX10_hamlet.2.1 325 = .ok (.invokevirtual 425, 3) := by decide +kernel
theorem dX10_hamlet_328 : decode mX10_hamlet.2.1 328 = .ok (.aload_n 0, 1) := by decide +kernel
theorem dX10_hamlet_329 : decode mX10_hamlet.2.1 329 = .ok (.iconst 0, 1) := by decide +kernel
theorem dX10_hamlet_330 : decode mX10_hamlet.2.1 330 = .ok (.putfield 428, 3) := by decide +kernel
theorem dX10_hamlet_333 : decode mX10_hamlet.2.1 333 = .ok (.aload_n 0, 1) := by decide +kernel
theorem dX10_hamlet_334 : decode mX10_hamlet.2.1 334 = .ok (.iconst 0, 1) := by decide +kernel
theorem dX10_hamlet_335 : decode mX10_hamlet.2.1 335 = .ok (.putfield 431, 3) := by decide +kernel
theorem dX10_hamlet_338 : decode mX10_hamlet.2.1 338 = .ok (.aload_n 0, 1) := by decide +kernel
theorem dX10_hamlet_339 : decode mX10_hamlet.2.1 339 = .ok (.iconst 0, 1) := by decide +kernel
theorem dX10_hamlet_340 : decode mX10_hamlet.2.1 340 = .ok (.putfield 434, 3) := by decide +kernel
theorem dX10_hamlet_343 : decode mX10_hamlet.2.1 343 = .ok (.aload_n 0, 1) := by decide +kernel
theorem dX10_hamlet_344 : decode mX10_hamlet.2.1 344 = .ok (.iconst 0, 1) := by decide +kernel
theorem dX10_hamlet_345 : decode mX10_hamlet.2.1 345 = .ok (.putfield 437, 3) := by decide +kernel
theorem dX10_hamlet_348 : decode mX10_hamlet.2.1 348 = .ok (.iconst 0, 1) := by decide +kernel
theorem dX10_hamlet_349 : decode mX10_hamlet.2.1 349 = .ok (.istore_n 1, 1) := by decide +kernel
theorem dX10_hamlet_350 : decode mX10_hamlet.2.1 350 = .ok (.iload_n 1, 1) := by decide +kernel
theorem dX10_hamlet_351 : decode mX10_hamlet.2.1 351 = .ok (.iconst 3, 1) := by decide +kernel
theorem dX10_hamlet_352 : decode mX10_hamlet.2.1 352 = .ok (.if_icmp .ge 16, 3) := by decide +kernel
theorem dX10_hamlet_355 : decode mX10_hamlet.2.1 355 = .ok (.aload_n 0, 1) := by decide +kernel
theorem dX10_hamlet_356 : decode mX10_hamlet.2.1 356 = .ok (.getfield 151, 3) := by decide +kernel
theorem dX10_hamlet_359 : decode mX10_hamlet.2.1 359 = .ok (.iload_n 1, 1) := by decide +kernel
theorem dX10_hamlet_360 : decode mX10_hamlet.2.1 360 = .ok (.iconst 0, 1) := by decide +kernel
theorem dX10_hamlet_361 : decode mX10_hamlet.2.1 361 = .ok (.bastore, 1) := by decide +kernel
theorem dX10_hamlet_362 : decode mX10_hamlet.2.1 362 = .ok (.iinc 1 1, 3) := by decide +kernel
theorem dX10_hamlet_365 : decode mX10_hamlet.2.1 365 = .ok (.goto (-15), 3) := by decide +kernel
theorem dX10_hamlet_368 : decode mX10_hamlet.2.1 368 = .ok (.aload_n 0, 1) := by decide +kernel
theorem dX10_hamlet_369 : decode mX10_hamlet.2.1 369 = .ok (.getfield 404, 3) := by decide +kernel
theorem dX10_hamlet_372 : decode mX10_hamlet.2.1 372 = .ok (.ireturn, 1) := by decide +kernel
theorem bX10_hamlet_0 {E : px_E} {d : Nat} {w : pw_W} {Q : Option Value → pw_W → Prop} {t : ct_T} (hw : w.1 = cs t)  
    (k1 : px_Call E d 0 0 mX10_readAll [.ref 61] w (fun v w' => px_W E mX10_hamlet (d + 1) 0 0 4 [.ref 61, .null, .null] (v.toList ++ []) w' Q)) :
    px_W E mX10_hamlet (d + 1) 0 0 0 [.ref 61, .null, .null] [] w Q := by
  refine px_aload_n dX10_hamlet_0 rfl rfl ?_
  exact px_callV (As := []) (st := []) (rc := 0) (rs := 0) (mc := 0) (ms := 0) dX10_hamlet_1 lk_10_401 (px_sh1 hw sh_61) rfl rfl (Nat.le_of_ble_eq_true rfl) k1
theorem eX10_hamlet {E : px_E} {d : Nat} {w : pw_W} {Q : Option Value → pw_W → Prop} {t : ct_T} (hw : w.1 = cs t)  
    (k1 : px_Call E d 0 0 mX10_readAll [.ref 61] w (fun v w' => px_W E mX10_hamlet (d + 1) 0 0 4 [.ref 61, .null, .null] (v.toList ++ []) w' Q)) :
    px_Call E (d + 1) 0 0 mX10_hamlet [.ref 61] w Q :=
  px_enter (k := 2) (by decide) (Nat.le_of_ble_eq_true rfl) rfl (px_forget (bX10_hamlet_0 hw k1) ⟨Or.inr rfl, Or.inl rfl, Or.inl rfl, trivial⟩)
theorem bX10_hamlet_4 {E : px_E} {d : Nat} {w : pw_W} {Q : Option Value → pw_W → Prop} {t : ct_T} (hw : w.1 = cs t)  (hb1 : (pw_I w 61 2) ≤ 0 → (pw_I (pw_sI (pw_sI (pw_sI (pw_sI (pw_sI (pw_sI (pw_sI w 61 51 (pw_I w 61 45)) 61 52 (pw_I (pw_sI w 61 51 (pw_I w 61 45)) 61 46)) 61 53 (pw_I (pw_sI (pw_sI w 61 51 (pw_I w 61 45)) 61 52 (pw_I (pw_sI w 61 51 (pw_I w 61 45)) 61 46)) 61 47)) 61 54 (pw_I (pw_sI (pw_sI (pw_sI w 61 51 (pw_I w 61 45)) 61 52 (pw_I (pw_sI w 61 51 (pw_I w 61 45)) 61 46)) 61 53 (pw_I (pw_sI (pw_sI w 61 51 (pw_I w 61 45)) 61 52 (pw_I (pw_sI w 61 51 (pw_I w 61 45)) 61 46)) 61 47)) 61 48)) 61 55 (pw_I (pw_sI (pw_sI (pw_sI (pw_sI w 61 51 (pw_I w 61 45)) 61 52 (pw_I (pw_sI w 61 51 (pw_I w 61 45)) 61 46)) 61 53 (pw_I (pw_sI (pw_sI w 61 51 (pw_I w 61 45)) 61 52 (pw_I (pw_sI w 61 51 (pw_I w 61 45)) 61 46)) 61 47)) 61 54 (pw_I (pw_sI (pw_sI (pw_sI w 61 51 (pw_I w 61 45)) 61 52 (pw_I (pw_sI w 61 51 (pw_I w 61 45)) 61 46)) 61 53 (pw_I (pw_sI (pw_sI w 61 51 (pw_I w 61 45)) 61 52 (pw_I (pw_sI w 61 51 (pw_I w 61 45)) 61 46)) 61 47)) 61 48)) 61 49)) 61 56 (pw_I (pw_sI (pw_sI (pw_sI (pw_sI (pw_sI w 61 51 (pw_I w 61 45)) 61 52 (pw_I (pw_sI w 61 51 (pw_I w 61 45)) 61 46)) 61 53 (pw_I (pw_sI (pw_sI w 61 51 (pw_I w 61 45)) 61 52 (pw_I (pw_sI w 61 51 (pw_I w 61 45)) 61 46)) 61 47)) 61 54 (pw_I (pw_sI (pw_sI (pw_sI w 61 51 (pw_I w 61 45)) 61 52 (pw_I (pw_sI w 61 51 (pw_I w 61 45)) 61 46)) 61 53 (pw_I (pw_sI (pw_sI w 61 51 (pw_I w 61 45)) 61 52 (pw_I (pw_sI w 61 51 (pw_I w 61 45)) 61 46)) 61 47)) 61 48)) 61 55 (pw_I (pw_sI (pw_sI (pw_sI (pw_sI w 61 51 (pw_I w 61 45)) 61 52 (pw_I (pw_sI w 61 51 (pw_I w 61 45)) 61 46)) 61 53 (pw_I (pw_sI (pw_sI w 61 51 (pw_I w 61 45)) 61 52 (pw_I (pw_sI w 61 51 (pw_I w 61 45)) 61 46)) 61 47)) 61 54 (pw_I (pw_sI (pw_sI (pw_sI w 61 51 (pw_I w 61 45)) 61 52 (pw_I (pw_sI w 61 51 (pw_I w 61 45)) 61 46)) 61 53 (pw_I (pw_sI (pw_sI w 61 51 (pw_I w 61 45)) 61 52 (pw_I (pw_sI w 61 51 (pw_I w 61 45)) 61 46)) 61 47)) 61 48)) 61 49)) 61 50)) 61 21 (pw_I (pw_sI (pw_sI (pw_sI (pw_sI (pw_sI (pw_sI w 61 51 (pw_I w 61 45)) 61 52 (pw_I (pw_sI w 61 51 (pw_I w 61 45)) 61 46)) 61 53 (pw_I (pw_sI (pw_sI w 61 51 (pw_I w 61 45)) 61 52 (pw_I (pw_sI w 61 51 (pw_I w 61 45)) 61 46)) 61 47)) 61 54 (pw_I (pw_sI (pw_sI (pw_sI w 61 51 (pw_I w 61 45)) 61 52 (pw_I (pw_sI w 61 51 (pw_I w 61 45)) 61 46)) 61 53 (pw_I (pw_sI (pw_sI w 61 51 (pw_I w 61 45)) 61 52 (pw_I (pw_sI w 61 51 (pw_I w 61 45)) 61 46)) 61 47)) 61 48)) 61 55 (pw_I (pw_sI (pw_sI (pw_sI (pw_sI w 61 51 (pw_I w 61 45)) 61 52 (pw_I (pw_sI w 61 51 (pw_I w 61 45)) 61 46)) 61 53 (pw_I (pw_sI (pw_sI w 61 51 (pw_I w 61 45)) 61 52 (pw_I (pw_sI w 61 51 (pw_I w 61 45)) 61 46)) 61 47)) 61 54 (pw_I (pw_sI (pw_sI (pw_sI w 61 51 (pw_I w 61 45)) 61 52 (pw_I (pw_sI w 61 51 (pw_I w 61 45)) 61 46)) 61 53 (pw_I (pw_sI (pw_sI w 61 51 (pw_I w 61 45)) 61 52 (pw_I (pw_sI w 61 51 (pw_I w 61 45)) 61 46)) 61 47)) 61 48)) 61 49)) 61 56 (pw_I (pw_sI (pw_sI (pw_sI (pw_sI (pw_sI w 61 51 (pw_I w 61 45)) 61 52 (pw_I (pw_sI w 61 51 (pw_I w 61 45)) 61 46)) 61 53 (pw_I (pw_sI (pw_sI w 61 51 (pw_I w 61 45)) 61 52 (pw_I (pw_sI w 61 51 (pw_I w 61 45)) 61 46)) 61 47)) 61 54 (pw_I (pw_sI (pw_sI (pw_sI w 61 51 (pw_I w 61 45)) 61 52 (pw_I (pw_sI w 61 51 (pw_I w 61 45)) 61 46)) 61 53 (pw_I (pw_sI (pw_sI w 61 51 (pw_I w 61 45)) 61 52 (pw_I (pw_sI w 61 51 (pw_I w 61 45)) 61 46)) 61 47)) 61 48)) 61 55 (pw_I (pw_sI (pw_sI (pw_sI (pw_sI w 61 51 (pw_I w 61 45)) 61 52 (pw_I (pw_sI w 61 51 (pw_I w 61 45)) 61 46)) 61 53 (pw_I (pw_sI (pw_sI w 61 51 (pw_I w 61 45)) 61 52 (pw_I (pw_sI w 61 51 (pw_I w 61 45)) 61 46)) 61 47)) 61 54 (pw_I (pw_sI (pw_sI (pw_sI w 61 51 (pw_I w 61 45)) 61 52 (pw_I (pw_sI w 61 51 (pw_I w 61 45)) 61 46)) 61 53 (pw_I (pw_sI (pw_sI w 61 51 (pw_I w 61 45)) 61 52 (pw_I (pw_sI w 61 51 (pw_I w 61 45)) 61 46)) 61 47)) 61 48)) 61 49)) 61 50)) 61 20)) 61 24) = 0 ∨ (pw_I (pw_sI (pw_sI (pw_sI (pw_sI (pw_sI (pw_sI (pw_sI w 61 51 (pw_I w 61 45)) 61 52 (pw_I (pw_sI w 61 51 (pw_I w 61 45)) 61 46)) 61 53 (pw_I (pw_sI (pw_sI w 61 51 (pw_I w 61 45)) 61 52 (pw_I (pw_sI w 61 51 (pw_I w 61 45)) 61 46)) 61 47)) 61 54 (pw_I (pw_sI (pw_sI (pw_sI w 61 51 (pw_I w 61 45)) 61 52 (pw_I (pw_sI w 61 51 (pw_I w 61 45)) 61 46)) 61 53 (pw_I (pw_sI (pw_sI w 61 51 (pw_I w 61 45)) 61 52 (pw_I (pw_sI w 61 51 (pw_I w 61 45)) 61 46)) 61 47)) 61 48)) 61 55 (pw_I (pw_sI (pw_sI (pw_sI (pw_sI w 61 51 (pw_I w 61 45)) 61 52 (pw_I (pw_sI w 61 51 (pw_I w 61 45)) 61 46)) 61 53 (pw_I (pw_sI (pw_sI w 61 51 (pw_I w 61 45)) 61 52 (pw_I (pw_sI w 61 51 (pw_I w 61 45)) 61 46)) 61 47)) 61 54 (pw_I (pw_sI (pw_sI (pw_sI w 61 51 (pw_I w 61 45)) 61 52 (pw_I (pw_sI w 61 51 (pw_I w 61 45)) 61 46)) 61 53 (pw_I (pw_sI (pw_sI w 61 51 (pw_I w 61 45)) 61 52 (pw_I (pw_sI w 61 51 (pw_I w 61 45)) 61 46)) 61 47)) 61 48)) 61 49)) 61 56 (pw_I (pw_sI (pw_sI (pw_sI (pw_sI (pw_sI w 61 51 (pw_I w 61 45)) 61 52 (pw_I (pw_sI w 61 51 (pw_I w 61 45)) 61 46)) 61 53 (pw_I (pw_sI (pw_sI w 61 51 (pw_I w 61 45)) 61 52 (pw_I (pw_sI w 61 51 (pw_I w 61 45)) 61 46)) 61 47)) 61 54 (pw_I (pw_sI (pw_sI (pw_sI w 61 51 (pw_I w 61 45)) 61 52 (pw_I (pw_sI w 61 51 (pw_I w 61 45)) 61 46)) 61 53 (pw_I (pw_sI (pw_sI w 61 51 (pw_I w 61 45)) 61 52 (pw_I (pw_sI w 61 51 (pw_I w 61 45)) 61 46)) 61 47)) 61 48)) 61 55 (pw_I (pw_sI (pw_sI (pw_sI (pw_sI w 61 51 (pw_I w 61 45)) 61 52 (pw_I (pw_sI w 61 51 (pw_I w 61 45)) 61 46)) 61 53 (pw_I (pw_sI (pw_sI w 61 51 (pw_I w 61 45)) 61 52 (pw_I (pw_sI w 61 51 (pw_I w 61 45)) 61 46)) 61 47)) 61 54 (pw_I (pw_sI (pw_sI (pw_sI w 61 51 (pw_I w 61 45)) 61 52 (pw_I (pw_sI w 61 51 (pw_I w 61 45)) 61 46)) 61 53 (pw_I (pw_sI (pw_sI w 61 51 (pw_I w 61 45)) 61 52 (pw_I (pw_sI w 61 51 (pw_I w 61 45)) 61 46)) 61 47)) 61 48)) 61 49)) 61 50)) 61 21 (pw_I (pw_sI (pw_sI (pw_sI (pw_sI (pw_sI (pw_sI w 61 51 (pw_I w 61 45)) 61 52 (pw_I (pw_sI w 61 51 (pw_I w 61 45)) 61 46)) 61 53 (pw_I (pw_sI (pw_sI w 61 51 (pw_I w 61 45)) 61 52 (pw_I (pw_sI w 61 51 (pw_I w 61 45)) 61 46)) 61 47)) 61 54 (pw_I (pw_sI (pw_sI (pw_sI w 61 51 (pw_I w 61 45)) 61 52 (pw_I (pw_sI w 61 51 (pw_I w 61 45)) 61 46)) 61 53 (pw_I (pw_sI (pw_sI w 61 51 (pw_I w 61 45)) 61 52 (pw_I (pw_sI w 61 51 (pw_I w 61 45)) 61 46)) 61 47)) 61 48)) 61 55 (pw_I (pw_sI (pw_sI (pw_sI (pw_sI w 61 51 (pw_I w 61 45)) 61 52 (pw_I (pw_sI w 61 51 (pw_I w 61 45)) 61 46)) 61 53 (pw_I (pw_sI (pw_sI w 61 51 (pw_I w 61 45)) 61 52 (pw_I (pw_sI w 61 51 (pw_I w 61 45)) 61 46)) 61 47)) 61 54 (pw_I (pw_sI (pw_sI (pw_sI w 61 51 (pw_I w 61 45)) 61 52 (pw_I (pw_sI w 61 51 (pw_I w 61 45)) 61 46)) 61 53 (pw_I (pw_sI (pw_sI w 61 51 (pw_I w 61 45)) 61 52 (pw_I (pw_sI w 61 51 (pw_I w 61 45)) 61 46)) 61 47)) 61 48)) 61 49)) 61 56 (pw_I (pw_sI (pw_sI (pw_sI (pw_sI (pw_sI w 61 51 (pw_I w 61 45)) 61 52 (pw_I (pw_sI w 61 51 (pw_I w 61 45)) 61 46)) 61 53 (pw_I (pw_sI (pw_sI w 61 51 (pw_I w 61 45)) 61 52 (pw_I (pw_sI w 61 51 (pw_I w 61 45)) 61 46)) 61 47)) 61 54 (pw_I (pw_sI (pw_sI (pw_sI w 61 51 (pw_I w 61 45)) 61 52 (pw_I (pw_sI w 61 51 (pw_I w 61 45)) 61 46)) 61 53 (pw_I (pw_sI (pw_sI w 61 51 (pw_I w 61 45)) 61 52 (pw_I (pw_sI w 61 51 (pw_I w 61 45)) 61 46)) 61 47)) 61 48)) 61 55 (pw_I (pw_sI (pw_sI (pw_sI (pw_sI w 61 51 (pw_I w 61 45)) 61 52 (pw_I (pw_sI w 61 51 (pw_I w 61 45)) 61 46)) 61 53 (pw_I (pw_sI (pw_sI w 61 51 (pw_I w 61 45)) 61 52 (pw_I (pw_sI w 61 51 (pw_I w 61 45)) 61 46)) 61 47)) 61 54 (pw_I (pw_sI (pw_sI (pw_sI w 61 51 (pw_I w 61 45)) 61 52 (pw_I (pw_sI w 61 51 (pw_I w 61 45)) 61 46)) 61 53 (pw_I (pw_sI (pw_sI w 61 51 (pw_I w 61 45)) 61 52 (pw_I (pw_sI w 61 51 (pw_I w 61 45)) 61 46)) 61 47)) 61 48)) 61 49)) 61 50)) 61 20)) 61 24) = 1)
    (k1 : (pw_I w 61 2) ≤ 0 → (pw_I (pw_sI (pw_sI (pw_sI (pw_sI (pw_sI (pw_sI (pw_sI (pw_sI w 61 51 (pw_I w 61 45)) 61 52 (pw_I (pw_sI w 61 51 (pw_I w 61 45)) 61 46)) 61 53 (pw_I (pw_sI (pw_sI w 61 51 (pw_I w 61 45)) 61 52 (pw_I (pw_sI w 61 51 (pw_I w 61 45)) 61 46)) 61 47)) 61 54 (pw_I (pw_sI (pw_sI (pw_sI w 61 51 (pw_I w 61 45)) 61 52 (pw_I (pw_sI w 61 51 (pw_I w 61 45)) 61 46)) 61 53 (pw_I (pw_sI (pw_sI w 61 51 (pw_I w 61 45)) 61 52 (pw_I (pw_sI w 61 51 (pw_I w 61 45)) 61 46)) 61 47)) 61 48)) 61 55 (pw_I (pw_sI (pw_sI (pw_sI (pw_sI w 61 51 (pw_I w 61 45)) 61 52 (pw_I (pw_sI w 61 51 (pw_I w 61 45)) 61 46)) 61 53 (pw_I (pw_sI (pw_sI w 61 51 (pw_I w 61 45)) 61 52 (pw_I (pw_sI w 61 51 (pw_I w 61 45)) 61 46)) 61 47)) 61 54 (pw_I (pw_sI (pw_sI (pw_sI w 61 51 (pw_I w 61 45)) 61 52 (pw_I (pw_sI w 61 51 (pw_I w 61 45)) 61 46)) 61 53 (pw_I (pw_sI (pw_sI w 61 51 (pw_I w 61 45)) 61 52 (pw_I (pw_sI w 61 51 (pw_I w 61 45)) 61 46)) 61 47)) 61 48)) 61 49)) 61 56 (pw_I (pw_sI (pw_sI (pw_sI (pw_sI (pw_sI w 61 51 (pw_I w 61 45)) 61 52 (pw_I (pw_sI w 61 51 (pw_I w 61 45)) 61 46)) 61 53 (pw_I (pw_sI (pw_sI w 61 51 (pw_I w 61 45)) 61 52 (pw_I (pw_sI w 61 51 (pw_I w 61 45)) 61 46)) 61 47)) 61 54 (pw_I (pw_sI (pw_sI (pw_sI w 61 51 (pw_I w 61 45)) 61 52 (pw_I (pw_sI w 61 51 (pw_I w 61 45)) 61 46)) 61 53 (pw_I (pw_sI (pw_sI w 61 51 (pw_I w 61 45)) 61 52 (pw_I (pw_sI w 61 51 (pw_I w 61 45)) 61 46)) 61 47)) 61 48)) 61 55 (pw_I (pw_sI (pw_sI (pw_sI (pw_sI w 61 51 (pw_I w 61 45)) 61 52 (pw_I (pw_sI w 61 51 (pw_I w 61 45)) 61 46)) 61 53 (pw_I (pw_sI (pw_sI w 61 51 (pw_I w 61 45)) 61 52 (pw_I (pw_sI w 61 51 (pw_I w 61 45)) 61 46)) 61 47)) 61 54 (pw_I (pw_sI (pw_sI (pw_sI w 61 51 (pw_I w 61 45)) 61 52 (pw_I (pw_sI w 61 51 (pw_I w 61 45)) 61 46)) 61 53 (pw_I (pw_sI (pw_sI w 61 51 (pw_I w 61 45)) 61 52 (pw_I (pw_sI w 61 51 (pw_I w 61 45)) 61 46)) 61 47)) 61 48)) 61 49)) 61 50)) 61 21 (pw_I (pw_sI (pw_sI (pw_sI (pw_sI (pw_sI (pw_sI w 61 51 (pw_I w 61 45)) 61 52 (pw_I (pw_sI w 61 51 (pw_I w 61 45)) 61 46)) 61 53 (pw_I (pw_sI (pw_sI w 61 51 (pw_I w 61 45)) 61 52 (pw_I (pw_sI w 61 51 (pw_I w 61 45)) 61 46)) 61 47)) 61 54 (pw_I (pw_sI (pw_sI (pw_sI w 61 51 (pw_I w 61 45)) 61 52 (pw_I (pw_sI w 61 51 (pw_I w 61 45)) 61 46)) 61 53 (pw_I (pw_sI (pw_sI w 61 51 (pw_I w 61 45)) 61 52 (pw_I (pw_sI w 61 51 (pw_I w 61 45)) 61 46)) 61 47)) 61 48)) 61 55 (pw_I (pw_sI (pw_sI (pw_sI (pw_sI w 61 51 (pw_I w 61 45)) 61 52 (pw_I (pw_sI w 61 51 (pw_I w 61 45)) 61 46)) 61 53 (pw_I (pw_sI (pw_sI w 61 51 (pw_I w 61 45)) 61 52 (pw_I (pw_sI w 61 51 (pw_I w 61 45)) 61 46)) 61 47)) 61 54 (pw_I (pw_sI (pw_sI (pw_sI w 61 51 (pw_I w 61 45)) 61 52 (pw_I (pw_sI w 61 51 (pw_I w 61 45)) 61 46)) 61 53 (pw_I (pw_sI (pw_sI w 61 51 (pw_I w 61 45)) 61 52 (pw_I (pw_sI w 61 51 (pw_I w 61 45)) 61 46)) 61 47)) 61 48)) 61 49)) 61 56 (pw_I (pw_sI (pw_sI (pw_sI (pw_sI (pw_sI w 61 51 (pw_I w 61 45)) 61 52 (pw_I (pw_sI w 61 51 (pw_I w 61 45)) 61 46)) 61 53 (pw_I (pw_sI (pw_sI w 61 51 (pw_I w 61 45)) 61 52 (pw_I (pw_sI w 61 51 (pw_I w 61 45)) 61 46)) 61 47)) 61 54 (pw_I (pw_sI (pw_sI (pw_sI w 61 51 (pw_I w 61 45)) 61 52 (pw_I (pw_sI w 61 51 (pw_I w 61 45)) 61 46)) 61 53 (pw_I (pw_sI (pw_sI w 61 51 (pw_I w 61 45)) 61 52 (pw_I (pw_sI w 61 51 (pw_I w 61 45)) 61 46)) 61 47)) 61 48)) 61 55 (pw_I (pw_sI (pw_sI (pw_sI (pw_sI w 61 51 (pw_I w 61 45)) 61 52 (pw_I (pw_sI w 61 51 (pw_I w 61 45)) 61 46)) 61 53 (pw_I (pw_sI (pw_sI w 61 51 (pw_I w 61 45)) 61 52 (pw_I (pw_sI w 61 51 (pw_I w 61 45)) 61 46)) 61 47)) 61 54 (pw_I (pw_sI (pw_sI (pw_sI w 61 51 (pw_I w 61 45)) 61 52 (pw_I (pw_sI w 61 51 (pw_I w 61 45)) 61 46)) 61 53 (pw_I (pw_sI (pw_sI w 61 51 (pw_I w 61 45)) 61 52 (pw_I (pw_sI w 61 51 (pw_I w 61 45)) 61 46)) 61 47)) 61 48)) 61 49)) 61 50)) 61 20)) 61 25 (pw_I (pw_sI (pw_sI (pw_sI (pw_sI (pw_sI (pw_sI (pw_sI w 61 51 (pw_I w 61 45)) 61 52 (pw_I (pw_sI w 61 51 (pw_I w 61 45)) 61 46)) 61 53 (pw_I (pw_sI (pw_sI w 61 51 (pw_I w 61 45)) 61 52 (pw_I (pw_sI w 61 51 (pw_I w 61 45)) 61 46)) 61 47)) 61 54 (pw_I (pw_sI (pw_sI (pw_sI w 61 51 (pw_I w 61 45)) 61 52 (pw_I (pw_sI w 61 51 (pw_I w 61 45)) 61 46)) 61 53 (pw_I (pw_sI (pw_sI w 61 51 (pw_I w 61 45)) 61 52 (pw_I (pw_sI w 61 51 (pw_I w 61 45)) 61 46)) 61 47)) 61 48)) 61 55 (pw_I (pw_sI (pw_sI (pw_sI (pw_sI w 61 51 (pw_I w 61 45)) 61 52 (pw_I (pw_sI w 61 51 (pw_I w 61 45)) 61 46)) 61 53 (pw_I (pw_sI (pw_sI w 61 51 (pw_I w 61 45)) 61 52 (pw_I (pw_sI w 61 51 (pw_I w 61 45)) 61 46)) 61 47)) 61 54 (pw_I (pw_sI (pw_sI (pw_sI w 61 51 (pw_I w 61 45)) 61 52 (pw_I (pw_sI w 61 51 (pw_I w 61 45)) 61 46)) 61 53 (pw_I (pw_sI (pw_sI w 61 51 (pw_I w 61 45)) 61 52 (pw_I (pw_sI w 61 51 (pw_I w 61 45)) 61 46)) 61 47)) 61 48)) 61 49)) 61 56 (pw_I (pw_sI (pw_sI (pw_sI (pw_sI (pw_sI w 61 51 (pw_I w 61 45)) 61 52 (pw_I (pw_sI w 61 51 (pw_I w 61 45)) 61 46)) 61 53 (pw_I (pw_sI (pw_sI w 61 51 (pw_I w 61 45)) 61 52 (pw_I (pw_sI w 61 51 (pw_I w 61 45)) 61 46)) 61 47)) 61 54 (pw_I (pw_sI (pw_sI (pw_sI w 61 51 (pw_I w 61 45)) 61 52 (pw_I (pw_sI w 61 51 (pw_I w 61 45)) 61 46)) 61 53 (pw_I (pw_sI (pw_sI w 61 51 (pw_I w 61 45)) 61 52 (pw_I (pw_sI w 61 51 (pw_I w 61 45)) 61 46)) 61 47)) 61 48)) 61 55 (pw_I (pw_sI (pw_sI (pw_sI (pw_sI w 61 51 (pw_I w 61 45)) 61 52 (pw_I (pw_sI w 61 51 (pw_I w 61 45)) 61 46)) 61 53 (pw_I (pw_sI (pw_sI w 61 51 (pw_I w 61 45)) 61 52 (pw_I (pw_sI w 61 51 (pw_I w 61 45)) 61 46)) 61 47)) 61 54 (pw_I (pw_sI (pw_sI (pw_sI w 61 51 (pw_I w 61 45)) 61 52 (pw_I (pw_sI w 61 51 (pw_I w 61 45)) 61 46)) 61 53 (pw_I (pw_sI (pw_sI w 61 51 (pw_I w 61 45)) 61 52 (pw_I (pw_sI w 61 51 (pw_I w 61 45)) 61 46)) 61 47)) 61 48)) 61 49)) 61 50)) 61 21 (pw_I (pw_sI (pw_sI (pw_sI (pw_sI (pw_sI (pw_sI w 61 51 (pw_I w 61 45)) 61 52 (pw_I (pw_sI w 61 51 (pw_I w 61 45)) 61 46)) 61 53 (pw_I (pw_sI (pw_sI w 61 51 (pw_I w 61 45)) 61 52 (pw_I (pw_sI w 61 51 (pw_I w 61 45)) 61 46)) 61 47)) 61 54 (pw_I (pw_sI (pw_sI (pw_sI w 61 51 (pw_I w 61 45)) 61 52 (pw_I (pw_sI w 61 51 (pw_I w 61 45)) 61 46)) 61 53 (pw_I (pw_sI (pw_sI w 61 51 (pw_I w 61 45)) 61 52 (pw_I (pw_sI w 61 51 (pw_I w 61 45)) 61 46)) 61 47)) 61 48)) 61 55 (pw_I (pw_sI (pw_sI (pw_sI (pw_sI w 61 51 (pw_I w 61 45)) 61 52 (pw_I (pw_sI w 61 51 (pw_I w 61 45)) 61 46)) 61 53 (pw_I (pw_sI (pw_sI w 61 51 (pw_I w 61 45)) 61 52 (pw_I (pw_sI w 61 51 (pw_I w 61 45)) 61 46)) 61 47)) 61 54 (pw_I (pw_sI (pw_sI (pw_sI w 61 51 (pw_I w 61 45)) 61 52 (pw_I (pw_sI w 61 51 (pw_I w 61 45)) 61 46)) 61 53 (pw_I (pw_sI (pw_sI w 61 51 (pw_I w 61 45)) 61 52 (pw_I (pw_sI w 61 51 (pw_I w 61 45)) 61 46)) 61 47)) 61 48)) 61 49)) 61 56 (pw_I (pw_sI (pw_sI (pw_sI (pw_sI (pw_sI w 61 51 (pw_I w 61 45)) 61 52 (pw_I (pw_sI w 61 51 (pw_I w 61 45)) 61 46)) 61 53 (pw_I (pw_sI (pw_sI w 61 51 (pw_I w 61 45)) 61 52 (pw_I (pw_sI w 61 51 (pw_I w 61 45)) 61 46)) 61 47)) 61 54 (pw_I (pw_sI (pw_sI (pw_sI w 61 51 (pw_I w 61 45)) 61 52 (pw_I (pw_sI w 61 51 (pw_I w 61 45)) 61 46)) 61 53 (pw_I (pw_sI (pw_sI w 61 51 (pw_I w 61 45)) 61 52 (pw_I (pw_sI w 61 51 (pw_I w 61 45)) 61 46)) 61 47)) 61 48)) 61 55 (pw_I (pw_sI (pw_sI (pw_sI (pw_sI w 61 51 (pw_I w 61 45)) 61 52 (pw_I (pw_sI w 61 51 (pw_I w 61 45)) 61 46)) 61 53 (pw_I (pw_sI (pw_sI w 61 51 (pw_I w 61 45)) 61 52 (pw_I (pw_sI w 61 51 (pw_I w 61 45)) 61 46)) 61 47)) 61 54 (pw_I (pw_sI (pw_sI (pw_sI w 61 51 (pw_I w 61 45)) 61 52 (pw_I (pw_sI w 61 51 (pw_I w 61 45)) 61 46)) 61 53 (pw_I (pw_sI (pw_sI w 61 51 (pw_I w 61 45)) 61 52 (pw_I (pw_sI w 61 51 (pw_I w 61 45)) 61 46)) 61 47)) 61 48)) 61 49)) 61 50)) 61 20)) 61 24)) 61 24) = 0 → px_W E mX10_hamlet (d + 1) 0 0 93 [.ref 61, .null, .null] [.int 0, .ref 61] (pw_sI (pw_sI (pw_sI (pw_sI (pw_sI (pw_sI (pw_sI (pw_sI w 61 51 (pw_I w 61 45)) 61 52 (pw_I (pw_sI w 61 51 (pw_I w 61 45)) 61 46)) 61 53 (pw_I (pw_sI (pw_sI w 61 51 (pw_I w 61 45)) 61 52 (pw_I (pw_sI w 61 51 (pw_I w 61 45)) 61 46)) 61 47)) 61 54 (pw_I (pw_sI (pw_sI (pw_sI w 61 51 (pw_I w 61 45)) 61 52 (pw_I (pw_sI w 61 51 (pw_I w 61 45)) 61 46)) 61 53 (pw_I (pw_sI (pw_sI w 61 51 (pw_I w 61 45)) 61 52 (pw_I (pw_sI w 61 51 (pw_I w 61 45)) 61 46)) 61 47)) 61 48)) 61 55 (pw_I (pw_sI (pw_sI (pw_sI (pw_sI w 61 51 (pw_I w 61 45)) 61 52 (pw_I (pw_sI w 61 51 (pw_I w 61 45)) 61 46)) 61 53 (pw_I (pw_sI (pw_sI w 61 51 (pw_I w 61 45)) 61 52 (pw_I (pw_sI w 61 51 (pw_I w 61 45)) 61 46)) 61 47)) 61 54 (pw_I (pw_sI (pw_sI (pw_sI w 61 51 (pw_I w 61 45)) 61 52 (pw_I (pw_sI w 61 51 (pw_I w 61 45)) 61 46)) 61 53 (pw_I (pw_sI (pw_sI w 61 51 (pw_I w 61 45)) 61 52 (pw_I (pw_sI w 61 51 (pw_I w 61 45)) 61 46)) 61 47)) 61 48)) 61 49)) 61 56 (pw_I (pw_sI (pw_sI (pw_sI (pw_sI (pw_sI w 61 51 (pw_I w 61 45)) 61 52 (pw_I (pw_sI w 61 51 (pw_I w 61 45)) 61 46)) 61 53 (pw_I (pw_sI (pw_sI w 61 51 (pw_I w 61 45)) 61 52 (pw_I (pw_sI w 61 51 (pw_I w 61 45)) 61 46)) 61 47)) 61 54 (pw_I (pw_sI (pw_sI (pw_sI w 61 51 (pw_I w 61 45)) 61 52 (pw_I (pw_sI w 61 51 (pw_I w 61 45)) 61 46)) 61 53 (pw_I (pw_sI (pw_sI w 61 51 (pw_I w 61 45)) 61 52 (pw_I (pw_sI w 61 51 (pw_I w 61 45)) 61 46)) 61 47)) 61 48)) 61 55 (pw_I (pw_sI (pw_sI (pw_sI (pw_sI w 61 51 (pw_I w 61 45)) 61 52 (pw_I (pw_sI w 61 51 (pw_I w 61 45)) 61 46)) 61 53 (pw_I (pw_sI (pw_sI w 61 51 (pw_I w 61 45)) 61 52 (pw_I (pw_sI w 61 51 (pw_I w 61 45)) 61 46)) 61 47)) 61 54 (pw_I (pw_sI (pw_sI (pw_sI w 61 51 (pw_I w 61 45)) 61 52 (pw_I (pw_sI w 61 51 (pw_I w 61 45)) 61 46)) 61 53 (pw_I (pw_sI (pw_sI w 61 51 (pw_I w 61 45)) 61 52 (pw_I (pw_sI w 61 51 (pw_I w 61 45)) 61 46)) 61 47)) 61 48)) 61 49)) 61 50)) 61 21 (pw_I (pw_sI (pw_sI (pw_sI (pw_sI (pw_sI (pw_sI w 61 51 (pw_I w 61 45)) 61 52 (pw_I (pw_sI w 61 51 (pw_I w 61 45)) 61 46)) 61 53 (pw_I (pw_sI (pw_sI w 61 51 (pw_I w 61 45)) 61 52 (pw_I (pw_sI w 61 51 (pw_I w 61 45)) 61 46)) 61 47)) 61 54 (pw_I (pw_sI (pw_sI (pw_sI w 61 51 (pw_I w 61 45)) 61 52 (pw_I (pw_sI w 61 51 (pw_I w 61 45)) 61 46)) 61 53 (pw_I (pw_sI (pw_sI w 61 51 (pw_I w 61 45)) 61 52 (pw_I (pw_sI w 61 51 (pw_I w 61 45)) 61 46)) 61 47)) 61 48)) 61 55 (pw_I (pw_sI (pw_sI (pw_sI (pw_sI w 61 51 (pw_I w 61 45)) 61 52 (pw_I (pw_sI w 61 51 (pw_I w 61 45)) 61 46)) 61 53 (pw_I (pw_sI (pw_sI w 61 51 (pw_I w 61 45)) 61 52 (pw_I (pw_sI w 61 51 (pw_I w 61 45)) 61 46)) 61 47)) 61 54 (pw_I (pw_sI (pw_sI (pw_sI w 61 51 (pw_I w 61 45)) 61 52 (pw_I (pw_sI w 61 51 (pw_I w 61 45)) 61 46)) 61 53 (pw_I (pw_sI (pw_sI w 61 51 (pw_I w 61 45)) 61 52 (pw_I (pw_sI w 61 51 (pw_I w 61 45)) 61 46)) 61 47)) 61 48)) 61 49)) 61 56 (pw_I (pw_sI (pw_sI (pw_sI (pw_sI (pw_sI w 61 51 (pw_I w 61 45)) 61 52 (pw_I (pw_sI w 61 51 (pw_I w 61 45)) 61 46)) 61 53 (pw_I (pw_sI (pw_sI w 61 51 (pw_I w 61 45)) 61 52 (pw_I (pw_sI w 61 51 (pw_I w 61 45)) 61 46)) 61 47)) 61 54 (pw_I (pw_sI (pw_sI (pw_sI w 61 51 (pw_I w 61 45)) 61 52 (pw_I (pw_sI w 61 51 (pw_I w 61 45)) 61 46)) 61 53 (pw_I (pw_sI (pw_sI w 61 51 (pw_I w 61 45)) 61 52 (pw_I (pw_sI w 61 51 (pw_I w 61 45)) 61 46)) 61 47)) 61 48)) 61 55 (pw_I (pw_sI (pw_sI (pw_sI (pw_sI w 61 51 (pw_I w 61 45)) 61 52 (pw_I (pw_sI w 61 51 (pw_I w 61 45)) 61 46)) 61 53 (pw_I (pw_sI (pw_sI w 61 51 (pw_I w 61 45)) 61 52 (pw_I (pw_sI w 61 51 (pw_I w 61 45)) 61 46)) 61 47)) 61 54 (pw_I (pw_sI (pw_sI (pw_sI w 61 51 (pw_I w 61 45)) 61 52 (pw_I (pw_sI w 61 51 (pw_I w 61 45)) 61 46)) 61 53 (pw_I (pw_sI (pw_sI w 61 51 (pw_I w 61 45)) 61 52 (pw_I (pw_sI w 61 51 (pw_I w 61 45)) 61 46)) 61 47)) 61 48)) 61 49)) 61 50)) 61 20)) 61 25 (pw_I (pw_sI (pw_sI (pw_sI (pw_sI (pw_sI (pw_sI (pw_sI w 61 51 (pw_I w 61 45)) 61 52 (pw_I (pw_sI w 61 51 (pw_I w 61 45)) 61 46)) 61 53 (pw_I (pw_sI (pw_sI w 61 51 (pw_I w 61 45)) 61 52 (pw_I (pw_sI w 61 51 (pw_I w 61 45)) 61 46)) 61 47)) 61 54 (pw_I (pw_sI (pw_sI (pw_sI w 61 51 (pw_I w 61 45)) 61 52 (pw_I (pw_sI w 61 51 (pw_I w 61 45)) 61 46)) 61 53 (pw_I (pw_sI (pw_sI w 61 51 (pw_I w 61 45)) 61 52 (pw_I (pw_sI w 61 51 (pw_I w 61 45)) 61 46)) 61 47)) 61 48)) 61 55 (pw_I (pw_sI (pw_sI (pw_sI (pw_sI w 61 51 (pw_I w 61 45)) 61 52 (pw_I (pw_sI w 61 51 (pw_I w 61 45)) 61 46)) 61 53 (pw_I (pw_sI (pw_sI w 61 51 (pw_I w 61 45)) 61 52 (pw_I (pw_sI w 61 51 (pw_I w 61 45)) 61 46)) 61 47)) 61 54 (pw_I (pw_sI (pw_sI (pw_sI w 61 51 (pw_I w 61 45)) 61 52 (pw_I (pw_sI w 61 51 (pw_I w 61 45)) 61 46)) 61 53 (pw_I (pw_sI (pw_sI w 61 51 (pw_I w 61 45)) 61 52 (pw_I (pw_sI w 61 51 (pw_I w 61 45)) 61 46)) 61 47)) 61 48)) 61 49)) 61 56 (pw_I (pw_sI (pw_sI (pw_sI (pw_sI (pw_sI w 61 51 (pw_I w 61 45)) 61 52 (pw_I (pw_sI w 61 51 (pw_I w 61 45)) 61 46)) 61 53 (pw_I (pw_sI (pw_sI w 61 51 (pw_I w 61 45)) 61 52 (pw_I (pw_sI w 61 51 (pw_I w 61 45)) 61 46)) 61 47)) 61 54 (pw_I (pw_sI (pw_sI (pw_sI w 61 51 (pw_I w 61 45)) 61 52 (pw_I (pw_sI w 61 51 (pw_I w 61 45)) 61 46)) 61 53 (pw_I (pw_sI (pw_sI w 61 51 (pw_I w 61 45)) 61 52 (pw_I (pw_sI w 61 51 (pw_I w 61 45)) 61 46)) 61 47)) 61 48)) 61 55 (pw_I (pw_sI (pw_sI (pw_sI (pw_sI w 61 51 (pw_I w 61 45)) 61 52 (pw_I (pw_sI w 61 51 (pw_I w 61 45)) 61 46)) 61 53 (pw_I (pw_sI (pw_sI w 61 51 (pw_I w 61 45)) 61 52 (pw_I (pw_sI w 61 51 (pw_I w 61 45)) 61 46)) 61 47)) 61 54 (pw_I (pw_sI (pw_sI (pw_sI w 61 51 (pw_I w 61 45)) 61 52 (pw_I (pw_sI w 61 51 (pw_I w 61 45)) 61 46)) 61 53 (pw_I (pw_sI (pw_sI w 61 51 (pw_I w 61 45)) 61 52 (pw_I (pw_sI w 61 51 (pw_I w 61 45)) 61 46)) 61 47)) 61 48)) 61 49)) 61 50)) 61 21 (pw_I (pw_sI (pw_sI (pw_sI (pw_sI (pw_sI (pw_sI w 61 51 (pw_I w 61 45)) 61 52 (pw_I (pw_sI w 61 51 (pw_I w 61 45)) 61 46)) 61 53 (pw_I (pw_sI (pw_sI w 61 51 (pw_I w 61 45)) 61 52 (pw_I (pw_sI w 61 51 (pw_I w 61 45)) 61 46)) 61 47)) 61 54 (pw_I (pw_sI (pw_sI (pw_sI w 61 51 (pw_I w 61 45)) 61 52 (pw_I (pw_sI w 61 51 (pw_I w 61 45)) 61 46)) 61 53 (pw_I (pw_sI (pw_sI w 61 51 (pw_I w 61 45)) 61 52 (pw_I (pw_sI w 61 51 (pw_I w 61 45)) 61 46)) 61 47)) 61 48)) 61 55 (pw_I (pw_sI (pw_sI (pw_sI (pw_sI w 61 51 (pw_I w 61 45)) 61 52 (pw_I (pw_sI w 61 51 (pw_I w 61 45)) 61 46)) 61 53 (pw_I (pw_sI (pw_sI w 61 51 (pw_I w 61 45)) 61 52 (pw_I (pw_sI w 61 51 (pw_I w 61 45)) 61 46)) 61 47)) 61 54 (pw_I (pw_sI (pw_sI (pw_sI w 61 51 (pw_I w 61 45)) 61 52 (pw_I (pw_sI w 61 51 (pw_I w 61 45)) 61 46)) 61 53 (pw_I (pw_sI (pw_sI w 61 51 (pw_I w 61 45)) 61 52 (pw_I (pw_sI w 61 51 (pw_I w 61 45)) 61 46)) 61 47)) 61 48)) 61 49)) 61 56 (pw_I (pw_sI (pw_sI (pw_sI (pw_sI (pw_sI w 61 51 (pw_I w 61 45)) 61 52 (pw_I (pw_sI w 61 51 (pw_I w 61 45)) 61 46)) 61 53 (pw_I (pw_sI (pw_sI w 61 51 (pw_I w 61 45)) 61 52 (pw_I (pw_sI w 61 51 (pw_I w 61 45)) 61 46)) 61 47)) 61 54 (pw_I (pw_sI (pw_sI (pw_sI w 61 51 (pw_I w 61 45)) 61 52 (pw_I (pw_sI w 61 51 (pw_I w 61 45)) 61 46)) 61 53 (pw_I (pw_sI (pw_sI w 61 51 (pw_I w 61 45)) 61 52 (pw_I (pw_sI w 61 51 (pw_I w 61 45)) 61 46)) 61 47)) 61 48)) 61 55 (pw_I (pw_sI (pw_sI (pw_sI (pw_sI w 61 51 (pw_I w 61 45)) 61 52 (pw_I (pw_sI w 61 51 (pw_I w 61 45)) 61 46)) 61 53 (pw_I (pw_sI (pw_sI w 61 51 (pw_I w 61 45)) 61 52 (pw_I (pw_sI w 61 51 (pw_I w 61 45)) 61 46)) 61 47)) 61 54 (pw_I (pw_sI (pw_sI (pw_sI w 61 51 (pw_I w 61 45)) 61 52 (pw_I (pw_sI w 61 51 (pw_I w 61 45)) 61 46)) 61 53 (pw_I (pw_sI (pw_sI w 61 51 (pw_I w 61 45)) 61 52 (pw_I (pw_sI w 61 51 (pw_I w 61 45)) 61 46)) 61 47)) 61 48)) 61 49)) 61 50)) 61 20)) 61 24)) Q)
    (k2 : (pw_I w 61 2) ≤ 0 → ¬ (pw_I (pw_sI (pw_sI (pw_sI (pw_sI (pw_sI (pw_sI (pw_sI (pw_sI w 61 51 (pw_I w 61 45)) 61 52 (pw_I (pw_sI w 61 51 (pw_I w 61 45)) 61 46)) 61 53 (pw_I (pw_sI (pw_sI w 61 51 (pw_I w 61 45)) 61 52 (pw_I (pw_sI w 61 51 (pw_I w 61 45)) 61 46)) 61 47)) 61 54 (pw_I (pw_sI (pw_sI (pw_sI w 61 51 (pw_I w 61 45)) 61 52 (pw_I (pw_sI w 61 51 (pw_I w 61 45)) 61 46)) 61 53 (pw_I (pw_sI (pw_sI w 61 51 (pw_I w 61 45)) 61 52 (pw_I (pw_sI w 61 51 (pw_I w 61 45)) 61 46)) 61 47)) 61 48)) 61 55 (pw_I (pw_sI (pw_sI (pw_sI (pw_sI w 61 51 (pw_I w 61 45)) 61 52 (pw_I (pw_sI w 61 51 (pw_I w 61 45)) 61 46)) 61 53 (pw_I (pw_sI (pw_sI w 61 51 (pw_I w 61 45)) 61 52 (pw_I (pw_sI w 61 51 (pw_I w 61 45)) 61 46)) 61 47)) 61 54 (pw_I (pw_sI (pw_sI (pw_sI w 61 51 (pw_I w 61 45)) 61 52 (pw_I (pw_sI w 61 51 (pw_I w 61 45)) 61 46)) 61 53 (pw_I (pw_sI (pw_sI w 61 51 (pw_I w 61 45)) 61 52 (pw_I (pw_sI w 61 51 (pw_I w 61 45)) 61 46)) 61 47)) 61 48)) 61 49)) 61 56 (pw_I (pw_sI (pw_sI (pw_sI (pw_sI (pw_sI w 61 51 (pw_I w 61 45)) 61 52 (pw_I (pw_sI w 61 51 (pw_I w 61 45)) 61 46)) 61 53 (pw_I (pw_sI (pw_sI w 61 51 (pw_I w 61 45)) 61 52 (pw_I (pw_sI w 61 51 (pw_I w 61 45)) 61 46)) 61 47)) 61 54 (pw_I (pw_sI (pw_sI (pw_sI w 61 51 (pw_I w 61 45)) 61 52 (pw_I (pw_sI w 61 51 (pw_I w 61 45)) 61 46)) 61 53 (pw_I (pw_sI (pw_sI w 61 51 (pw_I w 61 45)) 61 52 (pw_I (pw_sI w 61 51 (pw_I w 61 45)) 61 46)) 61 47)) 61 48)) 61 55 (pw_I (pw_sI (pw_sI (pw_sI (pw_sI w 61 51 (pw_I w 61 45)) 61 52 (pw_I (pw_sI w 61 51 (pw_I w 61 45)) 61 46)) 61 53 (pw_I (pw_sI (pw_sI w 61 51 (pw_I w 61 45)) 61 52 (pw_I (pw_sI w 61 51 (pw_I w 61 45)) 61 46)) 61 47)) 61 54 (pw_I (pw_sI (pw_sI (pw_sI w 61 51 (pw_I w 61 45)) 61 52 (pw_I (pw_sI w 61 51 (pw_I w 61 45)) 61 46)) 61 53 (pw_I (pw_sI (pw_sI w 61 51 (pw_I w 61 45)) 61 52 (pw_I (pw_sI w 61 51 (pw_I w 61 45)) 61 46)) 61 47)) 61 48)) 61 49)) 61 50)) 61 21 (pw_I (pw_sI (pw_sI (pw_sI (pw_sI (pw_sI (pw_sI w 61 51 (pw_I w 61 45)) 61 52 (pw_I (pw_sI w 61 51 (pw_I w 61 45)) 61 46)) 61 53 (pw_I (pw_sI (pw_sI w 61 51 (pw_I w 61 45)) 61 52 (pw_I (pw_sI w 61 51 (pw_I w 61 45)) 61 46)) 61 47)) 61 54 (pw_I (pw_sI (pw_sI (pw_sI w 61 51 (pw_I w 61 45)) 61 52 (pw_I (pw_sI w 61 51 (pw_I w 61 45)) 61 46)) 61 53 (pw_I (pw_sI (pw_sI w 61 51 (pw_I w 61 45)) 61 52 (pw_I (pw_sI w 61 51 (pw_I w 61 45)) 61 46)) 61 47)) 61 48)) 61 55 (pw_I (pw_sI (pw_sI (pw_sI (pw_sI w 61 51 (pw_I w 61 45)) 61 52 (pw_I (pw_sI w 61 51 (pw_I w 61 45)) 61 46)) 61 53 (pw_I (pw_sI (pw_sI w 61 51 (pw_I w 61 45)) 61 52 (pw_I (pw_sI w 61 51 (pw_I w 61 45)) 61 46)) 61 47)) 61 54 (pw_I (pw_sI (pw_sI (pw_sI w 61 51 (pw_I w 61 45)) 61 52 (pw_I (pw_sI w 61 51 (pw_I w 61 45)) 61 46)) 61 53 (pw_I (pw_sI (pw_sI w 61 51 (pw_I w 61 45)) 61 52 (pw_I (pw_sI w 61 51 (pw_I w 61 45)) 61 46)) 61 47)) 61 48)) 61 49)) 61 56 (pw_I (pw_sI (pw_sI (pw_sI (pw_sI (pw_sI w 61 51 (pw_I w 61 45)) 61 52 (pw_I (pw_sI w 61 51 (pw_I w 61 45)) 61 46)) 61 53 (pw_I (pw_sI (pw_sI w 61 51 (pw_I w 61 45)) 61 52 (pw_I (pw_sI w 61 51 (pw_I w 61 45)) 61 46)) 61 47)) 61 54 (pw_I (pw_sI (pw_sI (pw_sI w 61 51 (pw_I w 61 45)) 61 52 (pw_I (pw_sI w 61 51 (pw_I w 61 45)) 61 46)) 61 53 (pw_I (pw_sI (pw_sI w 61 51 (pw_I w 61 45)) 61 52 (pw_I (pw_sI w 61 51 (pw_I w 61 45)) 61 46)) 61 47)) 61 48)) 61 55 (pw_I (pw_sI (pw_sI (pw_sI (pw_sI w 61 51 (pw_I w 61 45)) 61 52 (pw_I (pw_sI w 61 51 (pw_I w 61 45)) 61 46)) 61 53 (pw_I (pw_sI (pw_sI w 61 51 (pw_I w 61 45)) 61 52 (pw_I (pw_sI w 61 51 (pw_I w 61 45)) 61 46)) 61 47)) 61 54 (pw_I (pw_sI (pw_sI (pw_sI w 61 51 (pw_I w 61 45)) 61 52 (pw_I (pw_sI w 61 51 (pw_I w 61 45)) 61 46)) 61 53 (pw_I (pw_sI (pw_sI w 61 51 (pw_I w 61 45)) 61 52 (pw_I (pw_sI w 61 51 (pw_I w 61 45)) 61 46)) 61 47)) 61 48)) 61 49)) 61 50)) 61 20)) 61 25 (pw_I (pw_sI (pw_sI (pw_sI (pw_sI (pw_sI (pw_sI (pw_sI w 61 51 (pw_I w 61 45)) 61 52 (pw_I (pw_sI w 61 51 (pw_I w 61 45)) 61 46)) 61 53 (pw_I (pw_sI (pw_sI w 61 51 (pw_I w 61 45)) 61 52 (pw_I (pw_sI w 61 51 (pw_I w 61 45)) 61 46)) 61 47)) 61 54 (pw_I (pw_sI (pw_sI (pw_sI w 61 51 (pw_I w 61 45)) 61 52 (pw_I (pw_sI w 61 51 (pw_I w 61 45)) 61 46)) 61 53 (pw_I (pw_sI (pw_sI w 61 51 (pw_I w 61 45)) 61 52 (pw_I (pw_sI w 61 51 (pw_I w 61 45)) 61 46)) 61 47)) 61 48)) 61 55 (pw_I (pw_sI (pw_sI (pw_sI (pw_sI w 61 51 (pw_I w 61 45)) 61 52 (pw_I (pw_sI w 61 51 (pw_I w 61 45)) 61 46)) 61 53 (pw_I (pw_sI (pw_sI w 61 51 (pw_I w 61 45)) 61 52 (pw_I (pw_sI w 61 51 (pw_I w 61 45)) 61 46)) 61 47)) 61 54 (pw_I (pw_sI (pw_sI (pw_sI w 61 51 (pw_I w 61 45)) 61 52 (pw_I (pw_sI w 61 51 (pw_I w 61 45)) 61 46)) 61 53 (pw_I (pw_sI (pw_sI w 61 51 (pw_I w 61 45)) 61 52 (pw_I (pw_sI w 61 51 (pw_I w 61 45)) 61 46)) 61 47)) 61 48)) 61 49)) 61 56 (pw_I (pw_sI (pw_sI (pw_sI (pw_sI (pw_sI w 61 51 (pw_I w 61 45)) 61 52 (pw_I (pw_sI w 61 51 (pw_I w 61 45)) 61 46)) 61 53 (pw_I (pw_sI (pw_sI w 61 51 (pw_I w 61 45)) 61 52 (pw_I (pw_sI w 61 51 (pw_I w 61 45)) 61 46)) 61 47)) 61 54 (pw_I (pw_sI (pw_sI (pw_sI w 61 51 (pw_I w 61 45)) 61 52 (pw_I (pw_sI w 61 51 (pw_I w 61 45)) 61 46)) 61 53 (pw_I (pw_sI (pw_sI w 61 51 (pw_I w 61 45)) 61 52 (pw_I (pw_sI w 61 51 (pw_I w 61 45)) 61 46)) 61 47)) 61 48)) 61 55 (pw_I (pw_sI (pw_sI (pw_sI (pw_sI w 61 51 (pw_I w 61 45)) 61 52 (pw_I (pw_sI w 61 51 (pw_I w 61 45)) 61 46)) 61 53 (pw_I (pw_sI (pw_sI w 61 51 (pw_I w 61 45)) 61 52 (pw_I (pw_sI w 61 51 (pw_I w 61 45)) 61 46)) 61 47)) 61 54 (pw_I (pw_sI (pw_sI (pw_sI w 61 51 (pw_I w 61 45)) 61 52 (pw_I (pw_sI w 61 51 (pw_I w 61 45)) 61 46)) 61 53 (pw_I (pw_sI (pw_sI w 61 51 (pw_I w 61 45)) 61 52 (pw_I (pw_sI w 61 51 (pw_I w 61 45)) 61 46)) 61 47)) 61 48)) 61 49)) 61 50)) 61 21 (pw_I (pw_sI (pw_sI (pw_sI (pw_sI (pw_sI (pw_sI w 61 51 (pw_I w 61 45)) 61 52 (pw_I (pw_sI w 61 51 (pw_I w 61 45)) 61 46)) 61 53 (pw_I (pw_sI (pw_sI w 61 51 (pw_I w 61 45)) 61 52 (pw_I (pw_sI w 61 51 (pw_I w 61 45)) 61 46)) 61 47)) 61 54 (pw_I (pw_sI (pw_sI (pw_sI w 61 51 (pw_I w 61 45)) 61 52 (pw_I (pw_sI w 61 51 (pw_I w 61 45)) 61 46)) 61 53 (pw_I (pw_sI (pw_sI w 61 51 (pw_I w 61 45)) 61 52 (pw_I (pw_sI w 61 51 (pw_I w 61 45)) 61 46)) 61 47)) 61 48)) 61 55 (pw_I (pw_sI (pw_sI (pw_sI (pw_sI w 61 51 (pw_I w 61 45)) 61 52 (pw_I (pw_sI w 61 51 (pw_I w 61 45)) 61 46)) 61 53 (pw_I (pw_sI (pw_sI w 61 51 (pw_I w 61 45)) 61 52 (pw_I (pw_sI w 61 51 (pw_I w 61 45)) 61 46)) 61 47)) 61 54 (pw_I (pw_sI (pw_sI (pw_sI w 61 51 (pw_I w 61 45)) 61 52 (pw_I (pw_sI w 61 51 (pw_I w 61 45)) 61 46)) 61 53 (pw_I (pw_sI (pw_sI w 61 51 (pw_I w 61 45)) 61 52 (pw_I (pw_sI w 61 51 (pw_I w 61 45)) 61 46)) 61 47)) 61 48)) 61 49)) 61 56 (pw_I (pw_sI (pw_sI (pw_sI (pw_sI (pw_sI w 61 51 (pw_I w 61 45)) 61 52 (pw_I (pw_sI w 61 51 (pw_I w 61 45)) 61 46)) 61 53 (pw_I (pw_sI (pw_sI w 61 51 (pw_I w 61 45)) 61 52 (pw_I (pw_sI w 61 51 (pw_I w 61 45)) 61 46)) 61 47)) 61 54 (pw_I (pw_sI (pw_sI (pw_sI w 61 51 (pw_I w 61 45)) 61 52 (pw_I (pw_sI w 61 51 (pw_I w 61 45)) 61 46)) 61 53 (pw_I (pw_sI (pw_sI w 61 51 (pw_I w 61 45)) 61 52 (pw_I (pw_sI w 61 51 (pw_I w 61 45)) 61 46)) 61 47)) 61 48)) 61 55 (pw_I (pw_sI (pw_sI (pw_sI (pw_sI w 61 51 (pw_I w 61 45)) 61 52 (pw_I (pw_sI w 61 51 (pw_I w 61 45)) 61 46)) 61 53 (pw_I (pw_sI (pw_sI w 61 51 (pw_I w 61 45)) 61 52 (pw_I (pw_sI w 61 51 (pw_I w 61 45)) 61 46)) 61 47)) 61 54 (pw_I (pw_sI (pw_sI (pw_sI w 61 51 (pw_I w 61 45)) 61 52 (pw_I (pw_sI w 61 51 (pw_I w 61 45)) 61 46)) 61 53 (pw_I (pw_sI (pw_sI w 61 51 (pw_I w 61 45)) 61 52 (pw_I (pw_sI w 61 51 (pw_I w 61 45)) 61 46)) 61 47)) 61 48)) 61 49)) 61 50)) 61 20)) 61 24)) 61 24) = 0 → px_W E mX10_hamlet (d + 1) 0 0 93 [.ref 61, .null, .null] [.int (pw_I (pw_sI (pw_sI (pw_sI (pw_sI (pw_sI (pw_sI (pw_sI (pw_sI w 61 51 (pw_I w 61 45)) 61 52 (pw_I (pw_sI w 61 51 (pw_I w 61 45)) 61 46)) 61 53 (pw_I (pw_sI (pw_sI w 61 51 (pw_I w 61 45)) 61 52 (pw_I (pw_sI w 61 51 (pw_I w 61 45)) 61 46)) 61 47)) 61 54 (pw_I (pw_sI (pw_sI (pw_sI w 61 51 (pw_I w 61 45)) 61 52 (pw_I (pw_sI w 61 51 (pw_I w 61 45)) 61 46)) 61 53 (pw_I (pw_sI (pw_sI w 61 51 (pw_I w 61 45)) 61 52 (pw_I (pw_sI w 61 51 (pw_I w 61 45)) 61 46)) 61 47)) 61 48)) 61 55 (pw_I (pw_sI (pw_sI (pw_sI (pw_sI w 61 51 (pw_I w 61 45)) 61 52 (pw_I (pw_sI w 61 51 (pw_I w 61 45)) 61 46)) 61 53 (pw_I (pw_sI (pw_sI w 61 51 (pw_I w 61 45)) 61 52 (pw_I (pw_sI w 61 51 (pw_I w 61 45)) 61 46)) 61 47)) 61 54 (pw_I (pw_sI (pw_sI (pw_sI w 61 51 (pw_I w 61 45)) 61 52 (pw_I (pw_sI w 61 51 (pw_I w 61 45)) 61 46)) 61 53 (pw_I (pw_sI (pw_sI w 61 51 (pw_I w 61 45)) 61 52 (pw_I (pw_sI w 61 51 (pw_I w 61 45)) 61 46)) 61 47)) 61 48)) 61 49)) 61 56 (pw_I (pw_sI (pw_sI (pw_sI (pw_sI (pw_sI w 61 51 (pw_I w 61 45)) 61 52 (pw_I (pw_sI w 61 51 (pw_I w 61 45)) 61 46)) 61 53 (pw_I (pw_sI (pw_sI w 61 51 (pw_I w 61 45)) 61 52 (pw_I (pw_sI w 61 51 (pw_I w 61 45)) 61 46)) 61 47)) 61 54 (pw_I (pw_sI (pw_sI (pw_sI w 61 51 (pw_I w 61 45)) 61 52 (pw_I (pw_sI w 61 51 (pw_I w 61 45)) 61 46)) 61 53 (pw_I (pw_sI (pw_sI w 61 51 (pw_I w 61 45)) 61 52 (pw_I (pw_sI w 61 51 (pw_I w 61 45)) 61 46)) 61 47)) 61 48)) 61 55 (pw_I (pw_sI (pw_sI (pw_sI (pw_sI w 61 51 (pw_I w 61 45)) 61 52 (pw_I (pw_sI w 61 51 (pw_I w 61 45)) 61 46)) 61 53 (pw_I (pw_sI (pw_sI w 61 51 (pw_I w 61 45)) 61 52 (pw_I (pw_sI w 61 51 (pw_I w 61 45)) 61 46)) 61 47)) 61 54 (pw_I (pw_sI (pw_sI (pw_sI w 61 51 (pw_I w 61 45)) 61 52 (pw_I (pw_sI w 61 51 (pw_I w 61 45)) 61 46)) 61 53 (pw_I (pw_sI (pw_sI w 61 51 (pw_I w 61 45)) 61 52 (pw_I (pw_sI w 61 51 (pw_I w 61 45)) 61 46)) 61 47)) 61 48)) 61 49)) 61 50)) 61 21 (pw_I (pw_sI (pw_sI (pw_sI (pw_sI (pw_sI (pw_sI w 61 51 (pw_I w 61 45)) 61 52 (pw_I (pw_sI w 61 51 (pw_I w 61 45)) 61 46)) 61 53 (pw_I (pw_sI (pw_sI w 61 51 (pw_I w 61 45)) 61 52 (pw_I (pw_sI w 61 51 (pw_I w 61 45)) 61 46)) 61 47)) 61 54 (pw_I (pw_sI (pw_sI (pw_sI w 61 51 (pw_I w 61 45)) 61 52 (pw_I (pw_sI w 61 51 (pw_I w 61 45)) 61 46)) 61 53 (pw_I (pw_sI (pw_sI w 61 51 (pw_I w 61 45)) 61 52 (pw_I (pw_sI w 61 51 (pw_I w 61 45)) 61 46)) 61 47)) 61 48)) 61 55 (pw_I (pw_sI (pw_sI (pw_sI (pw_sI w 61 51 (pw_I w 61 45)) 61 52 (pw_I (pw_sI w 61 51 (pw_I w 61 45)) 61 46)) 61 53 (pw_I (pw_sI (pw_sI w 61 51 (pw_I w 61 45)) 61 52 (pw_I (pw_sI w 61 51 (pw_I w 61 45)) 61 46)) 61 47)) 61 54 (pw_I (pw_sI (pw_sI (pw_sI w 61 51 (pw_I w 61 45)) 61 52 (pw_I (pw_sI w 61 51 (pw_I w 61 45)) 61 46)) 61 53 (pw_I (pw_sI (pw_sI w 61 51 (pw_I w 61 45)) 61 52 (pw_I (pw_sI w 61 51 (pw_I w 61 45)) 61 46)) 61 47)) 61 48)) 61 49)) 61 56 (pw_I (pw_sI (pw_sI (pw_sI (pw_sI (pw_sI w 61 51 (pw_I w 61 45)) 61 52 (pw_I (pw_sI w 61 51 (pw_I w 61 45)) 61 46)) 61 53 (pw_I (pw_sI (pw_sI w 61 51 (pw_I w 61 45)) 61 52 (pw_I (pw_sI w 61 51 (pw_I w 61 45)) 61 46)) 61 47)) 61 54 (pw_I (pw_sI (pw_sI (pw_sI w 61 51 (pw_I w 61 45)) 61 52 (pw_I (pw_sI w 61 51 (pw_I w 61 45)) 61 46)) 61 53 (pw_I (pw_sI (pw_sI w 61 51 (pw_I w 61 45)) 61 52 (pw_I (pw_sI w 61 51 (pw_I w 61 45)) 61 46)) 61 47)) 61 48)) 61 55 (pw_I (pw_sI (pw_sI (pw_sI (pw_sI w 61 51 (pw_I w 61 45)) 61 52 (pw_I (pw_sI w 61 51 (pw_I w 61 45)) 61 46)) 61 53 (pw_I (pw_sI (pw_sI w 61 51 (pw_I w 61 45)) 61 52 (pw_I (pw_sI w 61 51 (pw_I w 61 45)) 61 46)) 61 47)) 61 54 (pw_I (pw_sI (pw_sI (pw_sI w 61 51 (pw_I w 61 45)) 61 52 (pw_I (pw_sI w 61 51 (pw_I w 61 45)) 61 46)) 61 53 (pw_I (pw_sI (pw_sI w 61 51 (pw_I w 61 45)) 61 52 (pw_I (pw_sI w 61 51 (pw_I w 61 45)) 61 46)) 61 47)) 61 48)) 61 49)) 61 50)) 61 20)) 61 25 (pw_I (pw_sI (pw_sI (pw_sI (pw_sI (pw_sI (pw_sI (pw_sI w 61 51 (pw_I w 61 45)) 61 52 (pw_I (pw_sI w 61 51 (pw_I w 61 45)) 61 46)) 61 53 (pw_I (pw_sI (pw_sI w 61 51 (pw_I w 61 45)) 61 52 (pw_I (pw_sI w 61 51 (pw_I w 61 45)) 61 46)) 61 47)) 61 54 (pw_I (pw_sI (pw_sI (pw_sI w 61 51 (pw_I w 61 45)) 61 52 (pw_I (pw_sI w 61 51 (pw_I w 61 45)) 61 46)) 61 53 (pw_I (pw_sI (pw_sI w 61 51 (pw_I w 61 45)) 61 52 (pw_I (pw_sI w 61 51 (pw_I w 61 45)) 61 46)) 61 47)) 61 48)) 61 55 (pw_I (pw_sI (pw_sI (pw_sI (pw_sI w 61 51 (pw_I w 61 45)) 61 52 (pw_I (pw_sI w 61 51 (pw_I w 61 45)) 61 46)) 61 53 (pw_I (pw_sI (pw_sI w 61 51 (pw_I w 61 45)) 61 52 (pw_I (pw_sI w 61 51 (pw_I w 61 45)) 61 46)) 61 47)) 61 54 (pw_I (pw_sI (pw_sI (pw_sI w 61 51 (pw_I w 61 45)) 61 52 (pw_I (pw_sI w 61 51 (pw_I w 61 45)) 61 46)) 61 53 (pw_I (pw_sI (pw_sI w 61 51 (pw_I w 61 45)) 61 52 (pw_I (pw_sI w 61 51 (pw_I w 61 45)) 61 46)) 61 47)) 61 48)) 61 49)) 61 56 (pw_I (pw_sI (pw_sI (pw_sI (pw_sI (pw_sI w 61 51 (pw_I w 61 45)) 61 52 (pw_I (pw_sI w 61 51 (pw_I w 61 45)) 61 46)) 61 53 (pw_I (pw_sI (pw_sI w 61 51 (pw_I w 61 45)) 61 52 (pw_I (pw_sI w 61 51 (pw_I w 61 45)) 61 46)) 61 47)) 61 54 (pw_I (pw_sI (pw_sI (pw_sI w 61 51 (pw_I w 61 45)) 61 52 (pw_I (pw_sI w 61 51 (pw_I w 61 45)) 61 46)) 61 53 (pw_I (pw_sI (pw_sI w 61 51 (pw_I w 61 45)) 61 52 (pw_I (pw_sI w 61 51 (pw_I w 61 45)) 61 46)) 61 47)) 61 48)) 61 55 (pw_I (pw_sI (pw_sI (pw_sI (pw_sI w 61 51 (pw_I w 61 45)) 61 52 (pw_I (pw_sI w 61 51 (pw_I w 61 45)) 61 46)) 61 53 (pw_I (pw_sI (pw_sI w 61 51 (pw_I w 61 45)) 61 52 (pw_I (pw_sI w 61 51 (pw_I w 61 45)) 61 46)) 61 47)) 61 54 (pw_I (pw_sI (pw_sI (pw_sI w 61 51 (pw_I w 61 45)) 61 52 (pw_I (pw_sI w 61 51 (pw_I w 61 45)) 61 46)) 61 53 (pw_I (pw_sI (pw_sI w 61 51 (pw_I w 61 45)) 61 52 (pw_I (pw_sI w 61 51 (pw_I w 61 45)) 61 46)) 61 47)) 61 48)) 61 49)) 61 50)) 61 21 (pw_I (pw_sI (pw_sI (pw_sI (pw_sI (pw_sI (pw_sI w 61 51 (pw_I w 61 45)) 61 52 (pw_I (pw_sI w 61 51 (pw_I w 61 45)) 61 46)) 61 53 (pw_I (pw_sI (pw_sI w 61 51 (pw_I w 61 45)) 61 52 (pw_I (pw_sI w 61 51 (pw_I w 61 45)) 61 46)) 61 47)) 61 54 (pw_I (pw_sI (pw_sI (pw_sI w 61 51 (pw_I w 61 45)) 61 52 (pw_I (pw_sI w 61 51 (pw_I w 61 45)) 61 46)) 61 53 (pw_I (pw_sI (pw_sI w 61 51 (pw_I w 61 45)) 61 52 (pw_I (pw_sI w 61 51 (pw_I w 61 45)) 61 46)) 61 47)) 61 48)) 61 55 (pw_I (pw_sI (pw_sI (pw_sI (pw_sI w 61 51 (pw_I w 61 45)) 61 52 (pw_I (pw_sI w 61 51 (pw_I w 61 45)) 61 46)) 61 53 (pw_I (pw_sI (pw_sI w 61 51 (pw_I w 61 45)) 61 52 (pw_I (pw_sI w 61 51 (pw_I w 61 45)) 61 46)) 61 47)) 61 54 (pw_I (pw_sI (pw_sI (pw_sI w 61 51 (pw_I w 61 45)) 61 52 (pw_I (pw_sI w 61 51 (pw_I w 61 45)) 61 46)) 61 53 (pw_I (pw_sI (pw_sI w 61 51 (pw_I w 61 45)) 61 52 (pw_I (pw_sI w 61 51 (pw_I w 61 45)) 61 46)) 61 47)) 61 48)) 61 49)) 61 56 (pw_I (pw_sI (pw_sI (pw_sI (pw_sI (pw_sI w 61 51 (pw_I w 61 45)) 61 52 (pw_I (pw_sI w 61 51 (pw_I w 61 45)) 61 46)) 61 53 (pw_I (pw_sI (pw_sI w 61 51 (pw_I w 61 45)) 61 52 (pw_I (pw_sI w 61 51 (pw_I w 61 45)) 61 46)) 61 47)) 61 54 (pw_I (pw_sI (pw_sI (pw_sI w 61 51 (pw_I w 61 45)) 61 52 (pw_I (pw_sI w 61 51 (pw_I w 61 45)) 61 46)) 61 53 (pw_I (pw_sI (pw_sI w 61 51 (pw_I w 61 45)) 61 52 (pw_I (pw_sI w 61 51 (pw_I w 61 45)) 61 46)) 61 47)) 61 48)) 61 55 (pw_I (pw_sI (pw_sI (pw_sI (pw_sI w 61 51 (pw_I w 61 45)) 61 52 (pw_I (pw_sI w 61 51 (pw_I w 61 45)) 61 46)) 61 53 (pw_I (pw_sI (pw_sI w 61 51 (pw_I w 61 45)) 61 52 (pw_I (pw_sI w 61 51 (pw_I w 61 45)) 61 46)) 61 47)) 61 54 (pw_I (pw_sI (pw_sI (pw_sI w 61 51 (pw_I w 61 45)) 61 52 (pw_I (pw_sI w 61 51 (pw_I w 61 45)) 61 46)) 61 53 (pw_I (pw_sI (pw_sI w 61 51 (pw_I w 61 45)) 61 52 (pw_I (pw_sI w 61 51 (pw_I w 61 45)) 61 46)) 61 47)) 61 48)) 61 49)) 61 50)) 61 20)) 61 24)) 61 17), .ref 61] (pw_sI (pw_sI (pw_sI (pw_sI (pw_sI (pw_sI (pw_sI (pw_sI w 61 51 (pw_I w 61 45)) 61 52 (pw_I (pw_sI w 61 51 (pw_I w 61 45)) 61 46)) 61 53 (pw_I (pw_sI (pw_sI w 61 51 (pw_I w 61 45)) 61 52 (pw_I (pw_sI w 61 51 (pw_I w 61 45)) 61 46)) 61 47)) 61 54 (pw_I (pw_sI (pw_sI (pw_sI w 61 51 (pw_I w 61 45)) 61 52 (pw_I (pw_sI w 61 51 (pw_I w 61 45)) 61 46)) 61 53 (pw_I (pw_sI (pw_sI w 61 51 (pw_I w 61 45)) 61 52 (pw_I (pw_sI w 61 51 (pw_I w 61 45)) 61 46)) 61 47)) 61 48)) 61 55 (pw_I (pw_sI (pw_sI (pw_sI (pw_sI w 61 51 (pw_I w 61 45)) 61 52 (pw_I (pw_sI w 61 51 (pw_I w 61 45)) 61 46)) 61 53 (pw_I (pw_sI (pw_sI w 61 51 (pw_I w 61 45)) 61 52 (pw_I (pw_sI w 61 51 (pw_I w 61 45)) 61 46)) 61 47)) 61 54 (pw_I (pw_sI (pw_sI (pw_sI w 61 51 (pw_I w 61 45)) 61 52 (pw_I (pw_sI w 61 51 (pw_I w 61 45)) 61 46)) 61 53 (pw_I (pw_sI (pw_sI w 61 51 (pw_I w 61 45)) 61 52 (pw_I (pw_sI w 61 51 (pw_I w 61 45)) 61 46)) 61 47)) 61 48)) 61 49)) 61 56 (pw_I (pw_sI (pw_sI (pw_sI (pw_sI (pw_sI w 61 51 (pw_I w 61 45)) 61 52 (pw_I (pw_sI w 61 51 (pw_I w 61 45)) 61 46)) 61 53 (pw_I (pw_sI (pw_sI w 61 51 (pw_I w 61 45)) 61 52 (pw_I (pw_sI w 61 51 (pw_I w 61 45)) 61 46)) 61 47)) 61 54 (pw_I (pw_sI (pw_sI (pw_sI w 61 51 (pw_I w 61 45)) 61 52 (pw_I (pw_sI w 61 51 (pw_I w 61 45)) 61 46)) 61 53 (pw_I (pw_sI (pw_sI w 61 51 (pw_I w 61 45)) 61 52 (pw_I (pw_sI w 61 51 (pw_I w 61 45)) 61 46)) 61 47)) 61 48)) 61 55 (pw_I (pw_sI (pw_sI (pw_sI (pw_sI w 61 51 (pw_I w 61 45)) 61 52 (pw_I (pw_sI w 61 51 (pw_I w 61 45)) 61 46)) 61 53 (pw_I (pw_sI (pw_sI w 61 51 (pw_I w 61 45)) 61 52 (pw_I (pw_sI w 61 51 (pw_I w 61 45)) 61 46)) 61 47)) 61 54 (pw_I (pw_sI (pw_sI (pw_sI w 61 51 (pw_I w 61 45)) 61 52 (pw_I (pw_sI w 61 51 (pw_I w 61 45)) 61 46)) 61 53 (pw_I (pw_sI (pw_sI w 61 51 (pw_I w 61 45)) 61 52 (pw_I (pw_sI w 61 51 (pw_I w 61 45)) 61 46)) 61 47)) 61 48)) 61 49)) 61 50)) 61 21 (pw_I (pw_sI (pw_sI (pw_sI (pw_sI (pw_sI (pw_sI w 61 51 (pw_I w 61 45)) 61 52 (pw_I (pw_sI w 61 51 (pw_I w 61 45)) 61 46)) 61 53 (pw_I (pw_sI (pw_sI w 61 51 (pw_I w 61 45)) 61 52 (pw_I (pw_sI w 61 51 (pw_I w 61 45)) 61 46)) 61 47)) 61 54 (pw_I (pw_sI (pw_sI (pw_sI w 61 51 (pw_I w 61 45)) 61 52 (pw_I (pw_sI w 61 51 (pw_I w 61 45)) 61 46)) 61 53 (pw_I (pw_sI (pw_sI w 61 51 (pw_I w 61 45)) 61 52 (pw_I (pw_sI w 61 51 (pw_I w 61 45)) 61 46)) 61 47)) 61 48)) 61 55 (pw_I (pw_sI (pw_sI (pw_sI (pw_sI w 61 51 (pw_I w 61 45)) 61 52 (pw_I (pw_sI w 61 51 (pw_I w 61 45)) 61 46)) 61 53 (pw_I (pw_sI (pw_sI w 61 51 (pw_I w 61 45)) 61 52 (pw_I (pw_sI w 61 51 (pw_I w 61 45)) 61 46)) 61 47)) 61 54 (pw_I (pw_sI (pw_sI (pw_sI w 61 51 (pw_I w 61 45)) 61 52 (pw_I (pw_sI w 61 51 (pw_I w 61 45)) 61 46)) 61 53 (pw_I (pw_sI (pw_sI w 61 51 (pw_I w 61 45)) 61 52 (pw_I (pw_sI w 61 51 (pw_I w 61 45)) 61 46)) 61 47)) 61 48)) 61 49)) 61 56 (pw_I (pw_sI (pw_sI (pw_sI (pw_sI (pw_sI w 61 51 (pw_I w 61 45)) 61 52 (pw_I (pw_sI w 61 51 (pw_I w 61 45)) 61 46)) 61 53 (pw_I (pw_sI (pw_sI w 61 51 (pw_I w 61 45)) 61 52 (pw_I (pw_sI w 61 51 (pw_I w 61 45)) 61 46)) 61 47)) 61 54 (pw_I (pw_sI (pw_sI (pw_sI w 61 51 (pw_I w 61 45)) 61 52 (pw_I (pw_sI w 61 51 (pw_I w 61 45)) 61 46)) 61 53 (pw_I (pw_sI (pw_sI w 61 51 (pw_I w 61 45)) 61 52 (pw_I (pw_sI w 61 51 (pw_I w 61 45)) 61 46)) 61 47)) 61 48)) 61 55 (pw_I (pw_sI (pw_sI (pw_sI (pw_sI w 61 51 (pw_I w 61 45)) 61 52 (pw_I (pw_sI w 61 51 (pw_I w 61 45)) 61 46)) 61 53 (pw_I (pw_sI (pw_sI w 61 51 (pw_I w 61 45)) 61 52 (pw_I (pw_sI w 61 51 (pw_I w 61 45)) 61 46)) 61 47)) 61 54 (pw_I (pw_sI (pw_sI (pw_sI w 61 51 (pw_I w 61 45)) 61 52 (pw_I (pw_sI w 61 51 (pw_I w 61 45)) 61 46)) 61 53 (pw_I (pw_sI (pw_sI w 61 51 (pw_I w 61 45)) 61 52 (pw_I (pw_sI w 61 51 (pw_I w 61 45)) 61 46)) 61 47)) 61 48)) 61 49)) 61 50)) 61 20)) 61 25 (pw_I (pw_sI (pw_sI (pw_sI (pw_sI (pw_sI (pw_sI (pw_sI w 61 51 (pw_I w 61 45)) 61 52 (pw_I (pw_sI w 61 51 (pw_I w 61 45)) 61 46)) 61 53 (pw_I (pw_sI (pw_sI w 61 51 (pw_I w 61 45)) 61 52 (pw_I (pw_sI w 61 51 (pw_I w 61 45)) 61 46)) 61 47)) 61 54 (pw_I (pw_sI (pw_sI (pw_sI w 61 51 (pw_I w 61 45)) 61 52 (pw_I (pw_sI w 61 51 (pw_I w 61 45)) 61 46)) 61 53 (pw_I (pw_sI (pw_sI w 61 51 (pw_I w 61 45)) 61 52 (pw_I (pw_sI w 61 51 (pw_I w 61 45)) 61 46)) 61 47)) 61 48)) 61 55 (pw_I (pw_sI (pw_sI (pw_sI (pw_sI w 61 51 (pw_I w 61 45)) 61 52 (pw_I (pw_sI w 61 51 (pw_I w 61 45)) 61 46)) 61 53 (pw_I (pw_sI (pw_sI w 61 51 (pw_I w 61 45)) 61 52 (pw_I (pw_sI w 61 51 (pw_I w 61 45)) 61 46)) 61 47)) 61 54 (pw_I (pw_sI (pw_sI (pw_sI w 61 51 (pw_I w 61 45)) 61 52 (pw_I (pw_sI w 61 51 (pw_I w 61 45)) 61 46)) 61 53 (pw_I (pw_sI (pw_sI w 61 51 (pw_I w 61 45)) 61 52 (pw_I (pw_sI w 61 51 (pw_I w 61 45)) 61 46)) 61 47)) 61 48)) 61 49)) 61 56 (pw_I (pw_sI (pw_sI (pw_sI (pw_sI (pw_sI w 61 51 (pw_I w 61 45)) 61 52 (pw_I (pw_sI w 61 51 (pw_I w 61 45)) 61 46)) 61 53 (pw_I (pw_sI (pw_sI w 61 51 (pw_I w 61 45)) 61 52 (pw_I (pw_sI w 61 51 (pw_I w 61 45)) 61 46)) 61 47)) 61 54 (pw_I (pw_sI (pw_sI (pw_sI w 61 51 (pw_I w 61 45)) 61 52 (pw_I (pw_sI w 61 51 (pw_I w 61 45)) 61 46)) 61 53 (pw_I (pw_sI (pw_sI w 61 51 (pw_I w 61 45)) 61 52 (pw_I (pw_sI w 61 51 (pw_I w 61 45)) 61 46)) 61 47)) 61 48)) 61 55 (pw_I (pw_sI (pw_sI (pw_sI (pw_sI w 61 51 (pw_I w 61 45)) 61 52 (pw_I (pw_sI w 61 51 (pw_I w 61 45)) 61 46)) 61 53 (pw_I (pw_sI (pw_sI w 61 51 (pw_I w 61 45)) 61 52 (pw_I (pw_sI w 61 51 (pw_I w 61 45)) 61 46)) 61 47)) 61 54 (pw_I (pw_sI (pw_sI (pw_sI w 61 51 (pw_I w 61 45)) 61 52 (pw_I (pw_sI w 61 51 (pw_I w 61 45)) 61 46)) 61 53 (pw_I (pw_sI (pw_sI w 61 51 (pw_I w 61 45)) 61 52 (pw_I (pw_sI w 61 51 (pw_I w 61 45)) 61 46)) 61 47)) 61 48)) 61 49)) 61 50)) 61 21 (pw_I (pw_sI (pw_sI (pw_sI (pw_sI (pw_sI (pw_sI w 61 51 (pw_I w 61 45)) 61 52 (pw_I (pw_sI w 61 51 (pw_I w 61 45)) 61 46)) 61 53 (pw_I (pw_sI (pw_sI w 61 51 (pw_I w 61 45)) 61 52 (pw_I (pw_sI w 61 51 (pw_I w 61 45)) 61 46)) 61 47)) 61 54 (pw_I (pw_sI (pw_sI (pw_sI w 61 51 (pw_I w 61 45)) 61 52 (pw_I (pw_sI w 61 51 (pw_I w 61 45)) 61 46)) 61 53 (pw_I (pw_sI (pw_sI w 61 51 (pw_I w 61 45)) 61 52 (pw_I (pw_sI w 61 51 (pw_I w 61 45)) 61 46)) 61 47)) 61 48)) 61 55 (pw_I (pw_sI (pw_sI (pw_sI (pw_sI w 61 51 (pw_I w 61 45)) 61 52 (pw_I (pw_sI w 61 51 (pw_I w 61 45)) 61 46)) 61 53 (pw_I (pw_sI (pw_sI w 61 51 (pw_I w 61 45)) 61 52 (pw_I (pw_sI w 61 51 (pw_I w 61 45)) 61 46)) 61 47)) 61 54 (pw_I (pw_sI (pw_sI (pw_sI w 61 51 (pw_I w 61 45)) 61 52 (pw_I (pw_sI w 61 51 (pw_I w 61 45)) 61 46)) 61 53 (pw_I (pw_sI (pw_sI w 61 51 (pw_I w 61 45)) 61 52 (pw_I (pw_sI w 61 51 (pw_I w 61 45)) 61 46)) 61 47)) 61 48)) 61 49)) 61 56 (pw_I (pw_sI (pw_sI (pw_sI (pw_sI (pw_sI w 61 51 (pw_I w 61 45)) 61 52 (pw_I (pw_sI w 61 51 (pw_I w 61 45)) 61 46)) 61 53 (pw_I (pw_sI (pw_sI w 61 51 (pw_I w 61 45)) 61 52 (pw_I (pw_sI w 61 51 (pw_I w 61 45)) 61 46)) 61 47)) 61 54 (pw_I (pw_sI (pw_sI (pw_sI w 61 51 (pw_I w 61 45)) 61 52 (pw_I (pw_sI w 61 51 (pw_I w 61 45)) 61 46)) 61 53 (pw_I (pw_sI (pw_sI w 61 51 (pw_I w 61 45)) 61 52 (pw_I (pw_sI w 61 51 (pw_I w 61 45)) 61 46)) 61 47)) 61 48)) 61 55 (pw_I (pw_sI (pw_sI (pw_sI (pw_sI w 61 51 (pw_I w 61 45)) 61 52 (pw_I (pw_sI w 61 51 (pw_I w 61 45)) 61 46)) 61 53 (pw_I (pw_sI (pw_sI w 61 51 (pw_I w 61 45)) 61 52 (pw_I (pw_sI w 61 51 (pw_I w 61 45)) 61 46)) 61 47)) 61 54 (pw_I (pw_sI (pw_sI (pw_sI w 61 51 (pw_I w 61 45)) 61 52 (pw_I (pw_sI w 61 51 (pw_I w 61 45)) 61 46)) 61 53 (pw_I (pw_sI (pw_sI w 61 51 (pw_I w 61 45)) 61 52 (pw_I (pw_sI w 61 51 (pw_I w 61 45)) 61 46)) 61 47)) 61 48)) 61 49)) 61 50)) 61 20)) 61 24)) Q)
    (k3 : ¬ (pw_I w 61 2) ≤ 0 → Q (some (.int (-1))) w) :
    px_W E mX10_hamlet (d + 1) 0 0 4 [.ref 61, .null, .null] [] w Q := by
  refine px_aload_n dX10_hamlet_4 rfl rfl ?_
  refine px_getI dX10_hamlet_5 fr_10_197 rfl (px_sh1 hw sh_61) ?_
  refine px_if_le (tgt := 13) dX10_hamlet_8 (by decide) (fun h1 => ?_) (fun h1 => ?_)
  ·
    refine px_aload_n dX10_hamlet_13 rfl rfl ?_
    refine px_aload_n dX10_hamlet_14 rfl rfl ?_
    refine px_getI dX10_hamlet_15 fr_10_272 rfl (px_sh1 hw sh_61) ?_
    refine px_putI dX10_hamlet_18 fl_10_404 (Or.inl rfl) rfl (px_sh1 hw sh_61) rfl rfl (by omega) ?_
    refine px_aload_n dX10_hamlet_21 rfl rfl ?_
    refine px_aload_n dX10_hamlet_22 rfl rfl ?_
    refine px_getI dX10_hamlet_23 fr_10_356 rfl (px_sh1 hw sh_61) ?_
    refine px_putI dX10_hamlet_26 fl_10_407 (Or.inl rfl) rfl (px_sh1 hw sh_61) rfl rfl (by omega) ?_
    refine px_aload_n dX10_hamlet_29 rfl rfl ?_
    refine px_aload_n dX10_hamlet_30 rfl rfl ?_
    refine px_getI dX10_hamlet_31 fr_10_362 rfl (px_sh1 hw sh_61) ?_
    refine px_putI dX10_hamlet_34 fl_10_410 (Or.inl rfl) rfl (px_sh1 hw sh_61) rfl rfl (by omega) ?_
    refine px_aload_n dX10_hamlet_37 rfl rfl ?_
    refine px_aload_n dX10_hamlet_38 rfl rfl ?_
    refine px_getI dX10_hamlet_39 fr_10_383 rfl (px_sh1 hw sh_61) ?_
    refine px_putI dX10_hamlet_42 fl_10_96 (Or.inl rfl) rfl (px_sh1 hw sh_61) rfl rfl (by omega) ?_
    refine px_aload_n dX10_hamlet_45 rfl rfl ?_
    refine px_aload_n dX10_hamlet_46 rfl rfl ?_
    refine px_getI dX10_hamlet_47 fr_10_389 rfl (px_sh1 hw sh_61) ?_
    refine px_putI dX10_hamlet_50 fl_10_413 (Or.inl rfl) rfl (px_sh1 hw sh_61) rfl rfl (by omega) ?_
    refine px_aload_n dX10_hamlet_53 rfl rfl ?_
    refine px_aload_n dX10_hamlet_54 rfl rfl ?_
    refine px_getI dX10_hamlet_55 fr_10_395 rfl (px_sh1 hw sh_61) ?_
    refine px_putI dX10_hamlet_58 fl_10_416 (Or.inl rfl) rfl (px_sh1 hw sh_61) rfl rfl (by omega) ?_
    refine px_aload_n dX10_hamlet_61 rfl rfl ?_
    refine px_aload_n dX10_hamlet_62 rfl rfl ?_
    refine px_getI dX10_hamlet_63 fr_10_291 rfl (px_sh1 hw sh_61) ?_
    refine px_putI dX10_hamlet_66 fl_10_419 (Or.inl rfl) rfl (px_sh1 hw sh_61) rfl rfl (by omega) ?_
    refine px_aload_n dX10_hamlet_69 rfl rfl ?_
    refine px_aload_n dX10_hamlet_70 rfl rfl ?_
    refine px_getI dX10_hamlet_71 fr_10_313 rfl (px_sh1 hw sh_61) ?_
    refine px_putI dX10_hamlet_74 fl_10_336 (Or.inl rfl) rfl (px_sh1 hw sh_61) (px_nb (hb1 h1)) (px_fb (hb1 h1)) (by omega) ?_
    refine px_aload_n dX10_hamlet_77 rfl rfl ?_
    refine px_aload_n dX10_hamlet_78 rfl rfl ?_
    refine px_getI dX10_hamlet_79 fr_10_313 rfl (px_sh1 hw sh_61) ?_
    refine px_if_eq (tgt := 92) dX10_hamlet_82 (by decide) (fun h2 => ?_) (fun h2 => ?_)
    ·
      refine px_iconst dX10_hamlet_92 ic_0 ?_
      exact (k1 h1 h2)
    ·
      refine px_aload_n dX10_hamlet_85 rfl rfl ?_
      refine px_getI dX10_hamlet_86 fr_10_275 rfl (px_sh1 hw sh_61) ?_
      refine px_goto (tgt := 93) dX10_hamlet_89 (by decide) ?_
      exact (k2 h1 h2)
  ·
    refine px_iconst dX10_hamlet_11 ic_m1 ?_
    exact px_ireturn dX10_hamlet_12 rfl rfl (k3 h1)
theorem bX10_hamlet_93 {E : px_E} {d : Nat} {w : pw_W} {Q : Option Value → pw_W → Prop} {t : ct_T} (hw : w.1 = cs t) {y1 : Int32}  
    (k1 : px_W E mX10_hamlet (d + 1) 0 0 98 [.ref 61, .int 0, .null] [] (pw_sI w 61 18 y1) Q) :
    px_W E mX10_hamlet (d + 1) 0 0 93 [.ref 61, .null, .null] [.int y1, .ref 61] w Q := by
  refine px_putI dX10_hamlet_93 fl_10_343 (Or.inl rfl) rfl (px_sh1 hw sh_61) rfl rfl (by omega) ?_
  refine px_iconst dX10_hamlet_96 ic_0 ?_
  refine px_istore_n (ls' := [.ref 61, .int 0, .null]) dX10_hamlet_97 rfl ⟨by decide, rfl⟩ rfl ?_
  exact k1
theorem bX10_hamlet_98 {E : px_E} {d : Nat} {w : pw_W} {Q : Option Value → pw_W → Prop} {t : ct_T} (hw : w.1 = cs t) {x1 : Int32}  
    (k1 : (pw_I w 61 18) ≤ x1 → px_W E mX10_hamlet (d + 1) 0 0 138 [.ref 61, .int 0, .null] [] w Q)
    (k2 : ¬ (pw_I w 61 18) ≤ x1 → px_W E mX10_hamlet (d + 1) 0 0 106 [.ref 61, .int x1, .null] [] w Q) :
    px_W E mX10_hamlet (d + 1) 0 0 98 [.ref 61, .int x1, .null] [] w Q := by
  refine px_iload_n dX10_hamlet_98 rfl rfl ?_
  refine px_aload_n dX10_hamlet_99 rfl rfl ?_
  refine px_getI dX10_hamlet_100 fr_10_343 rfl (px_sh1 hw sh_61) ?_
  refine px_icmp_ge (tgt := 136) dX10_hamlet_103 (by decide) (fun h1 => ?_) (fun h1 => ?_)
  ·
    refine px_iconst dX10_hamlet_136 ic_0 ?_
    refine px_istore_n (ls' := [.ref 61, .int 0, .null]) dX10_hamlet_137 rfl ⟨by decide, rfl⟩ rfl ?_
    exact (k1 h1)
  ·
    exact (k2 h1)
theorem bX10_hamlet_106 {E : px_E} {d : Nat} {w : pw_W} {Q : Option Value → pw_W → Prop} {t : ct_T} (hw : w.1 = cs t) {x1 : Int32}  (j1 : Nat) (hj1 : x1 = nI j1) (hl1 : j1 < 320)
    (k1 : px_W E mX10_hamlet (d + 1) 0 0 98 [.ref 61, .int (x1 + 1), .null] [] (pw_sI (pw_sI w 66 j1 (pw_I w 64 j1)) 67 j1 (pw_I (pw_sI w 66 j1 (pw_I w 64 j1)) 65 j1)) Q) :
    px_W E mX10_hamlet (d + 1) 0 0 106 [.ref 61, .int x1, .null] [] w Q := by
  refine px_aload_n dX10_hamlet_106 rfl rfl ?_
  refine px_getR (v := 66) dX10_hamlet_107 fr_10_27 rfl (px_sh1 hw sh_61) (px_rf hw rf_61_13) (by decide) ?_
  refine px_iload_n dX10_hamlet_110 rfl rfl ?_
  refine px_aload_n dX10_hamlet_111 rfl rfl ?_
  refine px_getR (v := 64) dX10_hamlet_112 fr_10_21 rfl (px_sh1 hw sh_61) (px_rf hw rf_61_11) (by decide) ?_
  refine px_iload_n dX10_hamlet_115 rfl rfl ?_
  refine px_iald dX10_hamlet_116 (px_sh2 hw sh_64) (by decide) j1 hj1 hl1 ?_
  refine px_iast dX10_hamlet_117 (px_sh2 hw sh_66) (by decide) j1 hj1 hl1 (by omega) ?_
  refine px_aload_n dX10_hamlet_118 rfl rfl ?_
  refine px_getR (v := 67) dX10_hamlet_119 fr_10_30 rfl (px_sh1 hw sh_61) (px_rf hw rf_61_14) (by decide) ?_
  refine px_iload_n dX10_hamlet_122 rfl rfl ?_
  refine px_aload_n dX10_hamlet_123 rfl rfl ?_
  refine px_getR (v := 65) dX10_hamlet_124 fr_10_24 rfl (px_sh1 hw sh_61) (px_rf hw rf_61_12) (by decide) ?_
  refine px_iload_n dX10_hamlet_127 rfl rfl ?_
  refine px_iald dX10_hamlet_128 (px_sh2 hw sh_65) (by decide) j1 hj1 hl1 ?_
  refine px_iast dX10_hamlet_129 (px_sh2 hw sh_67) (by decide) j1 hj1 hl1 (by omega) ?_
  refine px_iinc (ls' := [.ref 61, .int (x1 + 1), .null]) dX10_hamlet_130 ⟨by decide, rfl⟩ rfl rfl rfl ?_
  refine px_goto (tgt := 98) dX10_hamlet_133 (by decide) ?_
  exact k1
theorem bX10_hamlet_138 {E : px_E} {d : Nat} {w : pw_W} {Q : Option Value → pw_W → Prop} {t : ct_T} (hw : w.1 = cs t) {x1 : Int32}  
    (k1 : (pw_I w 61 51) ≤ x1 → px_W E mX10_hamlet (d + 1) 0 0 190 [.ref 61, .int 0, .null] [] w Q)
    (k2 : ¬ (pw_I w 61 51) ≤ x1 → px_W E mX10_hamlet (d + 1) 0 0 146 [.ref 61, .int x1, .null] [] w Q) :
    px_W E mX10_hamlet (d + 1) 0 0 138 [.ref 61, .int x1, .null] [] w Q := by
  refine px_iload_n dX10_hamlet_138 rfl rfl ?_
  refine px_aload_n dX10_hamlet_139 rfl rfl ?_
  refine px_getI dX10_hamlet_140 fr_10_404 rfl (px_sh1 hw sh_61) ?_
  refine px_icmp_ge (tgt := 188) dX10_hamlet_143 (by decide) (fun h1 => ?_) (fun h1 => ?_)
  ·
    refine px_iconst dX10_hamlet_188 ic_0 ?_
    refine px_istore_n (ls' := [.ref 61, .int 0, .null]) dX10_hamlet_189 rfl ⟨by decide, rfl⟩ rfl ?_
    exact (k1 h1)
  ·
    exact (k2 h1)
theorem bX10_hamlet_146 {E : px_E} {d : Nat} {w : pw_W} {Q : Option Value → pw_W → Prop} {t : ct_T} (hw : w.1 = cs t) {x1 : Int32}  (j1 : Nat) (hj1 : x1 = nI j1) (hl1 : j1 < 6)
    (k1 : px_W E mX10_hamlet (d + 1) 0 0 138 [.ref 61, .int (x1 + 1), .null] [] (pw_sI (pw_sI (pw_sI w 80 j1 (pw_I w 71 j1)) 81 j1 (pw_I (pw_sI w 80 j1 (pw_I w 71 j1)) 72 j1)) 82 j1 (pw_I (pw_sI (pw_sI w 80 j1 (pw_I w 71 j1)) 81 j1 (pw_I (pw_sI w 80 j1 (pw_I w 71 j1)) 72 j1)) 73 j1)) Q) :
    px_W E mX10_hamlet (d + 1) 0 0 146 [.ref 61, .int x1, .null] [] w Q := by
  refine px_aload_n dX10_hamlet_146 rfl rfl ?_
  refine px_getR (v := 80) dX10_hamlet_147 fr_10_69 rfl (px_sh1 hw sh_61) (px_rf hw rf_61_36) (by decide) ?_
  refine px_iload_n dX10_hamlet_150 rfl rfl ?_
  refine px_aload_n dX10_hamlet_151 rfl rfl ?_
  refine px_getR (v := 71) dX10_hamlet_152 fr_10_42 rfl (px_sh1 hw sh_61) (px_rf hw rf_61_27) (by decide) ?_
  refine px_iload_n dX10_hamlet_155 rfl rfl ?_
  refine px_iald dX10_hamlet_156 (px_sh2 hw sh_71) (by decide) j1 hj1 hl1 ?_
  refine px_iast dX10_hamlet_157 (px_sh2 hw sh_80) (by decide) j1 hj1 hl1 (by omega) ?_
  refine px_aload_n dX10_hamlet_158 rfl rfl ?_
  refine px_getR (v := 81) dX10_hamlet_159 fr_10_72 rfl (px_sh1 hw sh_61) (px_rf hw rf_61_37) (by decide) ?_
  refine px_iload_n dX10_hamlet_162 rfl rfl ?_
  refine px_aload_n dX10_hamlet_163 rfl rfl ?_
  refine px_getR (v := 72) dX10_hamlet_164 fr_10_45 rfl (px_sh1 hw sh_61) (px_rf hw rf_61_28) (by decide) ?_
  refine px_iload_n dX10_hamlet_167 rfl rfl ?_
  refine px_iald dX10_hamlet_168 (px_sh2 hw sh_72) (by decide) j1 hj1 hl1 ?_
  refine px_iast dX10_hamlet_169 (px_sh2 hw sh_81) (by decide) j1 hj1 hl1 (by omega) ?_
  refine px_aload_n dX10_hamlet_170 rfl rfl ?_
  refine px_getR (v := 82) dX10_hamlet_171 fr_10_75 rfl (px_sh1 hw sh_61) (px_rf hw rf_61_38) (by decide) ?_
  refine px_iload_n dX10_hamlet_174 rfl rfl ?_
  refine px_aload_n dX10_hamlet_175 rfl rfl ?_
  refine px_getR (v := 73) dX10_hamlet_176 fr_10_48 rfl (px_sh1 hw sh_61) (px_rf hw rf_61_29) (by decide) ?_
  refine px_iload_n dX10_hamlet_179 rfl rfl ?_
  refine px_iald dX10_hamlet_180 (px_sh2 hw sh_73) (by decide) j1 hj1 hl1 ?_
  refine px_iast dX10_hamlet_181 (px_sh2 hw sh_82) (by decide) j1 hj1 hl1 (by omega) ?_
  refine px_iinc (ls' := [.ref 61, .int (x1 + 1), .null]) dX10_hamlet_182 ⟨by decide, rfl⟩ rfl rfl rfl ?_
  refine px_goto (tgt := 138) dX10_hamlet_185 (by decide) ?_
  exact k1
theorem bX10_hamlet_190 {E : px_E} {d : Nat} {w : pw_W} {Q : Option Value → pw_W → Prop} {t : ct_T} (hw : w.1 = cs t) {x1 : Int32}  
    (k1 : (pw_I w 61 52) ≤ x1 → px_W E mX10_hamlet (d + 1) 0 0 242 [.ref 61, .int 0, .null] [] w Q)
    (k2 : ¬ (pw_I w 61 52) ≤ x1 → px_W E mX10_hamlet (d + 1) 0 0 198 [.ref 61, .int x1, .null] [] w Q) :
    px_W E mX10_hamlet (d + 1) 0 0 190 [.ref 61, .int x1, .null] [] w Q := by
  refine px_iload_n dX10_hamlet_190 rfl rfl ?_
  refine px_aload_n dX10_hamlet_191 rfl rfl ?_
  refine px_getI dX10_hamlet_192 fr_10_407 rfl (px_sh1 hw sh_61) ?_
  refine px_icmp_ge (tgt := 240) dX10_hamlet_195 (by decide) (fun h1 => ?_) (fun h1 => ?_)
  ·
    refine px_iconst dX10_hamlet_240 ic_0 ?_
    refine px_istore_n (ls' := [.ref 61, .int 0, .null]) dX10_hamlet_241 rfl ⟨by decide, rfl⟩ rfl ?_
    exact (k1 h1)
  ·
    exact (k2 h1)
theorem bX10_hamlet_198 {E : px_E} {d : Nat} {w : pw_W} {Q : Option Value → pw_W → Prop} {t : ct_T} (hw : w.1 = cs t) {x1 : Int32}  (j1 : Nat) (hj1 : x1 = nI j1) (hl1 : j1 < 9)
    (k1 : px_W E mX10_hamlet (d + 1) 0 0 190 [.ref 61, .int (x1 + 1), .null] [] (pw_sI (pw_sI (pw_sI w 83 j1 (pw_I w 74 j1)) 84 j1 (pw_I (pw_sI w 83 j1 (pw_I w 74 j1)) 75 j1)) 85 j1 (pw_I (pw_sI (pw_sI w 83 j1 (pw_I w 74 j1)) 84 j1 (pw_I (pw_sI w 83 j1 (pw_I w 74 j1)) 75 j1)) 76 j1)) Q) :
    px_W E mX10_hamlet (d + 1) 0 0 198 [.ref 61, .int x1, .null] [] w Q := by
  refine px_aload_n dX10_hamlet_198 rfl rfl ?_
  refine px_getR (v := 83) dX10_hamlet_199 fr_10_78 rfl (px_sh1 hw sh_61) (px_rf hw rf_61_39) (by decide) ?_
  refine px_iload_n dX10_hamlet_202 rfl rfl ?_
  refine px_aload_n dX10_hamlet_203 rfl rfl ?_
  refine px_getR (v := 74) dX10_hamlet_204 fr_10_51 rfl (px_sh1 hw sh_61) (px_rf hw rf_61_30) (by decide) ?_
  refine px_iload_n dX10_hamlet_207 rfl rfl ?_
  refine px_iald dX10_hamlet_208 (px_sh2 hw sh_74) (by decide) j1 hj1 hl1 ?_
  refine px_iast dX10_hamlet_209 (px_sh2 hw sh_83) (by decide) j1 hj1 hl1 (by omega) ?_
  refine px_aload_n dX10_hamlet_210 rfl rfl ?_
  refine px_getR (v := 84) dX10_hamlet_211 fr_10_81 rfl (px_sh1 hw sh_61) (px_rf hw rf_61_40) (by decide) ?_
  refine px_iload_n dX10_hamlet_214 rfl rfl ?_
  refine px_aload_n dX10_hamlet_215 rfl rfl ?_
  refine px_getR (v := 75) dX10_hamlet_216 fr_10_54 rfl (px_sh1 hw sh_61) (px_rf hw rf_61_31) (by decide) ?_
  refine px_iload_n dX10_hamlet_219 rfl rfl ?_
  refine px_iald dX10_hamlet_220 (px_sh2 hw sh_75) (by decide) j1 hj1 hl1 ?_
  refine px_iast dX10_hamlet_221 (px_sh2 hw sh_84) (by decide) j1 hj1 hl1 (by omega) ?_
  refine px_aload_n dX10_hamlet_222 rfl rfl ?_
  refine px_getR (v := 85) dX10_hamlet_223 fr_10_84 rfl (px_sh1 hw sh_61) (px_rf hw rf_61_41) (by decide) ?_
  refine px_iload_n dX10_hamlet_226 rfl rfl ?_
  refine px_aload_n dX10_hamlet_227 rfl rfl ?_
  refine px_getR (v := 76) dX10_hamlet_228 fr_10_57 rfl (px_sh1 hw sh_61) (px_rf hw rf_61_32) (by decide) ?_
  refine px_iload_n dX10_hamlet_231 rfl rfl ?_
  refine px_iald dX10_hamlet_232 (px_sh2 hw sh_76) (by decide) j1 hj1 hl1 ?_
  refine px_iast dX10_hamlet_233 (px_sh2 hw sh_85) (by decide) j1 hj1 hl1 (by omega) ?_
  refine px_iinc (ls' := [.ref 61, .int (x1 + 1), .null]) dX10_hamlet_234 ⟨by decide, rfl⟩ rfl rfl rfl ?_
  refine px_goto (tgt := 190) dX10_hamlet_237 (by decide) ?_
  exact k1
theorem bX10_hamlet_242 {E : px_E} {d : Nat} {w : pw_W} {Q : Option Value → pw_W → Prop} {t : ct_T} (hw : w.1 = cs t) {x1 : Int32}  
    (k1 : (pw_I w 61 53) ≤ x1 → px_Call E d 0 0 mX10_layTold [.ref 61] w (fun v w' => px_W E mX10_hamlet (d + 1) 0 0 324 [.ref 61, .null, .null] (v.toList ++ []) w' Q))
    (k2 : ¬ (pw_I w 61 53) ≤ x1 → px_W E mX10_hamlet (d + 1) 0 0 250 [.ref 61, .int x1, .null] [] w Q) :
    px_W E mX10_hamlet (d + 1) 0 0 242 [.ref 61, .int x1, .null] [] w Q := by
  refine px_iload_n dX10_hamlet_242 rfl rfl ?_
  refine px_aload_n dX10_hamlet_243 rfl rfl ?_
  refine px_getI dX10_hamlet_244 fr_10_410 rfl (px_sh1 hw sh_61) ?_
  refine px_icmp_ge (tgt := 320) dX10_hamlet_247 (by decide) (fun h1 => ?_) (fun h1 => ?_)
  ·
    refine px_aload_n dX10_hamlet_320 rfl rfl ?_
    refine px_forget (ls' := [.ref 61, .null, .null]) ?_ ⟨Or.inr rfl, Or.inl rfl, Or.inl rfl, trivial⟩
    exact px_callV (As := []) (st := []) (rc := 0) (rs := 0) (mc := 0) (ms := 0) dX10_hamlet_321 lk_10_422 (px_sh1 hw sh_61) rfl rfl (Nat.le_of_ble_eq_true rfl) (k1 h1)
  ·
    exact (k2 h1)
theorem bX10_hamlet_250 {E : px_E} {d : Nat} {w : pw_W} {Q : Option Value → pw_W → Prop} {t : ct_T} (hw : w.1 = cs t) {x1 : Int32}  (j1 : Nat) (hj1 : x1 = nI j1) (hl1 : j1 < 2)
    (k1 : px_W E mX10_hamlet (d + 1) 0 0 276 [.ref 61, .int x1, .int 0] [] (pw_sI (pw_sI w 86 j1 (pw_I w 77 j1)) 88 j1 (pw_I (pw_sI w 86 j1 (pw_I w 77 j1)) 79 j1)) Q) :
    px_W E mX10_hamlet (d + 1) 0 0 250 [.ref 61, .int x1, .null] [] w Q := by
  refine px_aload_n dX10_hamlet_250 rfl rfl ?_
  refine px_getR (v := 86) dX10_hamlet_251 fr_10_87 rfl (px_sh1 hw sh_61) (px_rf hw rf_61_42) (by decide) ?_
  refine px_iload_n dX10_hamlet_254 rfl rfl ?_
  refine px_aload_n dX10_hamlet_255 rfl rfl ?_
  refine px_getR (v := 77) dX10_hamlet_256 fr_10_60 rfl (px_sh1 hw sh_61) (px_rf hw rf_61_33) (by decide) ?_
  refine px_iload_n dX10_hamlet_259 rfl rfl ?_
  refine px_iald dX10_hamlet_260 (px_sh2 hw sh_77) (by decide) j1 hj1 hl1 ?_
  refine px_iast dX10_hamlet_261 (px_sh2 hw sh_86) (by decide) j1 hj1 hl1 (by omega) ?_
  refine px_aload_n dX10_hamlet_262 rfl rfl ?_
  refine px_getR (v := 88) dX10_hamlet_263 fr_10_93 rfl (px_sh1 hw sh_61) (px_rf hw rf_61_44) (by decide) ?_
  refine px_iload_n dX10_hamlet_266 rfl rfl ?_
  refine px_aload_n dX10_hamlet_267 rfl rfl ?_
  refine px_getR (v := 79) dX10_hamlet_268 fr_10_66 rfl (px_sh1 hw sh_61) (px_rf hw rf_61_35) (by decide) ?_
  refine px_iload_n dX10_hamlet_271 rfl rfl ?_
  refine px_iald dX10_hamlet_272 (px_sh2 hw sh_79) (by decide) j1 hj1 hl1 ?_
  refine px_iast dX10_hamlet_273 (px_sh2 hw sh_88) (by decide) j1 hj1 hl1 (by omega) ?_
  refine px_iconst dX10_hamlet_274 ic_0 ?_
  refine px_istore_n (ls' := [.ref 61, .int x1, .int 0]) dX10_hamlet_275 rfl ⟨by decide, rfl⟩ rfl ?_
  exact k1
theorem bX10_hamlet_276 {E : px_E} {d : Nat} {w : pw_W} {Q : Option Value → pw_W → Prop} {t : ct_T} (hw : w.1 = cs t) {x1 x2 : Int32}  (j1 : Nat) (hj1 : x1 = nI j1) (hl1 : j1 < 2)
    (k1 : (pw_I w 88 j1) ≤ x2 → px_W E mX10_hamlet (d + 1) 0 0 242 [.ref 61, .int (x1 + 1), .null] [] w Q)
    (k2 : ¬ (pw_I w 88 j1) ≤ x2 → px_W E mX10_hamlet (d + 1) 0 0 286 [.ref 61, .int x1, .int x2] [] w Q) :
    px_W E mX10_hamlet (d + 1) 0 0 276 [.ref 61, .int x1, .int x2] [] w Q := by
  refine px_iload_n dX10_hamlet_276 rfl rfl ?_
  refine px_aload_n dX10_hamlet_277 rfl rfl ?_
  refine px_getR (v := 88) dX10_hamlet_278 fr_10_93 rfl (px_sh1 hw sh_61) (px_rf hw rf_61_44) (by decide) ?_
  refine px_iload_n dX10_hamlet_281 rfl rfl ?_
  refine px_iald dX10_hamlet_282 (px_sh2 hw sh_88) (by decide) j1 hj1 hl1 ?_
  refine px_icmp_ge (tgt := 314) dX10_hamlet_283 (by decide) (fun h1 => ?_) (fun h1 => ?_)
  ·
    refine px_iinc (ls' := [.ref 61, .int (x1 + 1), .int x2]) dX10_hamlet_314 ⟨by decide, rfl⟩ rfl rfl rfl ?_
    refine px_goto (tgt := 242) dX10_hamlet_317 (by decide) ?_
    exact px_forget (k1 h1) ⟨Or.inr rfl, Or.inr rfl, Or.inl rfl, trivial⟩
  ·
    exact (k2 h1)
theorem bX10_hamlet_286 {E : px_E} {d : Nat} {w : pw_W} {Q : Option Value → pw_W → Prop} {t : ct_T} (hw : w.1 = cs t) {x1 x2 : Int32}  (j1 : Nat) (hj1 : ((6 * x1) + x2) = nI j1) (hl1 : j1 < 12)
    (k1 : px_W E mX10_hamlet (d + 1) 0 0 276 [.ref 61, .int x1, .int (x2 + 1)] [] (pw_sI w 87 j1 (pw_I w 78 j1)) Q) :
    px_W E mX10_hamlet (d + 1) 0 0 286 [.ref 61, .int x1, .int x2] [] w Q := by
  refine px_aload_n dX10_hamlet_286 rfl rfl ?_
  refine px_getR (v := 87) dX10_hamlet_287 fr_10_90 rfl (px_sh1 hw sh_61) (px_rf hw rf_61_43) (by decide) ?_
  refine px_bipush dX10_hamlet_290 bp_6 ?_
  refine px_iload_n dX10_hamlet_292 rfl rfl ?_
  refine px_imul dX10_hamlet_293 ?_
  refine px_iload_n dX10_hamlet_294 rfl rfl ?_
  refine px_iadd dX10_hamlet_295 ?_
  refine px_aload_n dX10_hamlet_296 rfl rfl ?_
  refine px_getR (v := 78) dX10_hamlet_297 fr_10_63 rfl (px_sh1 hw sh_61) (px_rf hw rf_61_34) (by decide) ?_
  refine px_bipush dX10_hamlet_300 bp_6 ?_
  refine px_iload_n dX10_hamlet_302 rfl rfl ?_
  refine px_imul dX10_hamlet_303 ?_
  refine px_iload_n dX10_hamlet_304 rfl rfl ?_
  refine px_iadd dX10_hamlet_305 ?_
  refine px_iald dX10_hamlet_306 (px_sh2 hw sh_78) (by decide) j1 hj1 hl1 ?_
  refine px_iast dX10_hamlet_307 (px_sh2 hw sh_87) (by decide) j1 hj1 hl1 (by omega) ?_
  refine px_iinc (ls' := [.ref 61, .int x1, .int (x2 + 1)]) dX10_hamlet_308 ⟨by decide, rfl⟩ rfl rfl rfl ?_
  refine px_goto (tgt := 276) dX10_hamlet_311 (by decide) ?_
  exact k1
theorem bX10_hamlet_324 {E : px_E} {d : Nat} {w : pw_W} {Q : Option Value → pw_W → Prop} {t : ct_T} (hw : w.1 = cs t)  
    (k1 : px_Call E d 0 0 mX10_keepAir [.ref 61] w (fun v w' => px_W E mX10_hamlet (d + 1) 0 0 328 [.ref 61, .null, .null] (v.toList ++ []) w' Q)) :
    px_W E mX10_hamlet (d + 1) 0 0 324 [.ref 61, .null, .null] [] w Q := by
  refine px_aload_n dX10_hamlet_324 rfl rfl ?_
  exact px_callV (As := []) (st := []) (rc := 0) (rs := 0) (mc := 0) (ms := 0) dX10_hamlet_325 lk_10_425 (px_sh1 hw sh_61) rfl rfl (Nat.le_of_ble_eq_true rfl) k1
theorem bX10_hamlet_328 {E : px_E} {d : Nat} {w : pw_W} {Q : Option Value → pw_W → Prop} {t : ct_T} (hw : w.1 = cs t)  
    (k1 : px_W E mX10_hamlet (d + 1) 0 0 350 [.ref 61, .int 0, .null] [] (pw_sI (pw_sI (pw_sI (pw_sI w 61 63 0) 61 64 0) 61 78 0) 61 68 0) Q) :
    px_W E mX10_hamlet (d + 1) 0 0 328 [.ref 61, .null, .null] [] w Q := by
  refine px_aload_n dX10_hamlet_328 rfl rfl ?_
  refine px_iconst dX10_hamlet_329 ic_0 ?_
  refine px_putI dX10_hamlet_330 fl_10_428 (Or.inl rfl) rfl (px_sh1 hw sh_61) rfl rfl (by omega) ?_
  refine px_aload_n dX10_hamlet_333 rfl rfl ?_
  refine px_iconst dX10_hamlet_334 ic_0 ?_
  refine px_putI dX10_hamlet_335 fl_10_431 (Or.inl rfl) rfl (px_sh1 hw sh_61) rfl rfl (by omega) ?_
  refine px_aload_n dX10_hamlet_338 rfl rfl ?_
  refine px_iconst dX10_hamlet_339 ic_0 ?_
  refine px_putI dX10_hamlet_340 fl_10_434 (Or.inl rfl) rfl (px_sh1 hw sh_61) rfl rfl (by omega) ?_
  refine px_aload_n dX10_hamlet_343 rfl rfl ?_
  refine px_iconst dX10_hamlet_344 ic_0 ?_
  refine px_putI dX10_hamlet_345 fl_10_437 (Or.inl rfl) rfl (px_sh1 hw sh_61) rfl rfl (by omega) ?_
  refine px_iconst dX10_hamlet_348 ic_0 ?_
  refine px_istore_n (ls' := [.ref 61, .int 0, .null]) dX10_hamlet_349 rfl ⟨by decide, rfl⟩ rfl ?_
  exact k1
theorem bX10_hamlet_350 {E : px_E} {d : Nat} {w : pw_W} {Q : Option Value → pw_W → Prop} {t : ct_T} (hw : w.1 = cs t) {x1 : Int32}  
    (k1 : 3 ≤ x1 → Q (some (.int (pw_I w 61 51))) w)
    (k2 : ¬ 3 ≤ x1 → px_W E mX10_hamlet (d + 1) 0 0 355 [.ref 61, .int x1, .null] [] w Q) :
    px_W E mX10_hamlet (d + 1) 0 0 350 [.ref 61, .int x1, .null] [] w Q := by
  refine px_iload_n dX10_hamlet_350 rfl rfl ?_
  refine px_iconst dX10_hamlet_351 ic_3 ?_
  refine px_icmp_ge (tgt := 368) dX10_hamlet_352 (by decide) (fun h1 => ?_) (fun h1 => ?_)
  ·
    refine px_aload_n dX10_hamlet_368 rfl rfl ?_
    refine px_getI dX10_hamlet_369 fr_10_404 rfl (px_sh1 hw sh_61) ?_
    exact px_ireturn dX10_hamlet_372 rfl rfl (k1 h1)
  ·
    exact (k2 h1)
theorem bX10_hamlet_355 {E : px_E} {d : Nat} {w : pw_W} {Q : Option Value → pw_W → Prop} {t : ct_T} (hw : w.1 = cs t) {x1 : Int32}  (j1 : Nat) (hj1 : x1 = nI j1) (hl1 : j1 < 3)
    (k1 : px_W E mX10_hamlet (d + 1) 0 0 350 [.ref 61, .int (x1 + 1), .null] [] (pw_sI w 106 j1 0) Q) :
    px_W E mX10_hamlet (d + 1) 0 0 355 [.ref 61, .int x1, .null] [] w Q := by
  refine px_aload_n dX10_hamlet_355 rfl rfl ?_
  refine px_getR (v := 106) dX10_hamlet_356 fr_10_151 rfl (px_sh1 hw sh_61) (px_rf hw rf_61_83) (by decide) ?_
  refine px_iload_n dX10_hamlet_359 rfl rfl ?_
  refine px_iconst dX10_hamlet_360 ic_0 ?_
  refine px_zast dX10_hamlet_361 (px_sh2 hw sh_106) (by decide) j1 hj1 hl1 (by decide) (by omega) ?_
  refine px_iinc (ls' := [.ref 61, .int (x1 + 1), .null]) dX10_hamlet_362 ⟨by decide, rfl⟩ rfl rfl rfl ?_
  refine px_goto (tgt := 350) dX10_hamlet_365 (by decide) ?_
  exact k1
theorem dX9_about_0 : decode mX9_about.2.1 0 = .ok (.iload_n 1, 1) := by decide +kernel
theorem dX9_about_1 : decode mX9_about.2.1 1 = .ok (.tableswitch 192 0 14 #[75, 83, 91, 99, 107, 115, 123, 131, 139, 147, 155, 160, 171, 176, 184], 75) := by decide +kernel
theorem dX9_about_76 : decode mX9_about.2.1 76 = .ok (.aload_n 0, 1) := by decide +kernel
theorem dX9_about_77 : decode mX9_about.2.1 77 = .ok (.getfield 20, 3) := by decide +kernel
theorem dX9_about_80 : decode mX9_about.2.1 80 = .ok (.getfield 110, 3) := by decide +kernel
theorem dX9_about_83 : decode mX9_about.2.1 83 = .ok (.ireturn, 1) := by decide +kernel
theorem dX9_about_84 : decode mX9_about.2.1 84 = .ok (.aload_n 0, 1) := by decide +kernel
theorem dX9_about_85 : decode mX9_about.2.1 85 = .ok (.getfield 20, 3) := by decide +kernel
theorem dX9_about_88 : decode mX9_about.2.1 88 = .ok (.getfield 269, 3) := by decide +kernel
theorem dX9_about_91 : decode mX9_about.2.1 91 = .ok (.ireturn, 1) := by decide +kernel
theorem dX9_about_92 : decode mX9_about.2.1 92 = .ok (.aload_n 0, 1) := by decide +kernel
theorem dX9_about_93 : decode mX9_about.2.1 93 = .ok (.getfield 20, 3) := by decide +kernel
theorem dX9_about_96 : decode mX9_about.2.1 96 = .ok (.getfield 283, 3) := by decide +kernel
theorem dX9_about_99 : decode mX9_about.2.1 99 = .ok (.ireturn, 1) := by decide +kernel
theorem dX9_about_100 : decode mX9_about.2.1 100 = .ok (.aload_n 0, 1) := by decide +kernel
theorem dX9_about_101 : decode mX9_about.2.1 101 = .ok (.getfield 40, 3) := by decide +kernel
theorem dX9_about_104 : decode mX9_about.2.1 104 = .ok (.getfield 240, 3) := by decide +kernel
theorem dX9_about_107 : decode mX9_about.2.1 107 = .ok (.ireturn, 1) := by decide +kernel
theorem dX9_about_108 : decode mX9_about.2.1 108 = .ok (.aload_n 0, 1) := by decide +kernel
theorem dX9_about_109 : decode mX9_about.2.1 109 = .ok (.getfield 40, 3) := by decide +kernel
theorem dX9_about_112 : decode mX9_about.2.1 112 = .ok (.getfield 164, 3) := by decide +kernel
theorem dX9_about_115 : decode mX9_about.2.1 115 = .ok (.ireturn, 1) := by decide +kernel
theorem dX9_about_116 : decode mX9_about.2.1 116 = .ok (.aload_n 0, 1) := by decide +kernel
theorem dX9_about_117 : decode mX9_about.2.1 117 = .ok (.getfield 40, 3) := by decide +kernel
theorem dX9_about_120 : decode mX9_about.2.1 120 = .ok (.getfield 327, 3) := by decide +kernel
theorem dX9_about_123 : decode mX9_about.2.1 123 = .ok (.ireturn, 1) := by decide +kernel
theorem dX9_about_124 : decode mX9_about.2.1 124 = .ok (.aload_n 0, 1) := by decide +kernel
theorem dX9_about_125 : decode mX9_about.2.1 125 = .ok (.getfield 47, 3) := by decide +kernel
theorem dX9_about_128 : decode mX9_about.2.1 128 = .ok (.invokevirtual 330, 3) := by decide +kernel
theorem dX9_about_131 : decode mX9_about.2.1 131 = .ok (.ireturn, 1) := by decide +kernel
theorem dX9_about_132 : decode mX9_about.2.1 132 = .ok (.aload_n 0, 1) := by decide +kernel
theorem dX9_about_133 : decode mX9_about.2.1 133 = .ok (.getfield 47, 3) := by decide +kernel
theorem dX9_about_136 : decode mX9_about.2.1 136 = .ok (.invokevirtual 333, 3) := by decide +kernel
theorem dX9_about_139 : decode mX9_about.2.1 139 = .ok (.ireturn, 1) := by decide +kernel
theorem dX9_about_140 : decode mX9_about.2.1 140 = .ok (.aload_n 0, 1) := by decide +kernel
theorem dX9_about_141 : decode mX9_about.2.1 141 = .ok (.getfield 75, 3) := by decide +kernel
theorem dX9_about_144 : decode mX9_about.2.1 144 = .ok (.getfield 336, 3) := by decide +kernel
theorem dX9_about_147 : decode mX9_about.2.1 147 = .ok (.ireturn, 1) := by decide +kernel
theorem dX9_about_148 : decode mX9_about.2.1 148 = .ok (.aload_n 0, 1) := by decide +kernel
theorem dX9_about_149 : decode mX9_about.2.1 149 = .ok (.getfield 75, 3) := by decide +kernel
theorem dX9_about_152 : decode mX9_about.2.1 152 = .ok (.getfield 339, 3) := by decide +kernel
theorem dX9_about_155 : decode mX9_about.2.1 155 = .ok (.ireturn, 1) := by decide +kernel
theorem dX9_about_156 : decode mX9_about.2.1 156 = .ok (.aload_n 0, 1) := by decide +kernel
theorem dX9_about_157 : decode mX9_about.2.1 157 = .ok (.getfield 13, 3) := by decide +kernel
theorem dX9_about_160 : decode mX9_about.2.1 160 = .ok (.ireturn, 1) := by decide +kernel
theorem dX9_about_161 : decode mX9_about.2.1 161 = .ok (.aload_n 0, 1) := by decide +kernel
theorem dX9_about_162 : decode mX9_about.2.1 162 = .ok (.getfield 20, 3) := by decide +kernel
theorem dX9_about_165 : decode mX9_about.2.1 165 = .ok (.getfield 160, 3) := by decide +kernel
theorem dX9_about_168 : decode mX9_about.2.1 168 = .ok (.getfield 342, 3) := by decide +kernel
theorem dX9_about_171 : decode mX9_about.2.1 171 = .ok (.ireturn, 1) := by decide +kernel
theorem dX9_about_172 : decode mX9_about.2.1 172 = .ok (.aload_n 0, 1) := by decide +kernel
theorem dX9_about_173 : decode mX9_about.2.1 173 = .ok (.getfield 82, 3) := by decide +kernel
theorem dX9_about_176 : decode mX9_about.2.1 176 = .ok (.ireturn, 1) := by decide +kernel
theorem dX9_about_177 : decode mX9_about.2.1 177 = .ok (.aload_n 0, 1) := by decide +kernel
theorem dX9_about_178 : decode mX9_about.2.1 178 = .ok (.getfield 20, 3) := by decide +kernel
theorem dX9_about_181 : decode mX9_about.2.1 181 = .ok (.getfield 345, 3) := by decide +kernel
theorem dX9_about_184 : decode mX9_about.2.1 184 = .ok (.ireturn, 1) := by decide +kernel
theorem dX9_about_185 : decode mX9_about.2.1 185 = .ok (.aload_n 0, 1) := by decide +kernel
theorem dX9_about_186 : decode mX9_about.2.1 186 = .ok (.getfield 20, 3) := by decide +kernel
theorem dX9_about_189 : decode mX9_about.2.1 189 = .ok (.getfield 292, 3) := by decide +kernel
theorem dX9_about_192 : decode mX9_about.2.1 192 = .ok (.ireturn, 1) := by decide +kernel
theorem dX9_about_193 : decode mX9_about.2.1 193 = .ok (.iconst (-1), 1) := by decide +kernel
theorem dX9_about_194 : decode mX9_about.2.1 194 = .ok (.ireturn, 1) := by decide +kernel
theorem bX9_about_0 {E : px_E} {d : Nat} {w : pw_W} {Q : Option Value → pw_W → Prop} {t : ct_T} (hw : w.1 = cs t) {x1 : Int32} (ht1 : is_Hamlet t.1) 
    (k1 : x1 = 0 → Q (some (.int (pw_I w t.1 0))) w)
    (k2 : ¬ x1 = 0 → x1 = 1 → Q (some (.int (pw_I w t.1 4))) w)
    (k3 : ¬ x1 = 0 → ¬ x1 = 1 → x1 = 2 → Q (some (.int (pw_I w t.1 8))) w)
    (k4 : ¬ x1 = 0 → ¬ x1 = 1 → ¬ x1 = 2 → x1 = 3 → Q (some (.int (pw_I w 35 2))) w)
    (k5 : ¬ x1 = 0 → ¬ x1 = 1 → ¬ x1 = 2 → ¬ x1 = 3 → x1 = 4 → Q (some (.int (pw_I w 35 3))) w)
    (k6 : ¬ x1 = 0 → ¬ x1 = 1 → ¬ x1 = 2 → ¬ x1 = 3 → ¬ x1 = 4 → x1 = 5 → Q (some (.int (pw_I w 35 4))) w)
    (k7 : ¬ x1 = 0 → ¬ x1 = 1 → ¬ x1 = 2 → ¬ x1 = 3 → ¬ x1 = 4 → ¬ x1 = 5 → x1 = 6 → px_Call E d 0 0 mX3_undoable [.ref 38] w (fun v w' => px_W E mX9_about (d + 1) 0 0 131 [.null, .null] (v.toList ++ []) w' Q))
    (k8 : ¬ x1 = 0 → ¬ x1 = 1 → ¬ x1 = 2 → ¬ x1 = 3 → ¬ x1 = 4 → ¬ x1 = 5 → ¬ x1 = 6 → x1 = 7 → px_Call E d 0 0 mX3_redoable [.ref 38] w (fun v w' => px_W E mX9_about (d + 1) 0 0 139 [.null, .null] (v.toList ++ []) w' Q))
    (k9 : ¬ x1 = 0 → ¬ x1 = 1 → ¬ x1 = 2 → ¬ x1 = 3 → ¬ x1 = 4 → ¬ x1 = 5 → ¬ x1 = 6 → ¬ x1 = 7 → x1 = 8 → Q (some (.int (pw_I w 48 10))) w)
    (k10 : ¬ x1 = 0 → ¬ x1 = 1 → ¬ x1 = 2 → ¬ x1 = 3 → ¬ x1 = 4 → ¬ x1 = 5 → ¬ x1 = 6 → ¬ x1 = 7 → ¬ x1 = 8 → x1 = 9 → Q (some (.int (pw_I w 48 11))) w)
    (k11 : ¬ x1 = 0 → ¬ x1 = 1 → ¬ x1 = 2 → ¬ x1 = 3 → ¬ x1 = 4 → ¬ x1 = 5 → ¬ x1 = 6 → ¬ x1 = 7 → ¬ x1 = 8 → ¬ x1 = 9 → x1 = 10 → Q (some (.int (pw_I w 1 1))) w)
    (k12 : ¬ x1 = 0 → ¬ x1 = 1 → ¬ x1 = 2 → ¬ x1 = 3 → ¬ x1 = 4 → ¬ x1 = 5 → ¬ x1 = 6 → ¬ x1 = 7 → ¬ x1 = 8 → ¬ x1 = 9 → ¬ x1 = 10 → x1 = 11 → Q (some (.int (pw_I w (t.1 + 10) 3))) w)
    (k13 : ¬ x1 = 0 → ¬ x1 = 1 → ¬ x1 = 2 → ¬ x1 = 3 → ¬ x1 = 4 → ¬ x1 = 5 → ¬ x1 = 6 → ¬ x1 = 7 → ¬ x1 = 8 → ¬ x1 = 9 → ¬ x1 = 10 → ¬ x1 = 11 → x1 = 12 → Q (some (.int (pw_I w 1 14))) w)
    (k14 : ¬ x1 = 0 → ¬ x1 = 1 → ¬ x1 = 2 → ¬ x1 = 3 → ¬ x1 = 4 → ¬ x1 = 5 → ¬ x1 = 6 → ¬ x1 = 7 → ¬ x1 = 8 → ¬ x1 = 9 → ¬ x1 = 10 → ¬ x1 = 11 → ¬ x1 = 12 → x1 = 13 → Q (some (.int (pw_I w t.1 12))) w)
    (k15 : ¬ x1 = 0 → ¬ x1 = 1 → ¬ x1 = 2 → ¬ x1 = 3 → ¬ x1 = 4 → ¬ x1 = 5 → ¬ x1 = 6 → ¬ x1 = 7 → ¬ x1 = 8 → ¬ x1 = 9 → ¬ x1 = 10 → ¬ x1 = 11 → ¬ x1 = 12 → ¬ x1 = 13 → x1 = 14 → Q (some (.int (pw_I w t.1 13))) w)
    (k16 : ¬ x1 = 0 → ¬ x1 = 1 → ¬ x1 = 2 → ¬ x1 = 3 → ¬ x1 = 4 → ¬ x1 = 5 → ¬ x1 = 6 → ¬ x1 = 7 → ¬ x1 = 8 → ¬ x1 = 9 → ¬ x1 = 10 → ¬ x1 = 11 → ¬ x1 = 12 → ¬ x1 = 13 → ¬ x1 = 14 → Q (some (.int (-1))) w) :
    px_W E mX9_about (d + 1) 0 0 0 [.ref 1, .int x1] [] w Q := by
  refine px_iload_n dX9_about_0 rfl rfl ?_
  by_cases h1 : x1 = 0
  ·
    refine px_table (tgt := 76) dX9_about_1 75 (by rw [h1]; decide) (by decide) ?_
    refine px_aload_n dX9_about_76 rfl rfl ?_
    refine px_getR (v := t.1) dX9_about_77 fr_9_20 rfl (px_sh1 hw sh_1) (px_rf hw rf_1_2) ht1.ne ?_
    refine px_getI dX9_about_80 fr_9_110 rfl (px_sh1 hw ht1.sh) ?_
    exact px_ireturn dX9_about_83 rfl rfl (k1 h1)
  by_cases h2 : x1 = 1
  ·
    refine px_table (tgt := 84) dX9_about_1 83 (by rw [h2]; decide) (by decide) ?_
    refine px_aload_n dX9_about_84 rfl rfl ?_
    refine px_getR (v := t.1) dX9_about_85 fr_9_20 rfl (px_sh1 hw sh_1) (px_rf hw rf_1_2) ht1.ne ?_
    refine px_getI dX9_about_88 fr_9_269 rfl (px_sh1 hw ht1.sh) ?_
    exact px_ireturn dX9_about_91 rfl rfl (k2 h1 h2)
  by_cases h3 : x1 = 2
  ·
    refine px_table (tgt := 92) dX9_about_1 91 (by rw [h3]; decide) (by decide) ?_
    refine px_aload_n dX9_about_92 rfl rfl ?_
    refine px_getR (v := t.1) dX9_about_93 fr_9_20 rfl (px_sh1 hw sh_1) (px_rf hw rf_1_2) ht1.ne ?_
    refine px_getI dX9_about_96 fr_9_283 rfl (px_sh1 hw ht1.sh) ?_
    exact px_ireturn dX9_about_99 rfl rfl (k3 h1 h2 h3)
  by_cases h4 : x1 = 3
  ·
    refine px_table (tgt := 100) dX9_about_1 99 (by rw [h4]; decide) (by decide) ?_
    refine px_aload_n dX9_about_100 rfl rfl ?_
    refine px_getR (v := 35) dX9_about_101 fr_9_40 rfl (px_sh1 hw sh_1) (px_rf hw rf_1_6) (by decide) ?_
    refine px_getI dX9_about_104 fr_9_240 rfl (px_sh1 hw sh_35) ?_
    exact px_ireturn dX9_about_107 rfl rfl (k4 h1 h2 h3 h4)
  by_cases h5 : x1 = 4
  ·
    refine px_table (tgt := 108) dX9_about_1 107 (by rw [h5]; decide) (by decide) ?_
    refine px_aload_n dX9_about_108 rfl rfl ?_
    refine px_getR (v := 35) dX9_about_109 fr_9_40 rfl (px_sh1 hw sh_1) (px_rf hw rf_1_6) (by decide) ?_
    refine px_getI dX9_about_112 fr_9_164 rfl (px_sh1 hw sh_35) ?_
    exact px_ireturn dX9_about_115 rfl rfl (k5 h1 h2 h3 h4 h5)
  by_cases h6 : x1 = 5
  ·
    refine px_table (tgt := 116) dX9_about_1 115 (by rw [h6]; decide) (by decide) ?_
    refine px_aload_n dX9_about_116 rfl rfl ?_
    refine px_getR (v := 35) dX9_about_117 fr_9_40 rfl (px_sh1 hw sh_1) (px_rf hw rf_1_6) (by decide) ?_
    refine px_getI dX9_about_120 fr_9_327 rfl (px_sh1 hw sh_35) ?_
    exact px_ireturn dX9_about_123 rfl rfl (k6 h1 h2 h3 h4 h5 h6)
  by_cases h7 : x1 = 6
  ·
    refine px_table (tgt := 124) dX9_about_1 123 (by rw [h7]; decide) (by decide) ?_
    refine px_aload_n dX9_about_124 rfl rfl ?_
    refine px_getR (v := 38) dX9_about_125 fr_9_47 rfl (px_sh1 hw sh_1) (px_rf hw rf_1_7) (by decide) ?_
    refine px_forget (ls' := [.null, .null]) ?_ ⟨Or.inl rfl, Or.inl rfl, trivial⟩
    exact px_callV (As := []) (st := []) (rc := 0) (rs := 0) (mc := 0) (ms := 0) dX9_about_128 lk_9_330 (px_sh1 hw sh_38) rfl rfl (Nat.le_of_ble_eq_true rfl) (k7 h1 h2 h3 h4 h5 h6 h7)
  by_cases h8 : x1 = 7
  ·
    refine px_table (tgt := 132) dX9_about_1 131 (by rw [h8]; decide) (by decide) ?_
    refine px_aload_n dX9_about_132 rfl rfl ?_
    refine px_getR (v := 38) dX9_about_133 fr_9_47 rfl (px_sh1 hw sh_1) (px_rf hw rf_1_7) (by decide) ?_
    refine px_forget (ls' := [.null, .null]) ?_ ⟨Or.inl rfl, Or.inl rfl, trivial⟩
    exact px_callV (As := []) (st := []) (rc := 0) (rs := 0) (mc := 0) (ms := 0) dX9_about_136 lk_9_333 (px_sh1 hw sh_38) rfl rfl (Nat.le_of_ble_eq_true rfl) (k8 h1 h2 h3 h4 h5 h6 h7 h8)
  by_cases h9 : x1 = 8
  ·
    refine px_table (tgt := 140) dX9_about_1 139 (by rw [h9]; decide) (by decide) ?_
    refine px_aload_n dX9_about_140 rfl rfl ?_
    refine px_getR (v := 48) dX9_about_141 fr_9_75 rfl (px_sh1 hw sh_1) (px_rf hw rf_1_12) (by decide) ?_
    refine px_getI dX9_about_144 fr_9_336 rfl (px_sh1 hw sh_48) ?_
    exact px_ireturn dX9_about_147 rfl rfl (k9 h1 h2 h3 h4 h5 h6 h7 h8 h9)
  by_cases h10 : x1 = 9
  ·
    refine px_table (tgt := 148) dX9_about_1 147 (by rw [h10]; decide) (by decide) ?_
    refine px_aload_n dX9_about_148 rfl rfl ?_
    refine px_getR (v := 48) dX9_about_149 fr_9_75 rfl (px_sh1 hw sh_1) (px_rf hw rf_1_12) (by decide) ?_
    refine px_getI dX9_about_152 fr_9_339 rfl (px_sh1 hw sh_48) ?_
    exact px_ireturn dX9_about_155 rfl rfl (k10 h1 h2 h3 h4 h5 h6 h7 h8 h9 h10)
  by_cases h11 : x1 = 10
  ·
    refine px_table (tgt := 156) dX9_about_1 155 (by rw [h11]; decide) (by decide) ?_
    refine px_aload_n dX9_about_156 rfl rfl ?_
    refine px_getI dX9_about_157 fr_9_13 rfl (px_sh1 hw sh_1) ?_
    exact px_ireturn dX9_about_160 rfl rfl (k11 h1 h2 h3 h4 h5 h6 h7 h8 h9 h10 h11)
  by_cases h12 : x1 = 11
  ·
    refine px_table (tgt := 161) dX9_about_1 160 (by rw [h12]; decide) (by decide) ?_
    refine px_aload_n dX9_about_161 rfl rfl ?_
    refine px_getR (v := t.1) dX9_about_162 fr_9_20 rfl (px_sh1 hw sh_1) (px_rf hw rf_1_2) ht1.ne ?_
    refine px_getR (v := (t.1 + 10)) dX9_about_165 fr_9_160 rfl (px_sh1 hw ht1.sh) (px_rf hw ht1.rf15) (Nat.succ_ne_zero _) ?_
    refine px_getI dX9_about_168 fr_9_342 rfl (px_sh1 hw ht1.is10.sh) ?_
    exact px_ireturn dX9_about_171 rfl rfl (k12 h1 h2 h3 h4 h5 h6 h7 h8 h9 h10 h11 h12)
  by_cases h13 : x1 = 12
  ·
    refine px_table (tgt := 172) dX9_about_1 171 (by rw [h13]; decide) (by decide) ?_
    refine px_aload_n dX9_about_172 rfl rfl ?_
    refine px_getI dX9_about_173 fr_9_82 rfl (px_sh1 hw sh_1) ?_
    exact px_ireturn dX9_about_176 rfl rfl (k13 h1 h2 h3 h4 h5 h6 h7 h8 h9 h10 h11 h12 h13)
  by_cases h14 : x1 = 13
  ·
    refine px_table (tgt := 177) dX9_about_1 176 (by rw [h14]; decide) (by decide) ?_
    refine px_aload_n dX9_about_177 rfl rfl ?_
    refine px_getR (v := t.1) dX9_about_178 fr_9_20 rfl (px_sh1 hw sh_1) (px_rf hw rf_1_2) ht1.ne ?_
    refine px_getI dX9_about_181 fr_9_345 rfl (px_sh1 hw ht1.sh) ?_
    exact px_ireturn dX9_about_184 rfl rfl (k14 h1 h2 h3 h4 h5 h6 h7 h8 h9 h10 h11 h12 h13 h14)
  by_cases h15 : x1 = 14
  ·
    refine px_table (tgt := 185) dX9_about_1 184 (by rw [h15]; decide) (by decide) ?_
    refine px_aload_n dX9_about_185 rfl rfl ?_
    refine px_getR (v := t.1) dX9_about_186 fr_9_20 rfl (px_sh1 hw sh_1) (px_rf hw rf_1_2) ht1.ne ?_
    refine px_getI dX9_about_189 fr_9_292 rfl (px_sh1 hw ht1.sh) ?_
    exact px_ireturn dX9_about_192 rfl rfl (k15 h1 h2 h3 h4 h5 h6 h7 h8 h9 h10 h11 h12 h13 h14 h15)
  refine px_table (tgt := 193) dX9_about_1 192 (by have a0 := lv_neT h1 (show (0 : Int32).toInt = 0 from by decide); have a1 := lv_neT h2 (show (1 : Int32).toInt = 1 from by decide); have a2 := lv_neT h3 (show (2 : Int32).toInt = 2 from by decide); have a3 := lv_neT h4 (show (3 : Int32).toInt = 3 from by decide); have a4 := lv_neT h5 (show (4 : Int32).toInt = 4 from by decide); have a5 := lv_neT h6 (show (5 : Int32).toInt = 5 from by decide); have a6 := lv_neT h7 (show (6 : Int32).toInt = 6 from by decide); have a7 := lv_neT h8 (show (7 : Int32).toInt = 7 from by decide); have a8 := lv_neT h9 (show (8 : Int32).toInt = 8 from by decide); have a9 := lv_neT h10 (show (9 : Int32).toInt = 9 from by decide); have a10 := lv_neT h11 (show (10 : Int32).toInt = 10 from by decide); have a11 := lv_neT h12 (show (11 : Int32).toInt = 11 from by decide); have a12 := lv_neT h13 (show (12 : Int32).toInt = 12 from by decide); have a13 := lv_neT h14 (show (13 : Int32).toInt = 13 from by decide); have a14 := lv_neT h15 (show (14 : Int32).toInt = 14 from by decide); rw [if_pos (by omega)]) (by decide) ?_
  refine px_iconst dX9_about_193 ic_m1 ?_
  exact px_ireturn dX9_about_194 rfl rfl (k16 h1 h2 h3 h4 h5 h6 h7 h8 h9 h10 h11 h12 h13 h14 h15)
theorem eX9_about {E : px_E} {d : Nat} {w : pw_W} {Q : Option Value → pw_W → Prop} {t : ct_T} (hw : w.1 = cs t) {x1 : Int32} (ht1 : is_Hamlet t.1) 
    (k1 : x1 = 0 → Q (some (.int (pw_I w t.1 0))) w)
    (k2 : ¬ x1 = 0 → x1 = 1 → Q (some (.int (pw_I w t.1 4))) w)
    (k3 : ¬ x1 = 0 → ¬ x1 = 1 → x1 = 2 → Q (some (.int (pw_I w t.1 8))) w)
    (k4 : ¬ x1 = 0 → ¬ x1 = 1 → ¬ x1 = 2 → x1 = 3 → Q (some (.int (pw_I w 35 2))) w)
    (k5 : ¬ x1 = 0 → ¬ x1 = 1 → ¬ x1 = 2 → ¬ x1 = 3 → x1 = 4 → Q (some (.int (pw_I w 35 3))) w)
    (k6 : ¬ x1 = 0 → ¬ x1 = 1 → ¬ x1 = 2 → ¬ x1 = 3 → ¬ x1 = 4 → x1 = 5 → Q (some (.int (pw_I w 35 4))) w)
    (k7 : ¬ x1 = 0 → ¬ x1 = 1 → ¬ x1 = 2 → ¬ x1 = 3 → ¬ x1 = 4 → ¬ x1 = 5 → x1 = 6 → px_Call E d 0 0 mX3_undoable [.ref 38] w (fun v w' => px_W E mX9_about (d + 1) 0 0 131 [.null, .null] (v.toList ++ []) w' Q))
    (k8 : ¬ x1 = 0 → ¬ x1 = 1 → ¬ x1 = 2 → ¬ x1 = 3 → ¬ x1 = 4 → ¬ x1 = 5 → ¬ x1 = 6 → x1 = 7 → px_Call E d 0 0 mX3_redoable [.ref 38] w (fun v w' => px_W E mX9_about (d + 1) 0 0 139 [.null, .null] (v.toList ++ []) w' Q))
    (k9 : ¬ x1 = 0 → ¬ x1 = 1 → ¬ x1 = 2 → ¬ x1 = 3 → ¬ x1 = 4 → ¬ x1 = 5 → ¬ x1 = 6 → ¬ x1 = 7 → x1 = 8 → Q (some (.int (pw_I w 48 10))) w)
    (k10 : ¬ x1 = 0 → ¬ x1 = 1 → ¬ x1 = 2 → ¬ x1 = 3 → ¬ x1 = 4 → ¬ x1 = 5 → ¬ x1 = 6 → ¬ x1 = 7 → ¬ x1 = 8 → x1 = 9 → Q (some (.int (pw_I w 48 11))) w)
    (k11 : ¬ x1 = 0 → ¬ x1 = 1 → ¬ x1 = 2 → ¬ x1 = 3 → ¬ x1 = 4 → ¬ x1 = 5 → ¬ x1 = 6 → ¬ x1 = 7 → ¬ x1 = 8 → ¬ x1 = 9 → x1 = 10 → Q (some (.int (pw_I w 1 1))) w)
    (k12 : ¬ x1 = 0 → ¬ x1 = 1 → ¬ x1 = 2 → ¬ x1 = 3 → ¬ x1 = 4 → ¬ x1 = 5 → ¬ x1 = 6 → ¬ x1 = 7 → ¬ x1 = 8 → ¬ x1 = 9 → ¬ x1 = 10 → x1 = 11 → Q (some (.int (pw_I w (t.1 + 10) 3))) w)
    (k13 : ¬ x1 = 0 → ¬ x1 = 1 → ¬ x1 = 2 → ¬ x1 = 3 → ¬ x1 = 4 → ¬ x1 = 5 → ¬ x1 = 6 → ¬ x1 = 7 → ¬ x1 = 8 → ¬ x1 = 9 → ¬ x1 = 10 → ¬ x1 = 11 → x1 = 12 → Q (some (.int (pw_I w 1 14))) w)
    (k14 : ¬ x1 = 0 → ¬ x1 = 1 → ¬ x1 = 2 → ¬ x1 = 3 → ¬ x1 = 4 → ¬ x1 = 5 → ¬ x1 = 6 → ¬ x1 = 7 → ¬ x1 = 8 → ¬ x1 = 9 → ¬ x1 = 10 → ¬ x1 = 11 → ¬ x1 = 12 → x1 = 13 → Q (some (.int (pw_I w t.1 12))) w)
    (k15 : ¬ x1 = 0 → ¬ x1 = 1 → ¬ x1 = 2 → ¬ x1 = 3 → ¬ x1 = 4 → ¬ x1 = 5 → ¬ x1 = 6 → ¬ x1 = 7 → ¬ x1 = 8 → ¬ x1 = 9 → ¬ x1 = 10 → ¬ x1 = 11 → ¬ x1 = 12 → ¬ x1 = 13 → x1 = 14 → Q (some (.int (pw_I w t.1 13))) w)
    (k16 : ¬ x1 = 0 → ¬ x1 = 1 → ¬ x1 = 2 → ¬ x1 = 3 → ¬ x1 = 4 → ¬ x1 = 5 → ¬ x1 = 6 → ¬ x1 = 7 → ¬ x1 = 8 → ¬ x1 = 9 → ¬ x1 = 10 → ¬ x1 = 11 → ¬ x1 = 12 → ¬ x1 = 13 → ¬ x1 = 14 → Q (some (.int (-1))) w) :
    px_Call E (d + 1) 0 0 mX9_about [.ref 1, .int x1] w Q :=
  px_enter (k := 0) (by decide) (Nat.le_of_ble_eq_true rfl) rfl (px_forget (bX9_about_0 hw ht1 k1 k2 k3 k4 k5 k6 k7 k8 k9 k10 k11 k12 k13 k14 k15 k16) ⟨Or.inr rfl, Or.inr rfl, trivial⟩)
theorem bX9_about_131 {E : px_E} {d : Nat} {w : pw_W} {Q : Option Value → pw_W → Prop} {y0 : Int32}  
    (k1 : Q (some (.int y0)) w) :
    px_W E mX9_about (d + 1) 0 0 131 [.null, .null] [.int y0] w Q := by
  exact px_ireturn dX9_about_131 rfl rfl k1
theorem bX9_about_139 {E : px_E} {d : Nat} {w : pw_W} {Q : Option Value → pw_W → Prop} {y0 : Int32}  
    (k1 : Q (some (.int y0)) w) :
    px_W E mX9_about (d + 1) 0 0 139 [.null, .null] [.int y0] w Q := by
  exact px_ireturn dX9_about_139 rfl rfl k1
theorem dX2_passDay_0 : decode mX2_passDay.2.1 0 = .ok (.iconst 0, 1) := by decide +kernel
theorem dX2_passDay_1 : decode mX2_passDay.2.1 1 = .ok (.istore 4, 2) := by decide +kernel
theorem dX2_passDay_3 : decode mX2_passDay.2.1 3 = .ok (.iconst 0, 1) := by decide +kernel
theorem dX2_passDay_4 : decode mX2_passDay.2.1 4 = .ok (.istore 5, 2) := by decide +kernel
theorem dX2_passDay_6 : decode mX2_passDay.2.1 6 = .ok (.iload 5, 2) := by decide +kernel
theorem dX2_passDay_8 : decode mX2_passDay.2.1 8 = .ok (.aload_n 0, 1) := by decide +kernel
theorem dX2_passDay_9 : decode mX2_passDay.2.1 9 = .ok (.getfield 53, 3) := by decide +kernel
theorem dX2_passDay_12 : decode mX2_passDay.2.1 12 = .ok (.if_icmp .ge 47, 3) := by decide +kernel
theorem dX2_passDay_15 : decode mX2_passDay.2.1 15 = .ok (.aload_n 0, 1) := by decide +kernel
theorem dX2_passDay_16 : decode mX2_passDay.2.1 16 = .ok (.aload_n 1, 1) := by decide +kernel
theorem dX2_passDay_17 : decode mX2_passDay.2.1 17 = .ok (.iload 5, 2) := by decide +kernel
theorem dX2_passDay_19 : decode mX2_passDay.2.1 19 = .ok (.invokevirtual 92, 3) := by decide +kernel
theorem dX2_passDay_22 : decode mX2_passDay.2.1 22 = .ok (.ifCond .eq 31, 3) := by decide +kernel
theorem dX2_passDay_25 : decode mX2_passDay.2.1 25 = .ok (.aload_n 0, 1) := by decide +kernel
theorem dX2_passDay_26 : decode mX2_passDay.2.1 26 = .ok (.aload_n 1, 1) := by decide +kernel
theorem dX2_passDay_27 : decode mX2_passDay.2.1 27 = .ok (.aload_n 0, 1) := by decide +kernel
theorem dX2_passDay_28 : decode mX2_passDay.2.1 28 = .ok (.getfield 21, 3) := by decide +kernel
theorem dX2_passDay_31 : decode mX2_passDay.2.1 31 = .ok (.iload 5, 2) := by decide +kernel
theorem dX2_passDay_33 : decode mX2_passDay.2.1 33 = .ok (.iaload, 1) := by decide +kernel
theorem dX2_passDay_34 : decode mX2_passDay.2.1 34 = .ok (.aload_n 0, 1) := by decide +kernel
theorem dX2_passDay_35 : decode mX2_passDay.2.1 35 = .ok (.getfield 24, 3) := by decide +kernel
theorem dX2_passDay_38 : decode mX2_passDay.2.1 38 = .ok (.iload 5, 2) := by decide +kernel
theorem dX2_passDay_40 : decode mX2_passDay.2.1 40 = .ok (.iaload, 1) := by decide +kernel
theorem dX2_passDay_41 : decode mX2_passDay.2.1 41 = .ok (.invokevirtual 95, 3) := by decide +kernel
theorem dX2_passDay_44 : decode mX2_passDay.2.1 44 = .ok (.iload 4, 2) := by decide +kernel
theorem dX2_passDay_46 : decode mX2_passDay.2.1 46 = .ok (.iconst 1, 1) := by decide +kernel
theorem dX2_passDay_47 : decode mX2_passDay.2.1 47 = .ok (.iload 5, 2) := by decide +kernel
theorem dX2_passDay_49 : decode mX2_passDay.2.1 49 = .ok (.ishl, 1) := by decide +kernel
theorem dX2_passDay_50 : decode mX2_passDay.2.1 50 = .ok (.ior, 1) := by decide +kernel
theorem dX2_passDay_51 : decode mX2_passDay.2.1 51 = .ok (.istore 4, 2) := by decide +kernel
theorem dX2_passDay_53 : decode mX2_passDay.2.1 53 = .ok (.iinc 5 1, 3) := by decide +kernel
theorem dX2_passDay_56 : decode mX2_passDay.2.1 56 = .ok (.goto (-50), 3) := by decide +kernel
theorem dX2_passDay_59 : decode mX2_passDay.2.1 59 = .ok (.iconst 0, 1) := by decide +kernel
theorem dX2_passDay_60 : decode mX2_passDay.2.1 60 = .ok (.istore 5, 2) := by decide +kernel
theorem dX2_passDay_62 : decode mX2_passDay.2.1 62 = .ok (.iload 5, 2) := by decide +kernel
theorem dX2_passDay_64 : decode mX2_passDay.2.1 64 = .ok (.aload_n 0, 1) := by decide +kernel
theorem dX2_passDay_65 : decode mX2_passDay.2.1 65 = .ok (.getfield 56, 3) := by decide +kernel
theorem dX2_passDay_68 : decode mX2_passDay.2.1 68 = .ok (.if_icmp .ge 50, 3) := by decide +kernel
theorem dX2_passDay_71 : decode mX2_passDay.2.1 71 = .ok (.aload_n 0, 1) := by decide +kernel
theorem dX2_passDay_72 : decode mX2_passDay.2.1 72 = .ok (.getfield 33, 3) := by decide +kernel
theorem dX2_passDay_75 : decode mX2_passDay.2.1 75 = .ok (.iload 5, 2) := by decide +kernel
theorem dX2_passDay_77 : decode mX2_passDay.2.1 77 = .ok (.iaload, 1) := by decide +kernel
theorem dX2_passDay_78 : decode mX2_passDay.2.1 78 = .ok (.ifCond .le 34, 3) := by decide +kernel
theorem dX2_passDay_81 : decode mX2_passDay.2.1 81 = .ok (.aload_n 1, 1) := by decide +kernel
theorem dX2_passDay_82 : decode mX2_passDay.2.1 82 = .ok (.getfield 79, 3) := by decide +kernel
theorem dX2_passDay_85 : decode mX2_passDay.2.1 85 = .ok (.aload_n 0, 1) := by decide +kernel
theorem dX2_passDay_86 : decode mX2_passDay.2.1 86 = .ok (.getfield 33, 3) := by decide +kernel
theorem dX2_passDay_89 : decode mX2_passDay.2.1 89 = .ok (.iload 5, 2) := by decide +kernel
theorem dX2_passDay_91 : decode mX2_passDay.2.1 91 = .ok (.iaload, 1) := by decide +kernel
theorem dX2_passDay_92 : decode mX2_passDay.2.1 92 = .ok (.irem, 1) := by decide +kernel
theorem dX2_passDay_93 : decode mX2_passDay.2.1 93 = .ok (.istore 6, 2) := by decide +kernel
theorem dX2_passDay_95 : decode mX2_passDay.2.1 95 = .ok (.aload_n 0, 1) := by decide +kernel
theorem dX2_passDay_96 : decode mX2_passDay.2.1 96 = .ok (.aload_n 1, 1) := by decide +kernel
theorem dX2_passDay_97 : decode mX2_passDay.2.1 97 = .ok (.iload 5, 2) := by decide +kernel
theorem dX2_passDay_99 : decode mX2_passDay.2.1 99 = .ok (.aload_n 2, 1) := by decide +kernel
theorem dX2_passDay_100 : decode mX2_passDay.2.1 100 = .ok (.iload 5, 2) := by decide +kernel
theorem dX2_passDay_102 : decode mX2_passDay.2.1 102 = .ok (.bipush 6, 2) := by decide +kernel
theorem dX2_passDay_104 : decode mX2_passDay.2.1 104 = .ok (.imul, 1) := by decide +kernel
theorem dX2_passDay_105 : decode mX2_passDay.2.1 105 = .ok (.iload 6, 2) := by decide +kernel
theorem dX2_passDay_107 : decode mX2_passDay.2.1 107 = .ok (.iadd, 1) := by decide +kernel
theorem dX2_passDay_108 : decode mX2_passDay.2.1 108 = .ok (.iaload, 1) := by decide +kernel
theorem dX2_passDay_109 : decode mX2_passDay.2.1 109 = .ok (.invokevirtual 99, 3) := by decide +kernel
theorem dX2_passDay_112 : decode mX2_passDay.2.1 112 = .ok (.iinc 5 1, 3) := by decide +kernel
theorem dX2_passDay_115 : decode mX2_passDay.2.1 115 = .ok (.goto (-53), 3) := by decide +kernel
theorem dX2_passDay_118 : decode mX2_passDay.2.1 118 = .ok (.iload_n 3, 1) := by decide +kernel
theorem dX2_passDay_119 : decode mX2_passDay.2.1 119 = .ok (.ifCond .eq 8, 3) := by decide +kernel
theorem dX2_passDay_122 : decode mX2_passDay.2.1 122 = .ok (.aload_n 0, 1) := by decide +kernel
theorem dX2_passDay_123 : decode mX2_passDay.2.1 123 = .ok (.aload_n 1, 1) := by decide +kernel
theorem dX2_passDay_124 : decode mX2_passDay.2.1 124 = .ok (.invokevirtual 102, 3) := by decide +kernel
theorem dX2_passDay_127 : decode mX2_passDay.2.1 127 = .ok (.aload_n 1, 1) := by decide +kernel
theorem dX2_passDay_128 : decode mX2_passDay.2.1 128 = .ok (.dup, 1) := by decide +kernel
theorem dX2_passDay_129 : decode mX2_passDay.2.1 129 = .ok (.getfield 79, 3) := by decide +kernel
theorem dX2_passDay_132 : decode mX2_passDay.2.1 132 = .ok (.iconst 1, 1) := by decide +kernel
theorem dX2_passDay_133 : decode mX2_passDay.2.1 133 = .ok (.iadd, 1) := by decide +kernel
theorem dX2_passDay_134 : decode mX2_passDay.2.1 134 = .ok (.putfield 79, 3) := by decide +kernel
theorem dX2_passDay_137 : decode mX2_passDay.2.1 137 = .ok (.iload 4, 2) := by decide +kernel
theorem dX2_passDay_139 : decode mX2_passDay.2.1 139 = .ok (.ireturn, 1) := by decide +kernel
theorem bX2_passDay_0 {E : px_E} {d : Nat} {w : pw_W} {Q : Option Value → pw_W → Prop} {t : ct_T} {x3 : Int32} {r0 : Nat} (hr0 : is_Hamlet r0) {r1 : Nat} (hr1 : is_State r1) {r2 n2 : Nat} (hs2 : (cs t).2.1 r2 = (100, n2)) (hn2 : n2 < 2 ^ 31) 
    (k1 : px_W E mX2_passDay (d + 1) 0 0 6 [.ref r0, .ref r1, .ref r2, .int x3, .int 0, .int 0, .null] [] w Q) :
    px_W E mX2_passDay (d + 1) 0 0 0 [.ref r0, .ref r1, .ref r2, .int x3, .null, .null, .null] [] w Q := by
  refine px_iconst dX2_passDay_0 ic_0 ?_
  refine px_istore (ls' := [.ref r0, .ref r1, .ref r2, .int x3, .int 0, .null, .null]) dX2_passDay_1 ⟨by decide, rfl⟩ rfl ?_
  refine px_iconst dX2_passDay_3 ic_0 ?_
  refine px_istore (ls' := [.ref r0, .ref r1, .ref r2, .int x3, .int 0, .int 0, .null]) dX2_passDay_4 ⟨by decide, rfl⟩ rfl ?_
  exact k1
theorem eX2_passDay {E : px_E} {d : Nat} {w : pw_W} {Q : Option Value → pw_W → Prop} {t : ct_T} {x3 : Int32} {r0 : Nat} (hr0 : is_Hamlet r0) {r1 : Nat} (hr1 : is_State r1) {r2 n2 : Nat} (hs2 : (cs t).2.1 r2 = (100, n2)) (hn2 : n2 < 2 ^ 31) 
    (k1 : px_W E mX2_passDay (d + 1) 0 0 6 [.ref r0, .ref r1, .ref r2, .int x3, .int 0, .int 0, .null] [] w Q) :
    px_Call E (d + 1) 0 0 mX2_passDay [.ref r0, .ref r1, .ref r2, .int x3] w Q :=
  px_enter (k := 3) (by decide) (Nat.le_of_ble_eq_true rfl) rfl (px_forget (bX2_passDay_0 hr0 hr1 hs2 hn2 k1) ⟨Or.inr rfl, Or.inr rfl, Or.inr rfl, Or.inr rfl, Or.inl rfl, Or.inl rfl, Or.inl rfl, trivial⟩)
theorem bX2_passDay_6 {E : px_E} {d : Nat} {w : pw_W} {Q : Option Value → pw_W → Prop} {t : ct_T} (hw : w.1 = cs t) {x3 x4 x5 : Int32} {r0 : Nat} (hr0 : is_Hamlet r0) {r1 : Nat} (hr1 : is_State r1) {r2 n2 : Nat} (hs2 : (cs t).2.1 r2 = (100, n2)) (hn2 : n2 < 2 ^ 31) 
    (k1 : (pw_I w r0 4) ≤ x5 → px_W E mX2_passDay (d + 1) 0 0 62 [.ref r0, .ref r1, .ref r2, .int x3, .int x4, .int 0, .null] [] w Q)
    (k2 : ¬ (pw_I w r0 4) ≤ x5 → px_Call E d 0 0 mX2_takesPlace [.ref r0, .ref r1, .int x5] w (fun v w' => px_W E mX2_passDay (d + 1) 0 0 22 [.ref r0, .ref r1, .ref r2, .int x3, .int x4, .int x5, .null] (v.toList ++ []) w' Q)) :
    px_W E mX2_passDay (d + 1) 0 0 6 [.ref r0, .ref r1, .ref r2, .int x3, .int x4, .int x5, .null] [] w Q := by
  refine px_iload dX2_passDay_6 rfl ?_
  refine px_aload_n dX2_passDay_8 rfl rfl ?_
  refine px_getI dX2_passDay_9 fr_2_53 rfl (px_sh1 hw hr0.sh) ?_
  refine px_icmp_ge (tgt := 59) dX2_passDay_12 (by decide) (fun h1 => ?_) (fun h1 => ?_)
  ·
    refine px_iconst dX2_passDay_59 ic_0 ?_
    refine px_istore (ls' := [.ref r0, .ref r1, .ref r2, .int x3, .int x4, .int 0, .null]) dX2_passDay_60 ⟨by decide, rfl⟩ rfl ?_
    exact (k1 h1)
  ·
    refine px_aload_n dX2_passDay_15 rfl rfl ?_
    refine px_aload_n dX2_passDay_16 rfl rfl ?_
    refine px_iload dX2_passDay_17 rfl ?_
    exact px_callV (As := [.ref r1, .int x5]) (st := []) (rc := 0) (rs := 0) (mc := 0) (ms := 0) dX2_passDay_19 lk_2_92 (px_sh1 hw hr0.sh) rfl rfl (Nat.le_of_ble_eq_true rfl) (k2 h1)
theorem bX2_passDay_22 {E : px_E} {d : Nat} {w : pw_W} {Q : Option Value → pw_W → Prop} {t : ct_T} {x3 x4 x5 y0 : Int32} {r0 : Nat} (hr0 : is_Hamlet r0) {r1 : Nat} (hr1 : is_State r1) {r2 n2 : Nat} (hs2 : (cs t).2.1 r2 = (100, n2)) (hn2 : n2 < 2 ^ 31) 
    (k1 : y0 = 0 → px_W E mX2_passDay (d + 1) 0 0 53 [.ref r0, .ref r1, .ref r2, .int x3, .int x4, .int x5, .null] [] w Q)
    (k2 : ¬ y0 = 0 → px_W E mX2_passDay (d + 1) 0 0 25 [.ref r0, .ref r1, .ref r2, .int x3, .int x4, .int x5, .null] [] w Q) :
    px_W E mX2_passDay (d + 1) 0 0 22 [.ref r0, .ref r1, .ref r2, .int x3, .int x4, .int x5, .null] [.int y0] w Q := by
  refine px_if_eq (tgt := 53) dX2_passDay_22 (by decide) (fun h1 => ?_) (fun h1 => ?_)
  ·
    exact (k1 h1)
  ·
    exact (k2 h1)
theorem bX2_passDay_25 {E : px_E} {d : Nat} {w : pw_W} {Q : Option Value → pw_W → Prop} {t : ct_T} (hw : w.1 = cs t) {x3 x4 x5 : Int32} {r0 : Nat} (hr0 : is_Hamlet r0) {r1 : Nat} (hr1 : is_State r1) {r2 n2 : Nat} (hs2 : (cs t).2.1 r2 = (100, n2)) (hn2 : n2 < 2 ^ 31) (j1 : Nat) (hj1 : x5 = nI j1) (hl1 : j1 < 9)
    (k1 : px_Call E d 0 0 mX2_meet [.ref r0, .ref r1, .int (pw_I w (r0 + 4) j1), .int (pw_I w (r0 + 5) j1)] w (fun v w' => px_W E mX2_passDay (d + 1) 0 0 44 [.ref r0, .ref r1, .ref r2, .int x3, .int x4, .int x5, .null] (v.toList ++ []) w' Q)) :
    px_W E mX2_passDay (d + 1) 0 0 25 [.ref r0, .ref r1, .ref r2, .int x3, .int x4, .int x5, .null] [] w Q := by
  refine px_aload_n dX2_passDay_25 rfl rfl ?_
  refine px_aload_n dX2_passDay_26 rfl rfl ?_
  refine px_aload_n dX2_passDay_27 rfl rfl ?_
  refine px_getR (v := (r0 + 4)) dX2_passDay_28 fr_2_21 rfl (px_sh1 hw hr0.sh) (px_rf hw hr0.rf5) (Nat.succ_ne_zero _) ?_
  refine px_iload dX2_passDay_31 rfl ?_
  refine px_iald dX2_passDay_33 (px_sh2 hw hr0.sh4) (by decide) j1 hj1 hl1 ?_
  refine px_aload_n dX2_passDay_34 rfl rfl ?_
  refine px_getR (v := (r0 + 5)) dX2_passDay_35 fr_2_24 rfl (px_sh1 hw hr0.sh) (px_rf hw hr0.rf6) (Nat.succ_ne_zero _) ?_
  refine px_iload dX2_passDay_38 rfl ?_
  refine px_iald dX2_passDay_40 (px_sh2 hw hr0.sh5) (by decide) j1 hj1 hl1 ?_
  exact px_callV (As := [.ref r1, .int (pw_I w (r0 + 4) j1), .int (pw_I w (r0 + 5) j1)]) (st := []) (rc := 0) (rs := 0) (mc := 0) (ms := 0) dX2_passDay_41 lk_2_95 (px_sh1 hw hr0.sh) rfl rfl (Nat.le_of_ble_eq_true rfl) k1
theorem bX2_passDay_44 {E : px_E} {d : Nat} {w : pw_W} {Q : Option Value → pw_W → Prop} {t : ct_T} {x3 x4 x5 : Int32} {r0 : Nat} (hr0 : is_Hamlet r0) {r1 : Nat} (hr1 : is_State r1) {r2 n2 : Nat} (hs2 : (cs t).2.1 r2 = (100, n2)) (hn2 : n2 < 2 ^ 31) 
    (k1 : px_W E mX2_passDay (d + 1) 0 0 53 [.ref r0, .ref r1, .ref r2, .int x3, .int (x4 ||| (js_shl 1 x5)), .int x5, .null] [] w Q) :
    px_W E mX2_passDay (d + 1) 0 0 44 [.ref r0, .ref r1, .ref r2, .int x3, .int x4, .int x5, .null] [] w Q := by
  refine px_iload dX2_passDay_44 rfl ?_
  refine px_iconst dX2_passDay_46 ic_1 ?_
  refine px_iload dX2_passDay_47 rfl ?_
  refine px_ishl dX2_passDay_49 ?_
  refine px_ior dX2_passDay_50 ?_
  refine px_istore (ls' := [.ref r0, .ref r1, .ref r2, .int x3, .int (x4 ||| (js_shl 1 x5)), .int x5, .null]) dX2_passDay_51 ⟨by decide, rfl⟩ rfl ?_
  exact k1
theorem bX2_passDay_53 {E : px_E} {d : Nat} {w : pw_W} {Q : Option Value → pw_W → Prop} {t : ct_T} {x3 x4 x5 : Int32} {r0 : Nat} (hr0 : is_Hamlet r0) {r1 : Nat} (hr1 : is_State r1) {r2 n2 : Nat} (hs2 : (cs t).2.1 r2 = (100, n2)) (hn2 : n2 < 2 ^ 31) 
    (k1 : px_W E mX2_passDay (d + 1) 0 0 6 [.ref r0, .ref r1, .ref r2, .int x3, .int x4, .int (x5 + 1), .null] [] w Q) :
    px_W E mX2_passDay (d + 1) 0 0 53 [.ref r0, .ref r1, .ref r2, .int x3, .int x4, .int x5, .null] [] w Q := by
  refine px_iinc (ls' := [.ref r0, .ref r1, .ref r2, .int x3, .int x4, .int (x5 + 1), .null]) dX2_passDay_53 ⟨by decide, rfl⟩ rfl rfl rfl ?_
  refine px_goto (tgt := 6) dX2_passDay_56 (by decide) ?_
  exact k1
theorem bX2_passDay_62 {E : px_E} {d : Nat} {w : pw_W} {Q : Option Value → pw_W → Prop} {t : ct_T} (hw : w.1 = cs t) {x3 x4 x5 : Int32} {r0 : Nat} (hr0 : is_Hamlet r0) {r1 : Nat} (hr1 : is_State r1) {r2 n2 : Nat} (hs2 : (cs t).2.1 r2 = (100, n2)) (hn2 : n2 < 2 ^ 31) 
    (k1 : (pw_I w r0 8) ≤ x5 → x3 = 0 → px_W E mX2_passDay (d + 1) 0 0 127 [.null, .ref r1, .null, .null, .int x4, .null, .null] [] w Q)
    (k2 : (pw_I w r0 8) ≤ x5 → ¬ x3 = 0 → px_Call E d 0 0 mX2_flare [.ref r0, .ref r1] w (fun v w' => px_W E mX2_passDay (d + 1) 0 0 127 [.null, .ref r1, .null, .null, .int x4, .null, .null] (v.toList ++ []) w' Q))
    (k3 : ¬ (pw_I w r0 8) ≤ x5 → px_W E mX2_passDay (d + 1) 0 0 71 [.ref r0, .ref r1, .ref r2, .int x3, .int x4, .int x5, .null] [] w Q) :
    px_W E mX2_passDay (d + 1) 0 0 62 [.ref r0, .ref r1, .ref r2, .int x3, .int x4, .int x5, .null] [] w Q := by
  refine px_iload dX2_passDay_62 rfl ?_
  refine px_aload_n dX2_passDay_64 rfl rfl ?_
  refine px_getI dX2_passDay_65 fr_2_56 rfl (px_sh1 hw hr0.sh) ?_
  refine px_icmp_ge (tgt := 118) dX2_passDay_68 (by decide) (fun h1 => ?_) (fun h1 => ?_)
  ·
    refine px_iload_n dX2_passDay_118 rfl rfl ?_
    refine px_if_eq (tgt := 127) dX2_passDay_119 (by decide) (fun h2 => ?_) (fun h2 => ?_)
    ·
      exact px_forget (k1 h1 h2) ⟨Or.inl rfl, Or.inr rfl, Or.inl rfl, Or.inl rfl, Or.inr rfl, Or.inl rfl, Or.inl rfl, trivial⟩
    ·
      refine px_aload_n dX2_passDay_122 rfl rfl ?_
      refine px_aload_n dX2_passDay_123 rfl rfl ?_
      refine px_forget (ls' := [.null, .ref r1, .null, .null, .int x4, .null, .null]) ?_ ⟨Or.inl rfl, Or.inr rfl, Or.inl rfl, Or.inl rfl, Or.inr rfl, Or.inl rfl, Or.inl rfl, trivial⟩
      exact px_callV (As := [.ref r1]) (st := []) (rc := 0) (rs := 0) (mc := 0) (ms := 0) dX2_passDay_124 lk_2_102 (px_sh1 hw hr0.sh) rfl rfl (Nat.le_of_ble_eq_true rfl) (k2 h1 h2)
  ·
    exact (k3 h1)
theorem bX2_passDay_71 {E : px_E} {d : Nat} {w : pw_W} {Q : Option Value → pw_W → Prop} {t : ct_T} (hw : w.1 = cs t) {x3 x4 x5 : Int32} {r0 : Nat} (hr0 : is_Hamlet r0) {r1 : Nat} (hr1 : is_State r1) {r2 n2 : Nat} (hs2 : (cs t).2.1 r2 = (100, n2)) (hn2 : n2 < 2 ^ 31) (j1 : Nat) (hj1 : x5 = nI j1) (hl1 : j1 < 2)
    (k1 : (pw_I w (r0 + 8) j1) ≤ 0 → px_W E mX2_passDay (d + 1) 0 0 112 [.ref r0, .ref r1, .ref r2, .int x3, .int x4, .int x5, .null] [] w Q)
    (k2 : ¬ (pw_I w (r0 + 8) j1) ≤ 0 → px_W E mX2_passDay (d + 1) 0 0 81 [.ref r0, .ref r1, .ref r2, .int x3, .int x4, .int x5, .null] [] w Q) :
    px_W E mX2_passDay (d + 1) 0 0 71 [.ref r0, .ref r1, .ref r2, .int x3, .int x4, .int x5, .null] [] w Q := by
  refine px_aload_n dX2_passDay_71 rfl rfl ?_
  refine px_getR (v := (r0 + 8)) dX2_passDay_72 fr_2_33 rfl (px_sh1 hw hr0.sh) (px_rf hw hr0.rf10) (Nat.succ_ne_zero _) ?_
  refine px_iload dX2_passDay_75 rfl ?_
  refine px_iald dX2_passDay_77 (px_sh2 hw hr0.sh8) (by decide) j1 hj1 hl1 ?_
  refine px_if_le (tgt := 112) dX2_passDay_78 (by decide) (fun h1 => ?_) (fun h1 => ?_)
  ·
    exact (k1 h1)
  ·
    exact (k2 h1)
theorem bX2_passDay_81 {E : px_E} {d : Nat} {w : pw_W} {Q : Option Value → pw_W → Prop} {t : ct_T} (hw : w.1 = cs t) {x3 x4 x5 : Int32} {r0 : Nat} (hr0 : is_Hamlet r0) {r1 : Nat} (hr1 : is_State r1) {r2 n2 : Nat} (hs2 : (cs t).2.1 r2 = (100, n2)) (hn2 : n2 < 2 ^ 31) (j1 : Nat) (hj1 : x5 = nI j1) (hl1 : j1 < 2) (hz2 : ¬ (pw_I w (r0 + 8) j1) = 0) (j2 : Nat) (hj2 : ((x5 * 6) + (js_rem (pw_I w r1 3) (pw_I w (r0 + 8) j1))) = nI j2) (hl2 : j2 < n2)
    (k1 : px_Call E d 0 0 mX2_coolOne [.ref r0, .ref r1, .int x5, .int (pw_I w r2 j2)] w (fun v w' => px_W E mX2_passDay (d + 1) 0 0 112 [.ref r0, .ref r1, .ref r2, .int x3, .int x4, .int x5, .null] (v.toList ++ []) w' Q)) :
    px_W E mX2_passDay (d + 1) 0 0 81 [.ref r0, .ref r1, .ref r2, .int x3, .int x4, .int x5, .null] [] w Q := by
  refine px_aload_n dX2_passDay_81 rfl rfl ?_
  refine px_getI dX2_passDay_82 fr_2_79 rfl (px_sh1 hw hr1.sh) ?_
  refine px_aload_n dX2_passDay_85 rfl rfl ?_
  refine px_getR (v := (r0 + 8)) dX2_passDay_86 fr_2_33 rfl (px_sh1 hw hr0.sh) (px_rf hw hr0.rf10) (Nat.succ_ne_zero _) ?_
  refine px_iload dX2_passDay_89 rfl ?_
  refine px_iald dX2_passDay_91 (px_sh2 hw hr0.sh8) (by decide) j1 hj1 hl1 ?_
  refine px_irem dX2_passDay_92 hz2 ?_
  refine px_istore (ls' := [.ref r0, .ref r1, .ref r2, .int x3, .int x4, .int x5, .int (js_rem (pw_I w r1 3) (pw_I w (r0 + 8) j1))]) dX2_passDay_93 ⟨by decide, rfl⟩ rfl ?_
  refine px_aload_n dX2_passDay_95 rfl rfl ?_
  refine px_aload_n dX2_passDay_96 rfl rfl ?_
  refine px_iload dX2_passDay_97 rfl ?_
  refine px_aload_n dX2_passDay_99 rfl rfl ?_
  refine px_iload dX2_passDay_100 rfl ?_
  refine px_bipush dX2_passDay_102 bp_6 ?_
  refine px_imul dX2_passDay_104 ?_
  refine px_iload dX2_passDay_105 rfl ?_
  refine px_iadd dX2_passDay_107 ?_
  refine px_iald dX2_passDay_108 (px_sh2 hw hs2) hn2 j2 hj2 hl2 ?_
  refine px_forget (ls' := [.ref r0, .ref r1, .ref r2, .int x3, .int x4, .int x5, .null]) ?_ ⟨Or.inr rfl, Or.inr rfl, Or.inr rfl, Or.inr rfl, Or.inr rfl, Or.inr rfl, Or.inl rfl, trivial⟩
  exact px_callV (As := [.ref r1, .int x5, .int (pw_I w r2 j2)]) (st := []) (rc := 0) (rs := 0) (mc := 0) (ms := 0) dX2_passDay_109 lk_2_99 (px_sh1 hw hr0.sh) rfl rfl (Nat.le_of_ble_eq_true rfl) k1
theorem bX2_passDay_112 {E : px_E} {d : Nat} {w : pw_W} {Q : Option Value → pw_W → Prop} {t : ct_T} {x3 x4 x5 : Int32} {r0 : Nat} (hr0 : is_Hamlet r0) {r1 : Nat} (hr1 : is_State r1) {r2 n2 : Nat} (hs2 : (cs t).2.1 r2 = (100, n2)) (hn2 : n2 < 2 ^ 31) 
    (k1 : px_W E mX2_passDay (d + 1) 0 0 62 [.ref r0, .ref r1, .ref r2, .int x3, .int x4, .int (x5 + 1), .null] [] w Q) :
    px_W E mX2_passDay (d + 1) 0 0 112 [.ref r0, .ref r1, .ref r2, .int x3, .int x4, .int x5, .null] [] w Q := by
  refine px_iinc (ls' := [.ref r0, .ref r1, .ref r2, .int x3, .int x4, .int (x5 + 1), .null]) dX2_passDay_112 ⟨by decide, rfl⟩ rfl rfl rfl ?_
  refine px_goto (tgt := 62) dX2_passDay_115 (by decide) ?_
  exact k1
theorem bX2_passDay_127 {E : px_E} {d : Nat} {w : pw_W} {Q : Option Value → pw_W → Prop} {t : ct_T} (hw : w.1 = cs t) {x4 : Int32} {r1 : Nat} (hr1 : is_State r1) 
    (k1 : Q (some (.int x4)) (pw_sI w r1 3 ((pw_I w r1 3) + 1))) :
    px_W E mX2_passDay (d + 1) 0 0 127 [.null, .ref r1, .null, .null, .int x4, .null, .null] [] w Q := by
  refine px_aload_n dX2_passDay_127 rfl rfl ?_
  refine px_dup dX2_passDay_128 rfl ?_
  refine px_getI dX2_passDay_129 fr_2_79 rfl (px_sh1 hw hr1.sh) ?_
  refine px_iconst dX2_passDay_132 ic_1 ?_
  refine px_iadd dX2_passDay_133 ?_
  refine px_putI dX2_passDay_134 fl_2_79 (Or.inl rfl) rfl (px_sh1 hw hr1.sh) rfl rfl (by omega) ?_
  refine px_iload dX2_passDay_137 rfl ?_
  exact px_ireturn dX2_passDay_139 rfl rfl k1
theorem dX8_writeTo_0 : decode mX8_writeTo.2.1 0 = .ok (.iload_n 2, 1) := by decide +kernel
theorem dX8_writeTo_1 : decode mX8_writeTo.2.1 1 = .ok (.bipush 15, 2) := by decide +kernel
theorem dX8_writeTo_3 : decode mX8_writeTo.2.1 3 = .ok (.imul, 1) := by decide +kernel
theorem dX8_writeTo_4 : decode mX8_writeTo.2.1 4 = .ok (.istore_n 3, 1) := by decide +kernel
theorem dX8_writeTo_5 : decode mX8_writeTo.2.1 5 = .ok (.iload_n 3, 1) := by decide +kernel
theorem dX8_writeTo_6 : decode mX8_writeTo.2.1 6 = .ok (.ifCond .lt 12, 3) := by decide +kernel
theorem dX8_writeTo_9 : decode mX8_writeTo.2.1 9 = .ok (.iload_n 3, 1) := by decide +kernel
theorem dX8_writeTo_10 : decode mX8_writeTo.2.1 10 = .ok (.bipush 15, 2) := by decide +kernel
theorem dX8_writeTo_12 : decode mX8_writeTo.2.1 12 = .ok (.iadd, 1) := by decide +kernel
theorem dX8_writeTo_13 : decode mX8_writeTo.2.1 13 = .ok (.aload_n 1, 1) := by decide +kernel
theorem dX8_writeTo_14 : decode mX8_writeTo.2.1 14 = .ok (.arraylength, 1) := by decide +kernel
theorem dX8_writeTo_15 : decode mX8_writeTo.2.1 15 = .ok (.if_icmp .le 4, 3) := by decide +kernel
theorem dX8_writeTo_18 : decode mX8_writeTo.2.1 18 = .ok (.return_, 1) := by decide +kernel
theorem dX8_writeTo_19 : decode mX8_writeTo.2.1 19 = .ok (.aload_n 0, 1) := by decide +kernel
theorem dX8_writeTo_20 : decode mX8_writeTo.2.1 20 = .ok (.getfield 9, 3) := by decide +kernel
theorem dX8_writeTo_23 : decode mX8_writeTo.2.1 23 = .ok (.iconst 0, 1) := by decide +kernel
theorem dX8_writeTo_24 : decode mX8_writeTo.2.1 24 = .ok (.aload_n 1, 1) := by decide +kernel
theorem dX8_writeTo_25 : decode mX8_writeTo.2.1 25 = .ok (.iload_n 3, 1) := by decide +kernel
theorem dX8_writeTo_26 : decode mX8_writeTo.2.1 26 = .ok (.bipush 6, 2) := by decide +kernel
theorem dX8_writeTo_28 : decode mX8_writeTo.2.1 28 = .ok (.invokestatic 21, 3) := by decide +kernel
theorem dX8_writeTo_31 : decode mX8_writeTo.2.1 31 = .ok (.aload_n 0, 1) := by decide +kernel
theorem dX8_writeTo_32 : decode mX8_writeTo.2.1 32 = .ok (.getfield 15, 3) := by decide +kernel
theorem dX8_writeTo_35 : decode mX8_writeTo.2.1 35 = .ok (.iconst 0, 1) := by decide +kernel
theorem dX8_writeTo_36 : decode mX8_writeTo.2.1 36 = .ok (.aload_n 1, 1) := by decide +kernel
theorem dX8_writeTo_37 : decode mX8_writeTo.2.1 37 = .ok (.iload_n 3, 1) := by decide +kernel
theorem dX8_writeTo_38 : decode mX8_writeTo.2.1 38 = .ok (.bipush 6, 2) := by decide +kernel
theorem dX8_writeTo_40 : decode mX8_writeTo.2.1 40 = .ok (.iadd, 1) := by decide +kernel
theorem dX8_writeTo_41 : decode mX8_writeTo.2.1 41 = .ok (.bipush 6, 2) := by decide +kernel
theorem dX8_writeTo_43 : decode mX8_writeTo.2.1 43 = .ok (.invokestatic 21, 3) := by decide +kernel
theorem dX8_writeTo_46 : decode mX8_writeTo.2.1 46 = .ok (.aload_n 1, 1) := by decide +kernel
theorem dX8_writeTo_47 : decode mX8_writeTo.2.1 47 = .ok (.iload_n 3, 1) := by decide +kernel
theorem dX8_writeTo_48 : decode mX8_writeTo.2.1 48 = .ok (.bipush 12, 2) := by decide +kernel
theorem dX8_writeTo_50 : decode mX8_writeTo.2.1 50 = .ok (.iadd, 1) := by decide +kernel
theorem dX8_writeTo_51 : decode mX8_writeTo.2.1 51 = .ok (.aload_n 0, 1) := by decide +kernel
theorem dX8_writeTo_52 : decode mX8_writeTo.2.1 52 = .ok (.getfield 28, 3) := by decide +kernel
theorem dX8_writeTo_55 : decode mX8_writeTo.2.1 55 = .ok (.iastore, 1) := by decide +kernel
theorem dX8_writeTo_56 : decode mX8_writeTo.2.1 56 = .ok (.aload_n 1, 1) := by decide +kernel
theorem dX8_writeTo_57 : decode mX8_writeTo.2.1 57 = .ok (.iload_n 3, 1) := by decide +kernel
theorem dX8_writeTo_58 : decode mX8_writeTo.2.1 58 = .ok (.bipush 12, 2) := by decide +kernel
theorem dX8_writeTo_60 : decode mX8_writeTo.2.1 60 = .ok (.iadd, 1) := by decide +kernel
theorem dX8_writeTo_61 : decode mX8_writeTo.2.1 61 = .ok (.iconst 1, 1) := by decide +kernel
theorem dX8_writeTo_62 : decode mX8_writeTo.2.1 62 = .ok (.iadd, 1) := by decide +kernel
theorem dX8_writeTo_63 : decode mX8_writeTo.2.1 63 = .ok (.aload_n 0, 1) := by decide +kernel
theorem dX8_writeTo_64 : decode mX8_writeTo.2.1 64 = .ok (.getfield 32, 3) := by decide +kernel
theorem dX8_writeTo_67 : decode mX8_writeTo.2.1 67 = .ok (.iastore, 1) := by decide +kernel
theorem dX8_writeTo_68 : decode mX8_writeTo.2.1 68 = .ok (.aload_n 1, 1) := by decide +kernel
theorem dX8_writeTo_69 : decode mX8_writeTo.2.1 69 = .ok (.iload_n 3, 1) := by decide +kernel
theorem dX8_writeTo_70 : decode mX8_writeTo.2.1 70 = .ok (.bipush 12, 2) := by decide +kernel
theorem dX8_writeTo_72 : decode mX8_writeTo.2.1 72 = .ok (.iadd, 1) := by decide +kernel
theorem dX8_writeTo_73 : decode mX8_writeTo.2.1 73 = .ok (.iconst 2, 1) := by decide +kernel
theorem dX8_writeTo_74 : decode mX8_writeTo.2.1 74 = .ok (.iadd, 1) := by decide +kernel
theorem dX8_writeTo_75 : decode mX8_writeTo.2.1 75 = .ok (.aload_n 0, 1) := by decide +kernel
theorem dX8_writeTo_76 : decode mX8_writeTo.2.1 76 = .ok (.getfield 38, 3) := by decide +kernel
theorem dX8_writeTo_79 : decode mX8_writeTo.2.1 79 = .ok (.iastore, 1) := by decide +kernel
theorem dX8_writeTo_80 : decode mX8_writeTo.2.1 80 = .ok (.return_, 1) := by decide +kernel
theorem bX8_writeTo_0 {E : px_E} {d : Nat} {w : pw_W} {Q : Option Value → pw_W → Prop} {t : ct_T} (hw : w.1 = cs t) {x2 : Int32} {r0 : Nat} (hr0 : is_State r0) {r1 n1 : Nat} (hs1 : (cs t).2.1 r1 = (100, n1)) (hn1 : n1 < 2 ^ 31) 
    (k1 : (x2 * 15) < 0 → px_W E mX8_writeTo (d + 1) 0 0 18 [.null, .null, .null, .null] [] w Q)
    (k2 : ¬ (x2 * 15) < 0 → ((x2 * 15) + 15) ≤ (nI n1) → px_W E mX8_writeTo (d + 1) 0 0 19 [.ref r0, .ref r1, .null, .int (x2 * 15)] [] w Q)
    (k3 : ¬ (x2 * 15) < 0 → ¬ ((x2 * 15) + 15) ≤ (nI n1) → px_W E mX8_writeTo (d + 1) 0 0 18 [.null, .null, .null, .null] [] w Q) :
    px_W E mX8_writeTo (d + 1) 0 0 0 [.ref r0, .ref r1, .int x2, .null] [] w Q := by
  refine px_iload_n dX8_writeTo_0 rfl rfl ?_
  refine px_bipush dX8_writeTo_1 bp_15 ?_
  refine px_imul dX8_writeTo_3 ?_
  refine px_istore_n (ls' := [.ref r0, .ref r1, .int x2, .int (x2 * 15)]) dX8_writeTo_4 rfl ⟨by decide, rfl⟩ rfl ?_
  refine px_iload_n dX8_writeTo_5 rfl rfl ?_
  refine px_if_lt (tgt := 18) dX8_writeTo_6 (by decide) (fun h1 => ?_) (fun h1 => ?_)
  ·
    exact px_forget (k1 h1) ⟨Or.inl rfl, Or.inl rfl, Or.inl rfl, Or.inl rfl, trivial⟩
  ·
    refine px_iload_n dX8_writeTo_9 rfl rfl ?_
    refine px_bipush dX8_writeTo_10 bp_15 ?_
    refine px_iadd dX8_writeTo_12 ?_
    refine px_aload_n dX8_writeTo_13 rfl rfl ?_
    refine px_alen dX8_writeTo_14 (px_sh2 hw hs1) (by decide) rfl ?_
    refine px_icmp_le (tgt := 19) dX8_writeTo_15 (by decide) (fun h2 => ?_) (fun h2 => ?_)
    ·
      exact px_forget (k2 h1 h2) ⟨Or.inr rfl, Or.inr rfl, Or.inl rfl, Or.inr rfl, trivial⟩
    ·
      exact px_forget (k3 h1 h2) ⟨Or.inl rfl, Or.inl rfl, Or.inl rfl, Or.inl rfl, trivial⟩
theorem eX8_writeTo {E : px_E} {d : Nat} {w : pw_W} {Q : Option Value → pw_W → Prop} {t : ct_T} (hw : w.1 = cs t) {x2 : Int32} {r0 : Nat} (hr0 : is_State r0) {r1 n1 : Nat} (hs1 : (cs t).2.1 r1 = (100, n1)) (hn1 : n1 < 2 ^ 31) 
    (k1 : (x2 * 15) < 0 → px_W E mX8_writeTo (d + 1) 0 0 18 [.null, .null, .null, .null] [] w Q)
    (k2 : ¬ (x2 * 15) < 0 → ((x2 * 15) + 15) ≤ (nI n1) → px_W E mX8_writeTo (d + 1) 0 0 19 [.ref r0, .ref r1, .null, .int (x2 * 15)] [] w Q)
    (k3 : ¬ (x2 * 15) < 0 → ¬ ((x2 * 15) + 15) ≤ (nI n1) → px_W E mX8_writeTo (d + 1) 0 0 18 [.null, .null, .null, .null] [] w Q) :
    px_Call E (d + 1) 0 0 mX8_writeTo [.ref r0, .ref r1, .int x2] w Q :=
  px_enter (k := 1) (by decide) (Nat.le_of_ble_eq_true rfl) rfl (px_forget (bX8_writeTo_0 hw hr0 hs1 hn1 k1 k2 k3) ⟨Or.inr rfl, Or.inr rfl, Or.inr rfl, Or.inl rfl, trivial⟩)
theorem bX8_writeTo_18 {E : px_E} {d : Nat} {w : pw_W} {Q : Option Value → pw_W → Prop}  
    (k1 : Q none w) :
    px_W E mX8_writeTo (d + 1) 0 0 18 [.null, .null, .null, .null] [] w Q := by
  exact px_return dX8_writeTo_18 rfl k1
theorem bX8_writeTo_19 {E : px_E} {d : Nat} {w : pw_W} {Q : Option Value → pw_W → Prop} {t : ct_T} (hw : w.1 = cs t) {x3 : Int32} {r0 : Nat} (hr0 : is_State r0) {r1 n1 : Nat} (hs1 : (cs t).2.1 r1 = (100, n1)) (hn1 : n1 < 2 ^ 31) (cj1 : Nat) (hcj1 : x3 = nI cj1) (hc2 : cj1 + 6 ≤ n1) (cj3 : Nat) (hcj3 : (x3 + 6) = nI cj3) (hc4 : cj3 + 6 ≤ n1) (j1 : Nat) (hj1 : (x3 + 12) = nI j1) (hl1 : j1 < n1) (j2 : Nat) (hj2 : ((x3 + 12) + 1) = nI j2) (hl2 : j2 < n1) (j3 : Nat) (hj3 : ((x3 + 12) + 2) = nI j3) (hl3 : j3 < n1)
    (k1 : Q none (pw_sI (pw_sI (pw_sI (pw_sA (pw_sA w r1 (va_cpy (pw_I w (r0 + 1)) (pw_I w r1) 0 cj1 6)) r1 (va_cpy (pw_I (pw_sA w r1 (va_cpy (pw_I w (r0 + 1)) (pw_I w r1) 0 cj1 6)) (r0 + 2)) (pw_I (pw_sA w r1 (va_cpy (pw_I w (r0 + 1)) (pw_I w r1) 0 cj1 6)) r1) 0 cj3 6)) r1 j1 (pw_I (pw_sA (pw_sA w r1 (va_cpy (pw_I w (r0 + 1)) (pw_I w r1) 0 cj1 6)) r1 (va_cpy (pw_I (pw_sA w r1 (va_cpy (pw_I w (r0 + 1)) (pw_I w r1) 0 cj1 6)) (r0 + 2)) (pw_I (pw_sA w r1 (va_cpy (pw_I w (r0 + 1)) (pw_I w r1) 0 cj1 6)) r1) 0 cj3 6)) r0 2)) r1 j2 (pw_I (pw_sI (pw_sA (pw_sA w r1 (va_cpy (pw_I w (r0 + 1)) (pw_I w r1) 0 cj1 6)) r1 (va_cpy (pw_I (pw_sA w r1 (va_cpy (pw_I w (r0 + 1)) (pw_I w r1) 0 cj1 6)) (r0 + 2)) (pw_I (pw_sA w r1 (va_cpy (pw_I w (r0 + 1)) (pw_I w r1) 0 cj1 6)) r1) 0 cj3 6)) r1 j1 (pw_I (pw_sA (pw_sA w r1 (va_cpy (pw_I w (r0 + 1)) (pw_I w r1) 0 cj1 6)) r1 (va_cpy (pw_I (pw_sA w r1 (va_cpy (pw_I w (r0 + 1)) (pw_I w r1) 0 cj1 6)) (r0 + 2)) (pw_I (pw_sA w r1 (va_cpy (pw_I w (r0 + 1)) (pw_I w r1) 0 cj1 6)) r1) 0 cj3 6)) r0 2)) r0 3)) r1 j3 (pw_I (pw_sI (pw_sI (pw_sA (pw_sA w r1 (va_cpy (pw_I w (r0 + 1)) (pw_I w r1) 0 cj1 6)) r1 (va_cpy (pw_I (pw_sA w r1 (va_cpy (pw_I w (r0 + 1)) (pw_I w r1) 0 cj1 6)) (r0 + 2)) (pw_I (pw_sA w r1 (va_cpy (pw_I w (r0 + 1)) (pw_I w r1) 0 cj1 6)) r1) 0 cj3 6)) r1 j1 (pw_I (pw_sA (pw_sA w r1 (va_cpy (pw_I w (r0 + 1)) (pw_I w r1) 0 cj1 6)) r1 (va_cpy (pw_I (pw_sA w r1 (va_cpy (pw_I w (r0 + 1)) (pw_I w r1) 0 cj1 6)) (r0 + 2)) (pw_I (pw_sA w r1 (va_cpy (pw_I w (r0 + 1)) (pw_I w r1) 0 cj1 6)) r1) 0 cj3 6)) r0 2)) r1 j2 (pw_I (pw_sI (pw_sA (pw_sA w r1 (va_cpy (pw_I w (r0 + 1)) (pw_I w r1) 0 cj1 6)) r1 (va_cpy (pw_I (pw_sA w r1 (va_cpy (pw_I w (r0 + 1)) (pw_I w r1) 0 cj1 6)) (r0 + 2)) (pw_I (pw_sA w r1 (va_cpy (pw_I w (r0 + 1)) (pw_I w r1) 0 cj1 6)) r1) 0 cj3 6)) r1 j1 (pw_I (pw_sA (pw_sA w r1 (va_cpy (pw_I w (r0 + 1)) (pw_I w r1) 0 cj1 6)) r1 (va_cpy (pw_I (pw_sA w r1 (va_cpy (pw_I w (r0 + 1)) (pw_I w r1) 0 cj1 6)) (r0 + 2)) (pw_I (pw_sA w r1 (va_cpy (pw_I w (r0 + 1)) (pw_I w r1) 0 cj1 6)) r1) 0 cj3 6)) r0 2)) r0 3)) r0 4))) :
    px_W E mX8_writeTo (d + 1) 0 0 19 [.ref r0, .ref r1, .null, .int x3] [] w Q := by
  refine px_aload_n dX8_writeTo_19 rfl rfl ?_
  refine px_getR (v := (r0 + 1)) dX8_writeTo_20 fr_8_9 rfl (px_sh1 hw hr0.sh) (px_rf hw hr0.rf0) (Nat.succ_ne_zero _) ?_
  refine px_iconst dX8_writeTo_23 ic_0 ?_
  refine px_aload_n dX8_writeTo_24 rfl rfl ?_
  refine px_iload_n dX8_writeTo_25 rfl rfl ?_
  refine px_bipush dX8_writeTo_26 bp_6 ?_
  refine px_copy dX8_writeTo_28 (px_in3 194 rfl rfl) (px_sh2 hw hr0.sh1) (px_sh2 hw hs1) (by decide) hn1 0 cj1 6 rfl hcj1 rfl (by decide) hc2 (Nat.le_of_ble_eq_true rfl) (by omega) ?_
  refine px_aload_n dX8_writeTo_31 rfl rfl ?_
  refine px_getR (v := (r0 + 2)) dX8_writeTo_32 fr_8_15 rfl (px_sh1 hw hr0.sh) (px_rf hw hr0.rf1) (Nat.succ_ne_zero _) ?_
  refine px_iconst dX8_writeTo_35 ic_0 ?_
  refine px_aload_n dX8_writeTo_36 rfl rfl ?_
  refine px_iload_n dX8_writeTo_37 rfl rfl ?_
  refine px_bipush dX8_writeTo_38 bp_6 ?_
  refine px_iadd dX8_writeTo_40 ?_
  refine px_bipush dX8_writeTo_41 bp_6 ?_
  refine px_copy dX8_writeTo_43 (px_in3 194 rfl rfl) (px_sh2 hw hr0.sh2) (px_sh2 hw hs1) (by decide) hn1 0 cj3 6 rfl hcj3 rfl (by decide) hc4 (Nat.le_of_ble_eq_true rfl) (by omega) ?_
  refine px_aload_n dX8_writeTo_46 rfl rfl ?_
  refine px_iload_n dX8_writeTo_47 rfl rfl ?_
  refine px_bipush dX8_writeTo_48 bp_12 ?_
  refine px_iadd dX8_writeTo_50 ?_
  refine px_aload_n dX8_writeTo_51 rfl rfl ?_
  refine px_getI dX8_writeTo_52 fr_8_28 rfl (px_sh1 hw hr0.sh) ?_
  refine px_iast dX8_writeTo_55 (px_sh2 hw hs1) hn1 j1 hj1 hl1 (by omega) ?_
  refine px_aload_n dX8_writeTo_56 rfl rfl ?_
  refine px_iload_n dX8_writeTo_57 rfl rfl ?_
  refine px_bipush dX8_writeTo_58 bp_12 ?_
  refine px_iadd dX8_writeTo_60 ?_
  refine px_iconst dX8_writeTo_61 ic_1 ?_
  refine px_iadd dX8_writeTo_62 ?_
  refine px_aload_n dX8_writeTo_63 rfl rfl ?_
  refine px_getI dX8_writeTo_64 fr_8_32 rfl (px_sh1 hw hr0.sh) ?_
  refine px_iast dX8_writeTo_67 (px_sh2 hw hs1) hn1 j2 hj2 hl2 (by omega) ?_
  refine px_aload_n dX8_writeTo_68 rfl rfl ?_
  refine px_iload_n dX8_writeTo_69 rfl rfl ?_
  refine px_bipush dX8_writeTo_70 bp_12 ?_
  refine px_iadd dX8_writeTo_72 ?_
  refine px_iconst dX8_writeTo_73 ic_2 ?_
  refine px_iadd dX8_writeTo_74 ?_
  refine px_aload_n dX8_writeTo_75 rfl rfl ?_
  refine px_getI dX8_writeTo_76 fr_8_38 rfl (px_sh1 hw hr0.sh) ?_
  refine px_iast dX8_writeTo_79 (px_sh2 hw hs1) hn1 j3 hj3 hl3 (by omega) ?_
  exact px_return dX8_writeTo_80 rfl k1
