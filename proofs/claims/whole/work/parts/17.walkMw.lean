set_option maxHeartbeats 4000000 in
set_option maxRecDepth 100000 in
theorem c_X4_act (l : Launch) (D : va_G) (cI cG : ClassId) (q : Nat → Nat) {S : St} (H : Heap) (p1 p2 p3 p4 : Int32) (hD : ∀ S : St, va_D (AM q) (wM cI cG q S)) {r : Int32} {S9 : St} (h : m_X4_act S p1 p2 p3 p4 = some (r, S9)) : RwM l yX4_act cX4_act 5 (some .int) 2 45 [.ref (q 0), .int p1, .int p2, .int p3, .int p4] D cI cG (wM cI cG q) (AM q) S H r S9 := by
  refine RwM.of (own := RX4) (by decide) rfl (Nat.le_of_ble_eq_true rfl) ?_
  intro p e s m args below meth c ls X hP hS hl0
  have hl : lv_has ls 5 [(0, .ref (q 0)), (1, .int p1), (2, .int p2), (3, .int p3), (4, .int p4)] := hl0 _ (lv_entry [.ref (q 0), .int p1, .int p2, .int p3, .int p4] (n := 5) (Nat.le_of_ble_eq_true rfl))
  have hx := X.1
  have hb := X.2.1
  have hA := hD
  rw [m_X4_act] at h
  refine lv_iload_n hx hb dX4_act_0 rfl (lv_at hl 2 rfl) ?_
  obtain ⟨r1, er1, h⟩ := bd_some h
  refine ro_S (As := [.int p2]) (rest := []) X hP hS hl.1 (c_X4_isWho l D cI cG _ _ p2 er1) lk_X4_64 ⟨by decide, by decide⟩ rfl rfl (Nat.le_of_ble_eq_true rfl) dX4_act_1 ⟨Nat.le_refl _, Nat.le_refl _⟩ (fun locs hS => ?_)
  refine lv_if_eq (tgt := 19) hx hb dX4_act_4 (by decide) (fun c2 => ?_) (fun c2 => ?_)
  · have h := tt_some h c2
    refine lv_iconst (v := (-1 : Int32)) hx hb dX4_act_19 (by decide) ?_
    exact rw_ret X hP hS h dX4_act_20
  · have h := ff_some h c2
    refine lv_iload_n hx hb dX4_act_7 rfl (lv_at hl 3 rfl) ?_
    obtain ⟨r3, er3, h⟩ := bd_some h
    refine ro_S (As := [.int p3]) (rest := []) X hP hS hl.1 (c_X4_isWho l D cI cG _ _ p3 er3) lk_X4_64 ⟨by decide, by decide⟩ rfl rfl (Nat.le_of_ble_eq_true rfl) dX4_act_8 ⟨Nat.le_refl _, Nat.le_refl _⟩ (fun locs hS => ?_)
    refine lv_if_eq (tgt := 19) hx hb dX4_act_11 (by decide) (fun c4 => ?_) (fun c4 => ?_)
    · have h := tt_some h c4
      refine lv_iconst (v := (-1 : Int32)) hx hb dX4_act_19 (by decide) ?_
      exact rw_ret X hP hS h dX4_act_20
    · have h := ff_some h c4
      refine lv_iload_n hx hb dX4_act_14 rfl (lv_at hl 2 rfl) ?_
      refine lv_iload_n hx hb dX4_act_15 rfl (lv_at hl 3 rfl) ?_
      refine lv_icmp_ne (tgt := 21) hx hb dX4_act_16 (by decide) (fun c5 => ?_) (fun c5 => ?_)
      · have h := ff_some h c5
        refine lv_iload_n hx hb dX4_act_21 rfl (lv_at hl 1 rfl) ?_
        obtain ⟨r6, er6, h⟩ := bd_some h
        refine ro_S (As := [.int p1]) (rest := []) X hP hS hl.1 (c_X4_isDay l D cI cG _ _ p1 er6) lk_X4_68 ⟨by decide, by decide⟩ rfl rfl (Nat.le_of_ble_eq_true rfl) dX4_act_22 ⟨Nat.le_refl _, Nat.le_refl _⟩ (fun locs hS => ?_)
        refine lv_if_eq (tgt := 41) hx hb dX4_act_25 (by decide) (fun c7 => ?_) (fun c7 => ?_)
        · have h := tt_some h c7
          refine lv_bipush (v := (-2 : Int32)) hx hb dX4_act_41 (by decide) ?_
          exact rw_ret X hP hS h dX4_act_43
        · have h := ff_some h c7
          refine lv_iload hx hb dX4_act_28 (lv_at hl 4 rfl) ?_
          refine lv_i2l (v := Int32.toInt64 p4) hx hb dX4_act_30 rfl ?_
          refine lv_lconst (v := 0) hx hb dX4_act_31 (by decide) ?_
          refine lv_ldc2 (v := (99 : Int64)) hx hb X.2.2.2.2.2.1 (X.2.2.2.2.2.2.1 _ w_kl_X4_53) dX4_act_32 ?_
          obtain ⟨r8, er8, h⟩ := bd_some h
          refine ro_S (As := [.long (Int32.toInt64 p4), .long 0, .long 99]) (rest := []) X hP hS hl.1 (c_X4_in l D cI cG _ _ (Int32.toInt64 p4) 0 99 er8) lk_X4_55 ⟨by decide, by decide⟩ rfl rfl (Nat.le_of_ble_eq_true rfl) dX4_act_35 ⟨Nat.le_refl _, Nat.le_refl _⟩ (fun locs hS => ?_)
          refine lv_if_ne (tgt := 44) hx hb dX4_act_38 (by decide) (fun c9 => ?_) (fun c9 => ?_)
          · have h := ff_some h c9
            refine lv_aload_n hx hb dX4_act_44 rfl (lv_at hl 0 rfl) ?_
            refine gf_X4_61 X hP dX4_act_45 ?_
            refine lv_bipush (v := 12) hx hb dX4_act_48 (by decide) ?_
            refine lv_icmp_ne (tgt := 56) hx hb dX4_act_50 (by decide) (fun c10 => ?_) (fun c10 => ?_)
            · have h := ff_some h c10
              refine lv_aload_n hx hb dX4_act_56 rfl (lv_at hl 0 rfl) ?_
              refine gf_X4_7 X hP dX4_act_57 ?_
              refine lv_aload_n hx hb dX4_act_60 rfl (lv_at hl 0 rfl) ?_
              refine gf_X4_61 X hP dX4_act_61 ?_
              refine lv_iload_n hx hb dX4_act_64 rfl (lv_at hl 1 rfl) ?_
              obtain ⟨hi11, h⟩ := gd_some h
              refine rw_ast X hP (hD _) hS 1 wM_1 sM_1 hi11 dX4_act_65 (fun H locs hP hS => ?_)
              refine lv_aload_n hx hb dX4_act_66 rfl (lv_at hl 0 rfl) ?_
              refine gf_X4_13 X hP dX4_act_67 ?_
              refine lv_aload_n hx hb dX4_act_70 rfl (lv_at hl 0 rfl) ?_
              refine gf_X4_61 X hP dX4_act_71 ?_
              refine W.eq (g2 := F0 m 74 ls [.int (S 0 1), .ref (q 2)]) rfl ?_
              refine lv_iload_n hx hb dX4_act_74 rfl (lv_at hl 2 rfl) ?_
              obtain ⟨hi12, h⟩ := gd_some h
              refine rw_ast X hP (hD _) hS 2 wM_2 sM_2 hi12 dX4_act_75 (fun H locs hP hS => ?_)
              refine lv_aload_n hx hb dX4_act_76 rfl (lv_at hl 0 rfl) ?_
              refine gf_X4_16 X hP dX4_act_77 ?_
              refine lv_aload_n hx hb dX4_act_80 rfl (lv_at hl 0 rfl) ?_
              refine gf_X4_61 X hP dX4_act_81 ?_
              refine W.eq (g2 := F0 m 84 ls [.int (S 0 1), .ref (q 3)]) rfl ?_
              refine lv_iload_n hx hb dX4_act_84 rfl (lv_at hl 3 rfl) ?_
              obtain ⟨hi13, h⟩ := gd_some h
              refine rw_ast X hP (hD _) hS 3 wM_3 sM_3 hi13 dX4_act_85 (fun H locs hP hS => ?_)
              refine lv_aload_n hx hb dX4_act_86 rfl (lv_at hl 0 rfl) ?_
              refine gf_X4_19 X hP dX4_act_87 ?_
              refine lv_aload_n hx hb dX4_act_90 rfl (lv_at hl 0 rfl) ?_
              refine gf_X4_61 X hP dX4_act_91 ?_
              refine W.eq (g2 := F0 m 94 ls [.int (S 0 1), .ref (q 4)]) rfl ?_
              refine lv_iload hx hb dX4_act_94 (lv_at hl 4 rfl) ?_
              obtain ⟨hi14, h⟩ := gd_some h
              refine rw_ast X hP (hD _) hS 4 wM_4 sM_4 hi14 dX4_act_96 (fun H locs hP hS => ?_)
              refine lv_aload_n hx hb dX4_act_97 rfl (lv_at hl 0 rfl) ?_
              refine gf_X4_25 X hP dX4_act_98 ?_
              refine lv_aload_n hx hb dX4_act_101 rfl (lv_at hl 0 rfl) ?_
              refine gf_X4_61 X hP dX4_act_102 ?_
              refine W.eq (g2 := F0 m 105 ls [.int (S 0 1), .ref (q 6)]) rfl ?_
              refine lv_bipush (v := 99) hx hb dX4_act_105 (by decide) ?_
              obtain ⟨hi15, h⟩ := gd_some h
              refine rw_ast X hP (hD _) hS 6 wM_6 sM_6 hi15 dX4_act_107 (fun H locs hP hS => ?_)
              refine lv_aload_n hx hb dX4_act_108 rfl (lv_at hl 0 rfl) ?_
              refine gf_X4_28 X hP dX4_act_109 ?_
              refine lv_aload_n hx hb dX4_act_112 rfl (lv_at hl 0 rfl) ?_
              refine gf_X4_61 X hP dX4_act_113 ?_
              refine W.eq (g2 := F0 m 116 ls [.int (S 0 1), .ref (q 7)]) rfl ?_
              refine lv_bipush (v := (-6 : Int32)) hx hb dX4_act_116 (by decide) ?_
              obtain ⟨hi16, h⟩ := gd_some h
              refine rw_ast X hP (hD _) hS 7 wM_7 sM_7 hi16 dX4_act_118 (fun H locs hP hS => ?_)
              refine lv_aload_n hx hb dX4_act_119 rfl (lv_at hl 0 rfl) ?_
              refine lv_dup hx hb dX4_act_120 rfl ?_
              refine gf_X4_61 X hP dX4_act_121 ?_
              refine W.eq (g2 := F0 m 124 ls [.int (S 0 1), .ref (q 0)]) rfl ?_
              refine lv_iconst (v := 1) hx hb dX4_act_124 (by decide) ?_
              refine lv_iadd hx hb dX4_act_125 ?_
              refine pf_X4_61 X hP (hD _) hS dX4_act_126 (fun H locs hP hS => ?_)
              refine lv_aload_n hx hb dX4_act_129 rfl (lv_at hl 0 rfl) ?_
              refine gf_X4_61 X hP dX4_act_130 ?_
              refine W.eq (g2 := F0 m 133 ls [.int (((S 0 1) + 1))]) rfl ?_
              refine lv_iconst (v := 1) hx hb dX4_act_133 (by decide) ?_
              refine lv_isub hx hb dX4_act_134 ?_
              exact rw_ret X hP hS h dX4_act_135
            · have h := tt_some h c10
              refine lv_bipush (v := (-4 : Int32)) hx hb dX4_act_53 (by decide) ?_
              exact rw_ret X hP hS h dX4_act_55
          · have h := tt_some h c9
            refine lv_bipush (v := (-2 : Int32)) hx hb dX4_act_41 (by decide) ?_
            exact rw_ret X hP hS h dX4_act_43
      · have h := tt_some h c5
        refine lv_iconst (v := (-1 : Int32)) hx hb dX4_act_19 (by decide) ?_
        exact rw_ret X hP hS h dX4_act_20
set_option maxHeartbeats 4000000 in
set_option maxRecDepth 100000 in
theorem wk_X4_set_116 {p : Program} {l : Launch} {e : Env} {s : State} {m : MethodId} {args : Array Value} {below : List Frame} {meth : Method} {c : Code} {D : va_G} {cI cG : ClassId} {q : Nat → Nat} {r : Int32} {S9 : St} {p1 p2 p3 : Int32}  (X : Cx p s m args meth c cX4_set 5 (some .int) RX4 D cI cG) (hD : ∀ S : St, va_D (AM q) (wM cI cG q S))  : ∀ (S : St) (t0 : Int32) (ls : Array Slot) (locs : List Loc) (H : Heap), lv_has ls 5 [(0, .ref (q 0)), (1, .int p1), (2, .int p2), (3, .int p3)] → va_P D vwCl (wM cI cG q S) H → va_S (AM q) s.heap H locs → m_X4_set_116 p1 p2 p3 S t0 = some (r, S9) → W p l e { frames := 2, cells := 0, slots := 0, locals := 46 } s m args below meth c H locs 0 0 (MQ below (rwQ (wM cI cG q) D (AM q) r S9) args s 0 0 (AM q)) (F0 m 116 ls [.int t0]) := by
  have hx := X.1
  have hb := X.2.1
  have hA := hD
  intro S t0 ls locs H hl hP hS h
  rw [m_X4_set_116] at h
  refine lv_istore (lv' := [(4, .int t0), (0, .ref (q 0)), (1, .int p1), (2, .int p2), (3, .int p3)]) hx hb dX4_set_116 hl (by decide) rfl (fun ls hl => ?_)
  refine lv_iload_n hx hb dX4_set_118 rfl (lv_at hl 3 rfl) ?_
  refine lv_if_ne (tgt := 132) hx hb dX4_set_119 (by decide) (fun c16 => ?_) (fun c16 => ?_)
  · have h := ff_some h c16
    refine lv_iload_n hx hb dX4_set_132 rfl (lv_at hl 3 rfl) ?_
    refine lv_iconst (v := 1) hx hb dX4_set_133 (by decide) ?_
    refine lv_icmp_ne (tgt := 147) hx hb dX4_set_134 (by decide) (fun c17 => ?_) (fun c17 => ?_)
    · have h := ff_some h c17
      refine lv_iload_n hx hb dX4_set_147 rfl (lv_at hl 3 rfl) ?_
      refine lv_iconst (v := 2) hx hb dX4_set_148 (by decide) ?_
      refine lv_icmp_ne (tgt := 171) hx hb dX4_set_149 (by decide) (fun c18 => ?_) (fun c18 => ?_)
      · have h := ff_some h c18
        refine lv_aload_n hx hb dX4_set_171 rfl (lv_at hl 1 rfl) ?_
        refine lv_iload_n hx hb dX4_set_172 rfl (lv_at hl 4 rfl) ?_
        refine lv_iconst (v := 1) hx hb dX4_set_173 (by decide) ?_
        refine lv_icmp_ne (tgt := 188) hx hb dX4_set_174 (by decide) (fun c19 => ?_) (fun c19 => ?_)
        · have h := ff_some h c19
          refine lv_aload_n hx hb dX4_set_188 rfl (lv_at hl 1 rfl) ?_
          refine gf_X4_78 X hP dX4_set_189 ?_
          refine lv_iconst (v := 1) hx hb dX4_set_192 (by decide) ?_
          refine lv_iload_n hx hb dX4_set_193 rfl (lv_at hl 2 rfl) ?_
          refine lv_ishl hx hb dX4_set_194 ?_
          refine lv_iconst (v := (-1 : Int32)) hx hb dX4_set_195 (by decide) ?_
          refine lv_ixor hx hb dX4_set_196 ?_
          refine lv_iand hx hb dX4_set_197 ?_
          refine pf_X4_78 X hP (hD _) hS dX4_set_198 (fun H locs hP hS => ?_)
          refine lv_iload hx hb dX4_set_201 (lv_at hl 0 rfl) ?_
          exact rw_ret X hP hS h dX4_set_203
        · have h := tt_some h c19
          refine lv_aload_n hx hb dX4_set_177 rfl (lv_at hl 1 rfl) ?_
          refine gf_X4_78 X hP dX4_set_178 ?_
          refine lv_iconst (v := 1) hx hb dX4_set_181 (by decide) ?_
          refine lv_iload_n hx hb dX4_set_182 rfl (lv_at hl 2 rfl) ?_
          refine lv_ishl hx hb dX4_set_183 ?_
          refine lv_ior hx hb dX4_set_184 ?_
          refine lv_goto (tgt := 198) hx hb dX4_set_185 (by decide) ?_
          refine pf_X4_78 X hP (hD _) hS dX4_set_198 (fun H locs hP hS => ?_)
          refine lv_iload hx hb dX4_set_201 (lv_at hl 0 rfl) ?_
          exact rw_ret X hP hS h dX4_set_203
      · have h := tt_some h c18
        refine lv_aload_n hx hb dX4_set_152 rfl (lv_at hl 1 rfl) ?_
        refine gf_X4_28 X hP dX4_set_153 ?_
        refine lv_iload_n hx hb dX4_set_156 rfl (lv_at hl 2 rfl) ?_
        refine lv_iload_n hx hb dX4_set_157 rfl (lv_at hl 4 rfl) ?_
        refine lv_if_ge (tgt := 166) hx hb dX4_set_158 (by decide) (fun c20 => ?_) (fun c20 => ?_)
        · have h := tt_some h c20
          refine lv_iload_n hx hb dX4_set_166 rfl (lv_at hl 4 rfl) ?_
          obtain ⟨hi21, h⟩ := gd_some h
          refine rw_ast X hP (hD _) hS 7 wM_7 sM_7 hi21 dX4_set_167 (fun H locs hP hS => ?_)
          refine lv_goto (tgt := 201) hx hb dX4_set_168 (by decide) ?_
          refine lv_iload hx hb dX4_set_201 (lv_at hl 0 rfl) ?_
          exact rw_ret X hP hS h dX4_set_203
        · have h := ff_some h c20
          refine lv_bipush (v := (-6 : Int32)) hx hb dX4_set_161 (by decide) ?_
          refine lv_goto (tgt := 167) hx hb dX4_set_163 (by decide) ?_
          obtain ⟨hi22, h⟩ := gd_some h
          refine rw_ast X hP (hD _) hS 7 wM_7 sM_7 hi22 dX4_set_167 (fun H locs hP hS => ?_)
          refine lv_goto (tgt := 201) hx hb dX4_set_168 (by decide) ?_
          refine lv_iload hx hb dX4_set_201 (lv_at hl 0 rfl) ?_
          exact rw_ret X hP hS h dX4_set_203
    · have h := tt_some h c17
      refine lv_aload_n hx hb dX4_set_137 rfl (lv_at hl 1 rfl) ?_
      refine gf_X4_25 X hP dX4_set_138 ?_
      refine lv_iload_n hx hb dX4_set_141 rfl (lv_at hl 2 rfl) ?_
      refine lv_iload_n hx hb dX4_set_142 rfl (lv_at hl 4 rfl) ?_
      obtain ⟨hi23, h⟩ := gd_some h
      refine rw_ast X hP (hD _) hS 6 wM_6 sM_6 hi23 dX4_set_143 (fun H locs hP hS => ?_)
      refine lv_goto (tgt := 201) hx hb dX4_set_144 (by decide) ?_
      refine lv_iload hx hb dX4_set_201 (lv_at hl 0 rfl) ?_
      exact rw_ret X hP hS h dX4_set_203
  · have h := tt_some h c16
    refine lv_aload_n hx hb dX4_set_122 rfl (lv_at hl 1 rfl) ?_
    refine gf_X4_22 X hP dX4_set_123 ?_
    refine lv_iload_n hx hb dX4_set_126 rfl (lv_at hl 2 rfl) ?_
    refine lv_iload_n hx hb dX4_set_127 rfl (lv_at hl 4 rfl) ?_
    obtain ⟨hi24, h⟩ := gd_some h
    refine rw_ast X hP (hD _) hS 5 wM_5 sM_5 hi24 dX4_set_128 (fun H locs hP hS => ?_)
    refine lv_goto (tgt := 201) hx hb dX4_set_129 (by decide) ?_
    refine lv_iload hx hb dX4_set_201 (lv_at hl 0 rfl) ?_
    exact rw_ret X hP hS h dX4_set_203
set_option maxHeartbeats 4000000 in
set_option maxRecDepth 100000 in
theorem wk_X4_set_58 {p : Program} {l : Launch} {e : Env} {s : State} {m : MethodId} {args : Array Value} {below : List Frame} {meth : Method} {c : Code} {D : va_G} {cI cG : ClassId} {q : Nat → Nat} {r : Int32} {S9 : St} {p1 p2 p3 : Int32}  (X : Cx p s m args meth c cX4_set 5 (some .int) RX4 D cI cG) (hD : ∀ S : St, va_D (AM q) (wM cI cG q S))  : ∀ (S : St) (t0 : Int64) (t1 : Int64) (t2 : Int64) (ls : Array Slot) (locs : List Loc) (H : Heap), lv_has ls 5 [(0, .ref (q 0)), (1, .int p1), (2, .int p2), (3, .int p3)] → va_P D vwCl (wM cI cG q S) H → va_S (AM q) s.heap H locs → m_X4_set_58 p1 p2 p3 S t0 t1 t2 = some (r, S9) → W p l e { frames := 2, cells := 0, slots := 0, locals := 46 } s m args below meth c H locs 0 0 (MQ below (rwQ (wM cI cG q) D (AM q) r S9) args s 0 0 (AM q)) (F0 m 58 ls [.long t0, .long t1, .long t2]) := by
  have hx := X.1
  have hb := X.2.1
  have hA := hD
  intro S t0 t1 t2 ls locs H hl hP hS h
  rw [m_X4_set_58] at h
  obtain ⟨r8, er8, h⟩ := bd_some h
  refine ro_S (As := [.long t2, .long t1, .long t0]) (rest := []) X hP hS hl.1 (c_X4_in l D cI cG _ _ t2 t1 t0 er8) lk_X4_55 ⟨by decide, by decide⟩ rfl rfl (Nat.le_of_ble_eq_true rfl) dX4_set_58 ⟨Nat.le_refl _, Nat.le_refl _⟩ (fun locs hS => ?_)
  refine lv_if_ne (tgt := 67) hx hb dX4_set_61 (by decide) (fun c9 => ?_) (fun c9 => ?_)
  · have h := ff_some h c9
    refine lv_iload_n hx hb dX4_set_67 rfl (lv_at hl 2 rfl) ?_
    refine lv_if_ne (tgt := 80) hx hb dX4_set_68 (by decide) (fun c10 => ?_) (fun c10 => ?_)
    · have h := ff_some h c10
      refine lv_iload_n hx hb dX4_set_80 rfl (lv_at hl 2 rfl) ?_
      refine lv_iconst (v := 1) hx hb dX4_set_81 (by decide) ?_
      refine lv_icmp_ne (tgt := 94) hx hb dX4_set_82 (by decide) (fun c11 => ?_) (fun c11 => ?_)
      · have h := ff_some h c11
        refine lv_iload_n hx hb dX4_set_94 rfl (lv_at hl 2 rfl) ?_
        refine lv_iconst (v := 2) hx hb dX4_set_95 (by decide) ?_
        refine lv_icmp_ne (tgt := 108) hx hb dX4_set_96 (by decide) (fun c12 => ?_) (fun c12 => ?_)
        · have h := ff_some h c12
          refine lv_aload_n hx hb dX4_set_108 rfl (lv_at hl 0 rfl) ?_
          refine gf_X4_78 X hP dX4_set_109 ?_
          refine lv_iload_n hx hb dX4_set_112 rfl (lv_at hl 1 rfl) ?_
          refine lv_ishr hx hb dX4_set_113 ?_
          refine lv_iconst (v := 1) hx hb dX4_set_114 (by decide) ?_
          refine lv_iand hx hb dX4_set_115 ?_
          exact wk_X4_set_116 X hD S (((S 0 0) >>> (p1 &&& 31)) &&& 1) ls _ _ (lv_sub hl [0, 1, 2, 3] rfl) hP hS h
        · have h := tt_some h c12
          refine lv_aload_n hx hb dX4_set_99 rfl (lv_at hl 0 rfl) ?_
          refine gf_X4_28 X hP dX4_set_100 ?_
          refine lv_iload_n hx hb dX4_set_103 rfl (lv_at hl 1 rfl) ?_
          obtain ⟨hi13, h⟩ := gd_some h
          refine ro_ald X hP 7 wM_7 hi13 dX4_set_104 ?_
          refine lv_goto (tgt := 116) hx hb dX4_set_105 (by decide) ?_
          exact wk_X4_set_116 X hD S (S 7 (ix p1)) ls _ _ (lv_sub hl [0, 1, 2, 3] rfl) hP hS h
      · have h := tt_some h c11
        refine lv_aload_n hx hb dX4_set_85 rfl (lv_at hl 0 rfl) ?_
        refine gf_X4_25 X hP dX4_set_86 ?_
        refine lv_iload_n hx hb dX4_set_89 rfl (lv_at hl 1 rfl) ?_
        obtain ⟨hi14, h⟩ := gd_some h
        refine ro_ald X hP 6 wM_6 hi14 dX4_set_90 ?_
        refine lv_goto (tgt := 116) hx hb dX4_set_91 (by decide) ?_
        exact wk_X4_set_116 X hD S (S 6 (ix p1)) ls _ _ (lv_sub hl [0, 1, 2, 3] rfl) hP hS h
    · have h := tt_some h c10
      refine lv_aload_n hx hb dX4_set_71 rfl (lv_at hl 0 rfl) ?_
      refine gf_X4_22 X hP dX4_set_72 ?_
      refine lv_iload_n hx hb dX4_set_75 rfl (lv_at hl 1 rfl) ?_
      obtain ⟨hi15, h⟩ := gd_some h
      refine ro_ald X hP 5 wM_5 hi15 dX4_set_76 ?_
      refine lv_goto (tgt := 116) hx hb dX4_set_77 (by decide) ?_
      exact wk_X4_set_116 X hD S (S 5 (ix p1)) ls _ _ (lv_sub hl [0, 1, 2, 3] rfl) hP hS h
  · have h := tt_some h c9
    refine lv_bipush (v := (-2 : Int32)) hx hb dX4_set_64 (by decide) ?_
    exact rw_ret X hP hS h dX4_set_66
set_option maxHeartbeats 4000000 in
set_option maxRecDepth 100000 in
theorem wk_X4_set_36 {p : Program} {l : Launch} {e : Env} {s : State} {m : MethodId} {args : Array Value} {below : List Frame} {meth : Method} {c : Code} {D : va_G} {cI cG : ClassId} {q : Nat → Nat} {r : Int32} {S9 : St} {p1 p2 p3 : Int32}  (X : Cx p s m args meth c cX4_set 5 (some .int) RX4 D cI cG) (hD : ∀ S : St, va_D (AM q) (wM cI cG q S))  : ∀ (S : St) (t0 : Int64) (t1 : Int64) (ls : Array Slot) (locs : List Loc) (H : Heap), lv_has ls 5 [(0, .ref (q 0)), (1, .int p1), (2, .int p2), (3, .int p3)] → va_P D vwCl (wM cI cG q S) H → va_S (AM q) s.heap H locs → m_X4_set_36 p1 p2 p3 S t0 t1 = some (r, S9) → W p l e { frames := 2, cells := 0, slots := 0, locals := 46 } s m args below meth c H locs 0 0 (MQ below (rwQ (wM cI cG q) D (AM q) r S9) args s 0 0 (AM q)) (F0 m 36 ls [.long t0, .long t1]) := by
  have hx := X.1
  have hb := X.2.1
  have hA := hD
  intro S t0 t1 ls locs H hl hP hS h
  rw [m_X4_set_36] at h
  refine lv_iload_n hx hb dX4_set_36 rfl (lv_at hl 2 rfl) ?_
  refine lv_if_ne (tgt := 46) hx hb dX4_set_37 (by decide) (fun c6 => ?_) (fun c6 => ?_)
  · have h := ff_some h c6
    refine lv_iload_n hx hb dX4_set_46 rfl (lv_at hl 2 rfl) ?_
    refine lv_iconst (v := 3) hx hb dX4_set_47 (by decide) ?_
    refine lv_icmp_ne (tgt := 55) hx hb dX4_set_48 (by decide) (fun c7 => ?_) (fun c7 => ?_)
    · have h := ff_some h c7
      refine lv_ldc2 (v := (99 : Int64)) hx hb X.2.2.2.2.2.1 (X.2.2.2.2.2.2.1 _ w_kl_X4_53) dX4_set_55 ?_
      exact wk_X4_set_58 X hD S 99 t0 t1 ls _ _ (lv_sub hl [0, 1, 2, 3] rfl) hP hS h
    · have h := tt_some h c7
      refine lv_lconst (v := 1) hx hb dX4_set_51 (by decide) ?_
      refine lv_goto (tgt := 58) hx hb dX4_set_52 (by decide) ?_
      exact wk_X4_set_58 X hD S 1 t0 t1 ls _ _ (lv_sub hl [0, 1, 2, 3] rfl) hP hS h
  · have h := tt_some h c6
    refine lv_ldc2 (v := (4 : Int64)) hx hb X.2.2.2.2.2.1 (X.2.2.2.2.2.2.1 _ w_kl_X4_76) dX4_set_40 ?_
    refine lv_goto (tgt := 58) hx hb dX4_set_43 (by decide) ?_
    exact wk_X4_set_58 X hD S 4 t0 t1 ls _ _ (lv_sub hl [0, 1, 2, 3] rfl) hP hS h
set_option maxHeartbeats 4000000 in
set_option maxRecDepth 100000 in
theorem c_X4_set (l : Launch) (D : va_G) (cI cG : ClassId) (q : Nat → Nat) {S : St} (H : Heap) (p1 p2 p3 : Int32) (hD : ∀ S : St, va_D (AM q) (wM cI cG q S)) {r : Int32} {S9 : St} (h : m_X4_set S p1 p2 p3 = some (r, S9)) : RwM l yX4_set cX4_set 5 (some .int) 2 46 [.ref (q 0), .int p1, .int p2, .int p3] D cI cG (wM cI cG q) (AM q) S H r S9 := by
  refine RwM.of (own := RX4) (by decide) rfl (Nat.le_of_ble_eq_true rfl) ?_
  intro p e s m args below meth c ls X hP hS hl0
  have hl : lv_has ls 5 [(0, .ref (q 0)), (1, .int p1), (2, .int p2), (3, .int p3)] := hl0 _ (lv_entry [.ref (q 0), .int p1, .int p2, .int p3] (n := 5) (Nat.le_of_ble_eq_true rfl))
  have hx := X.1
  have hb := X.2.1
  have hA := hD
  rw [m_X4_set] at h
  refine lv_aload_n hx hb dX4_set_0 rfl (lv_at hl 0 rfl) ?_
  refine lv_iload_n hx hb dX4_set_1 rfl (lv_at hl 1 rfl) ?_
  obtain ⟨r1, er1, h⟩ := bd_some h
  refine ro_V (As := [.int p1]) (rest := []) X hP hS hl.1 (c_X4_isAct l D cI cG q S _ p1 er1) lk_X4_71 (rc_X4_X4 X hP) ⟨by decide, by decide⟩ rfl rfl (Nat.le_of_ble_eq_true rfl) dX4_set_2 ⟨Nat.le_refl _, Nat.le_refl _⟩ (fun locs hS => ?_)
  refine lv_if_ne (tgt := 10) hx hb dX4_set_5 (by decide) (fun c2 => ?_) (fun c2 => ?_)
  · have h := ff_some h c2
    refine lv_iload_n hx hb dX4_set_10 rfl (lv_at hl 2 rfl) ?_
    refine lv_i2l (v := Int32.toInt64 p2) hx hb dX4_set_11 rfl ?_
    refine lv_lconst (v := 0) hx hb dX4_set_12 (by decide) ?_
    refine lv_ldc2 (v := (3 : Int64)) hx hb X.2.2.2.2.2.1 (X.2.2.2.2.2.2.1 _ w_kl_X4_59) dX4_set_13 ?_
    obtain ⟨r3, er3, h⟩ := bd_some h
    refine ro_S (As := [.long (Int32.toInt64 p2), .long 0, .long 3]) (rest := []) X hP hS hl.1 (c_X4_in l D cI cG _ _ (Int32.toInt64 p2) 0 3 er3) lk_X4_55 ⟨by decide, by decide⟩ rfl rfl (Nat.le_of_ble_eq_true rfl) dX4_set_16 ⟨Nat.le_refl _, Nat.le_refl _⟩ (fun locs hS => ?_)
    refine lv_if_eq (tgt := 64) hx hb dX4_set_19 (by decide) (fun c4 => ?_) (fun c4 => ?_)
    · have h := tt_some h c4
      refine lv_bipush (v := (-2 : Int32)) hx hb dX4_set_64 (by decide) ?_
      exact rw_ret X hP hS h dX4_set_66
    · have h := ff_some h c4
      refine lv_iload_n hx hb dX4_set_22 rfl (lv_at hl 3 rfl) ?_
      refine lv_i2l (v := Int32.toInt64 p3) hx hb dX4_set_23 rfl ?_
      refine lv_iload_n hx hb dX4_set_24 rfl (lv_at hl 2 rfl) ?_
      refine lv_iconst (v := 2) hx hb dX4_set_25 (by decide) ?_
      refine lv_icmp_ne (tgt := 35) hx hb dX4_set_26 (by decide) (fun c5 => ?_) (fun c5 => ?_)
      · have h := ff_some h c5
        refine lv_lconst (v := 0) hx hb dX4_set_35 (by decide) ?_
        exact wk_X4_set_36 X hD S 0 (Int32.toInt64 p3) ls _ _ (lv_sub hl [0, 1, 2, 3] rfl) hP hS h
      · have h := tt_some h c5
        refine lv_ldc2 (v := (-1 : Int64)) hx hb X.2.2.2.2.2.1 (X.2.2.2.2.2.2.1 _ w_kl_X4_74) dX4_set_29 ?_
        refine lv_goto (tgt := 36) hx hb dX4_set_32 (by decide) ?_
        exact wk_X4_set_36 X hD S (-1) (Int32.toInt64 p3) ls _ _ (lv_sub hl [0, 1, 2, 3] rfl) hP hS h
  · have h := tt_some h c2
    refine lv_iconst (v := (-1 : Int32)) hx hb dX4_set_8 (by decide) ?_
    exact rw_ret X hP hS h dX4_set_9
set_option maxHeartbeats 4000000 in
set_option maxRecDepth 100000 in
theorem wk_X4_law_48 {p : Program} {l : Launch} {e : Env} {s : State} {m : MethodId} {args : Array Value} {below : List Frame} {meth : Method} {c : Code} {D : va_G} {cI cG : ClassId} {q : Nat → Nat} {r : Int32} {S9 : St} {p1 p2 : Int32}  (X : Cx p s m args meth c cX4_law 4 (some .int) RX4 D cI cG) (hD : ∀ S : St, va_D (AM q) (wM cI cG q S))  : ∀ (S : St) (t0 : Int32) (ls : Array Slot) (locs : List Loc) (H : Heap), lv_has ls 4 [(0, .ref (q 0)), (1, .int p1), (2, .int p2)] → va_P D vwCl (wM cI cG q S) H → va_S (AM q) s.heap H locs → m_X4_law_48 p1 p2 S t0 = some (r, S9) → W p l e { frames := 1, cells := 0, slots := 0, locals := 25 } s m args below meth c H locs 0 0 (MQ below (rwQ (wM cI cG q) D (AM q) r S9) args s 0 0 (AM q)) (F0 m 48 ls [.int t0]) := by
  have hx := X.1
  have hb := X.2.1
  have hA := hD
  intro S t0 ls locs H hl hP hS h
  rw [m_X4_law_48] at h
  refine lv_istore_n (lv' := [(3, .int t0), (0, .ref (q 0)), (1, .int p1), (2, .int p2)]) hx hb dX4_law_48 rfl hl (by decide) rfl (fun ls hl => ?_)
  refine lv_iload_n hx hb dX4_law_49 rfl (lv_at hl 2 rfl) ?_
  refine lv_if_ne (tgt := 61) hx hb dX4_law_50 (by decide) (fun c7 => ?_) (fun c7 => ?_)
  · have h := ff_some h c7
    refine lv_aload_n hx hb dX4_law_61 rfl (lv_at hl 1 rfl) ?_
    refine lv_iload_n hx hb dX4_law_62 rfl (lv_at hl 3 rfl) ?_
    refine pf_X4_49 X hP (hD _) hS dX4_law_63 (fun H locs hP hS => ?_)
    refine lv_iload_n hx hb dX4_law_66 rfl (lv_at hl 0 rfl) ?_
    exact rw_ret X hP hS h dX4_law_67
  · have h := tt_some h c7
    refine lv_aload_n hx hb dX4_law_53 rfl (lv_at hl 1 rfl) ?_
    refine lv_iload_n hx hb dX4_law_54 rfl (lv_at hl 3 rfl) ?_
    refine pf_X4_83 X hP (hD _) hS dX4_law_55 (fun H locs hP hS => ?_)
    refine lv_goto (tgt := 66) hx hb dX4_law_58 (by decide) ?_
    refine lv_iload_n hx hb dX4_law_66 rfl (lv_at hl 0 rfl) ?_
    exact rw_ret X hP hS h dX4_law_67
set_option maxHeartbeats 4000000 in
set_option maxRecDepth 100000 in
theorem wk_X4_law_24 {p : Program} {l : Launch} {e : Env} {s : State} {m : MethodId} {args : Array Value} {below : List Frame} {meth : Method} {c : Code} {D : va_G} {cI cG : ClassId} {q : Nat → Nat} {r : Int32} {S9 : St} {p1 p2 : Int32}  (X : Cx p s m args meth c cX4_law 4 (some .int) RX4 D cI cG) (hD : ∀ S : St, va_D (AM q) (wM cI cG q S))  : ∀ (S : St) (t0 : Int64) (t1 : Int64) (t2 : Int64) (ls : Array Slot) (locs : List Loc) (H : Heap), lv_has ls 4 [(0, .ref (q 0)), (1, .int p1), (2, .int p2)] → va_P D vwCl (wM cI cG q S) H → va_S (AM q) s.heap H locs → m_X4_law_24 p1 p2 S t0 t1 t2 = some (r, S9) → W p l e { frames := 1, cells := 0, slots := 0, locals := 25 } s m args below meth c H locs 0 0 (MQ below (rwQ (wM cI cG q) D (AM q) r S9) args s 0 0 (AM q)) (F0 m 24 ls [.long t0, .long t1, .long t2]) := by
  have hx := X.1
  have hb := X.2.1
  have hA := hD
  intro S t0 t1 t2 ls locs H hl hP hS h
  rw [m_X4_law_24] at h
  obtain ⟨r4, er4, h⟩ := bd_some h
  refine ro_S (As := [.long t2, .long t1, .long t0]) (rest := []) X hP hS hl.1 (c_X4_in l D cI cG _ _ t2 t1 t0 er4) lk_X4_55 ⟨by decide, by decide⟩ rfl rfl (Nat.le_of_ble_eq_true rfl) dX4_law_24 ⟨Nat.le_refl _, Nat.le_refl _⟩ (fun locs hS => ?_)
  refine lv_if_ne (tgt := 33) hx hb dX4_law_27 (by decide) (fun c5 => ?_) (fun c5 => ?_)
  · have h := ff_some h c5
    refine lv_iload_n hx hb dX4_law_33 rfl (lv_at hl 1 rfl) ?_
    refine lv_if_ne (tgt := 44) hx hb dX4_law_34 (by decide) (fun c6 => ?_) (fun c6 => ?_)
    · have h := ff_some h c6
      refine lv_aload_n hx hb dX4_law_44 rfl (lv_at hl 0 rfl) ?_
      refine gf_X4_49 X hP dX4_law_45 ?_
      exact wk_X4_law_48 X hD S (S 0 3) ls _ _ (lv_sub hl [0, 1, 2] rfl) hP hS h
    · have h := tt_some h c6
      refine lv_aload_n hx hb dX4_law_37 rfl (lv_at hl 0 rfl) ?_
      refine gf_X4_83 X hP dX4_law_38 ?_
      refine lv_goto (tgt := 48) hx hb dX4_law_41 (by decide) ?_
      exact wk_X4_law_48 X hD S (S 0 2) ls _ _ (lv_sub hl [0, 1, 2] rfl) hP hS h
  · have h := tt_some h c5
    refine lv_bipush (v := (-2 : Int32)) hx hb dX4_law_30 (by decide) ?_
    exact rw_ret X hP hS h dX4_law_32
set_option maxHeartbeats 4000000 in
set_option maxRecDepth 100000 in
theorem c_X4_law (l : Launch) (D : va_G) (cI cG : ClassId) (q : Nat → Nat) {S : St} (H : Heap) (p1 p2 : Int32) (hD : ∀ S : St, va_D (AM q) (wM cI cG q S)) {r : Int32} {S9 : St} (h : m_X4_law S p1 p2 = some (r, S9)) : RwM l yX4_law cX4_law 4 (some .int) 1 25 [.ref (q 0), .int p1, .int p2] D cI cG (wM cI cG q) (AM q) S H r S9 := by
  refine RwM.of (own := RX4) (by decide) rfl (Nat.le_of_ble_eq_true rfl) ?_
  intro p e s m args below meth c ls X hP hS hl0
  have hl : lv_has ls 4 [(0, .ref (q 0)), (1, .int p1), (2, .int p2)] := hl0 _ (lv_entry [.ref (q 0), .int p1, .int p2] (n := 4) (Nat.le_of_ble_eq_true rfl))
  have hx := X.1
  have hb := X.2.1
  have hA := hD
  rw [m_X4_law] at h
  refine lv_iload_n hx hb dX4_law_0 rfl (lv_at hl 1 rfl) ?_
  refine lv_i2l (v := Int32.toInt64 p1) hx hb dX4_law_1 rfl ?_
  refine lv_lconst (v := 0) hx hb dX4_law_2 (by decide) ?_
  refine lv_lconst (v := 1) hx hb dX4_law_3 (by decide) ?_
  obtain ⟨r1, er1, h⟩ := bd_some h
  refine ro_S (As := [.long (Int32.toInt64 p1), .long 0, .long 1]) (rest := []) X hP hS hl.1 (c_X4_in l D cI cG _ _ (Int32.toInt64 p1) 0 1 er1) lk_X4_55 ⟨by decide, by decide⟩ rfl rfl (Nat.le_of_ble_eq_true rfl) dX4_law_4 ⟨Nat.le_refl _, Nat.le_refl _⟩ (fun locs hS => ?_)
  refine lv_if_eq (tgt := 30) hx hb dX4_law_7 (by decide) (fun c2 => ?_) (fun c2 => ?_)
  · have h := tt_some h c2
    refine lv_bipush (v := (-2 : Int32)) hx hb dX4_law_30 (by decide) ?_
    exact rw_ret X hP hS h dX4_law_32
  · have h := ff_some h c2
    refine lv_iload_n hx hb dX4_law_10 rfl (lv_at hl 2 rfl) ?_
    refine lv_i2l (v := Int32.toInt64 p2) hx hb dX4_law_11 rfl ?_
    refine lv_lconst (v := 0) hx hb dX4_law_12 (by decide) ?_
    refine lv_iload_n hx hb dX4_law_13 rfl (lv_at hl 1 rfl) ?_
    refine lv_if_ne (tgt := 21) hx hb dX4_law_14 (by decide) (fun c3 => ?_) (fun c3 => ?_)
    · have h := ff_some h c3
      refine lv_ldc2 (v := (9 : Int64)) hx hb X.2.2.2.2.2.1 (X.2.2.2.2.2.2.1 _ w_kl_X4_81) dX4_law_21 ?_
      exact wk_X4_law_24 X hD S 9 0 (Int32.toInt64 p2) ls _ _ (lv_sub hl [0, 1, 2] rfl) hP hS h
    · have h := tt_some h c3
      refine lv_lconst (v := 1) hx hb dX4_law_17 (by decide) ?_
      refine lv_goto (tgt := 24) hx hb dX4_law_18 (by decide) ?_
      exact wk_X4_law_24 X hD S 1 0 (Int32.toInt64 p2) ls _ _ (lv_sub hl [0, 1, 2] rfl) hP hS h
set_option maxHeartbeats 4000000 in
set_option maxRecDepth 100000 in
theorem c_X4_say (l : Launch) (D : va_G) (cI cG : ClassId) (q : Nat → Nat) {S : St} (H : Heap) (p1 : Int32) (hD : ∀ S : St, va_D (AM q) (wM cI cG q S)) {r : Int32} {S9 : St} (h : m_X4_say S p1 = some (r, S9)) : RwM l yX4_say cX4_say 2 (some .int) 1 25 [.ref (q 0), .int p1] D cI cG (wM cI cG q) (AM q) S H r S9 := by
  refine RwM.of (own := RX4) (by decide) rfl (Nat.le_of_ble_eq_true rfl) ?_
  intro p e s m args below meth c ls X hP hS hl0
  have hl : lv_has ls 2 [(0, .ref (q 0)), (1, .int p1)] := hl0 _ (lv_entry [.ref (q 0), .int p1] (n := 2) (Nat.le_of_ble_eq_true rfl))
  have hx := X.1
  have hb := X.2.1
  have hA := hD
  rw [m_X4_say] at h
  refine lv_iload_n hx hb dX4_say_0 rfl (lv_at hl 1 rfl) ?_
  refine lv_i2l (v := Int32.toInt64 p1) hx hb dX4_say_1 rfl ?_
  refine lv_ldc2 (v := (33 : Int64)) hx hb X.2.2.2.2.2.1 (X.2.2.2.2.2.2.1 _ w_kl_X4_86) dX4_say_2 ?_
  refine lv_ldc2 (v := (126 : Int64)) hx hb X.2.2.2.2.2.1 (X.2.2.2.2.2.2.1 _ w_kl_X4_88) dX4_say_5 ?_
  obtain ⟨r1, er1, h⟩ := bd_some h
  refine ro_S (As := [.long (Int32.toInt64 p1), .long 33, .long 126]) (rest := []) X hP hS hl.1 (c_X4_in l D cI cG _ _ (Int32.toInt64 p1) 33 126 er1) lk_X4_55 ⟨by decide, by decide⟩ rfl rfl (Nat.le_of_ble_eq_true rfl) dX4_say_8 ⟨Nat.le_refl _, Nat.le_refl _⟩ (fun locs hS => ?_)
  refine lv_if_ne (tgt := 17) hx hb dX4_say_11 (by decide) (fun c2 => ?_) (fun c2 => ?_)
  · have h := ff_some h c2
    refine lv_aload_n hx hb dX4_say_17 rfl (lv_at hl 0 rfl) ?_
    refine gf_X4_90 X hP dX4_say_18 ?_
    refine lv_bipush (v := 40) hx hb dX4_say_21 (by decide) ?_
    refine lv_icmp_ne (tgt := 29) hx hb dX4_say_23 (by decide) (fun c3 => ?_) (fun c3 => ?_)
    · have h := ff_some h c3
      refine lv_aload_n hx hb dX4_say_29 rfl (lv_at hl 0 rfl) ?_
      refine gf_X4_37 X hP dX4_say_30 ?_
      refine lv_aload_n hx hb dX4_say_33 rfl (lv_at hl 0 rfl) ?_
      refine gf_X4_90 X hP dX4_say_34 ?_
      refine lv_iload_n hx hb dX4_say_37 rfl (lv_at hl 1 rfl) ?_
      obtain ⟨hi4, h⟩ := gd_some h
      refine rw_ast X hP (hD _) hS 10 wM_10 sM_10 hi4 dX4_say_38 (fun H locs hP hS => ?_)
      refine lv_aload_n hx hb dX4_say_39 rfl (lv_at hl 0 rfl) ?_
      refine lv_dup hx hb dX4_say_40 rfl ?_
      refine gf_X4_90 X hP dX4_say_41 ?_
      refine W.eq (g2 := F0 m 44 ls [.int (S 0 4), .ref (q 0)]) rfl ?_
      refine lv_iconst (v := 1) hx hb dX4_say_44 (by decide) ?_
      refine lv_iadd hx hb dX4_say_45 ?_
      refine pf_X4_90 X hP (hD _) hS dX4_say_46 (fun H locs hP hS => ?_)
      refine lv_aload_n hx hb dX4_say_49 rfl (lv_at hl 0 rfl) ?_
      refine gf_X4_90 X hP dX4_say_50 ?_
      refine W.eq (g2 := F0 m 53 ls [.int (((S 0 4) + 1))]) rfl ?_
      exact rw_ret X hP hS h dX4_say_53
    · have h := tt_some h c3
      refine lv_bipush (v := (-4 : Int32)) hx hb dX4_say_26 (by decide) ?_
      exact rw_ret X hP hS h dX4_say_28
  · have h := tt_some h c2
    refine lv_bipush (v := (-2 : Int32)) hx hb dX4_say_14 (by decide) ?_
    exact rw_ret X hP hS h dX4_say_16
set_option maxHeartbeats 4000000 in
set_option maxRecDepth 100000 in
theorem c_X4_wipe (l : Launch) (D : va_G) (cI cG : ClassId) (q : Nat → Nat) {S : St} (H : Heap)  (hD : ∀ S : St, va_D (AM q) (wM cI cG q S)) {r : Int32} {S9 : St} (h : m_X4_wipe S = some (r, S9)) : RwM l yX4_wipe cX4_wipe 2 (some .int) 0 0 [.ref (q 0)] D cI cG (wM cI cG q) (AM q) S H r S9 := by
  refine RwM.of (own := RX4) (by decide) rfl (Nat.le_of_ble_eq_true rfl) ?_
  intro p e s m args below meth c ls X hP hS hl0
  have hl : lv_has ls 2 [(0, .ref (q 0))] := hl0 _ (lv_entry [.ref (q 0)] (n := 2) (Nat.le_of_ble_eq_true rfl))
  have hx := X.1
  have hb := X.2.1
  have hA := hD
  rw [m_X4_wipe] at h
  refine lv_aload_n hx hb dX4_wipe_0 rfl (lv_at hl 0 rfl) ?_
  refine gf_X4_90 X hP dX4_wipe_1 ?_
  refine lv_topi (fun v1 ev1 => ?_)
  have h := nm_some h ev1
  refine lv_istore_n (lv' := [(1, .int v1), (0, .ref (q 0))]) hx hb dX4_wipe_4 rfl hl (by decide) rfl (fun ls hl => ?_)
  refine lv_aload_n hx hb dX4_wipe_5 rfl (lv_at hl 1 rfl) ?_
  refine lv_iconst (v := 0) hx hb dX4_wipe_6 (by decide) ?_
  refine pf_X4_90 X hP (hD _) hS dX4_wipe_7 (fun H locs hP hS => ?_)
  refine lv_iload_n hx hb dX4_wipe_10 rfl (lv_at hl 0 rfl) ?_
  exact rw_ret X hP hS h dX4_wipe_11
set_option maxHeartbeats 4000000 in
set_option maxRecDepth 100000 in
theorem wk_X4_leans_93 {p : Program} {l : Launch} {e : Env} {s : State} {m : MethodId} {args : Array Value} {below : List Frame} {meth : Method} {c : Code} {D : va_G} {cI cG : ClassId} {q : Nat → Nat} {r : Int32} {S9 : St} {F : Nat} {p1 : Int32} {K31 : St → Int32 → Int32 → Option (Int32 × St)} (X : Cx p s m args meth c cX4_leans 5 (some .int) RX4 D cI cG) (hD : ∀ S : St, va_D (AM q) (wM cI cG q S)) (hK31 : ∀ (S : St) (x2 : Int32) (x3 : Int32) (ls : Array Slot) (locs : List Loc) (H : Heap), lv_has ls 5 [(0, .ref (q 0)), (1, .int p1), (2, .int x2), (3, .int x3)] → va_P D vwCl (wM cI cG q S) H → va_S (AM q) s.heap H locs → K31 S x2 x3 = some (r, S9) → W p l e { frames := 2, cells := 0, slots := 0, locals := 48 } s m args below meth c H locs 0 0 (MQ below (rwQ (wM cI cG q) D (AM q) r S9) args s 0 0 (AM q)) (F0 m 31 ls [])) : ∀ (S : St) (x2 : Int32) (x3 : Int32) (ls : Array Slot) (locs : List Loc) (H : Heap), lv_has ls 5 [(0, .ref (q 0)), (1, .int p1), (2, .int x2), (3, .int x3)] → va_P D vwCl (wM cI cG q S) H → va_S (AM q) s.heap H locs → m_X4_leans_93 F p1 K31 S x2 x3 = some (r, S9) → W p l e { frames := 2, cells := 0, slots := 0, locals := 48 } s m args below meth c H locs 0 0 (MQ below (rwQ (wM cI cG q) D (AM q) r S9) args s 0 0 (AM q)) (F0 m 93 ls []) := by
  have hx := X.1
  have hb := X.2.1
  have hA := hD
  intro S x2 x3 ls locs H hl hP hS h
  rw [m_X4_leans_93] at h
  refine lv_aload_n hx hb dX4_leans_93 rfl (lv_at hl 0 rfl) ?_
  refine gf_X4_31 X hP dX4_leans_94 ?_
  refine lv_bipush (v := 20) hx hb dX4_leans_97 (by decide) ?_
  refine lv_iload_n hx hb dX4_leans_99 rfl (lv_at hl 1 rfl) ?_
  refine lv_imul hx hb dX4_leans_100 ?_
  refine lv_aload_n hx hb dX4_leans_101 rfl (lv_at hl 0 rfl) ?_
  refine gf_X4_34 X hP dX4_leans_102 ?_
  refine lv_iload_n hx hb dX4_leans_105 rfl (lv_at hl 1 rfl) ?_
  obtain ⟨hi16, h⟩ := gd_some h
  refine ro_ald X hP 9 wM_9 hi16 dX4_leans_106 ?_
  refine lv_iadd hx hb dX4_leans_107 ?_
  refine lv_iload_n hx hb dX4_leans_108 rfl (lv_at hl 2 rfl) ?_
  obtain ⟨hi17, h⟩ := gd_some h
  refine rw_ast X hP (hD _) hS 8 wM_8 sM_8 hi17 dX4_leans_109 (fun H locs hP hS => ?_)
  refine lv_aload_n hx hb dX4_leans_110 rfl (lv_at hl 0 rfl) ?_
  refine gf_X4_34 X hP dX4_leans_111 ?_
  refine lv_iload_n hx hb dX4_leans_114 rfl (lv_at hl 1 rfl) ?_
  refine lv_dup2_11 hx hb dX4_leans_115 rfl rfl ?_
  obtain ⟨hi18, h⟩ := gd_some h
  refine ro_ald X hP 9 wM_9 hi18 dX4_leans_116 ?_
  refine W.eq (g2 := F0 m 117 ls [.int (S 9 (ix p1)), .int p1, .ref (q 9)]) rfl ?_
  refine lv_iconst (v := 1) hx hb dX4_leans_117 (by decide) ?_
  refine lv_iadd hx hb dX4_leans_118 ?_
  obtain ⟨hi19, h⟩ := gd_some h
  refine rw_ast X hP (hD _) hS 9 wM_9 sM_9 hi19 dX4_leans_119 (fun H locs hP hS => ?_)
  refine lv_iconst (v := 0) hx hb dX4_leans_120 (by decide) ?_
  refine lv_istore_n (lv' := [(2, .int 0), (0, .ref (q 0)), (1, .int p1), (3, .int x3)]) hx hb dX4_leans_121 rfl hl (by decide) rfl (fun ls hl => ?_)
  obtain ⟨v20, ev20⟩ : ∃ y : Int32, y = x3 + 1 := ⟨_, rfl⟩
  have h := nm_some h ev20
  refine lv_iinc (v := v20) (lv' := [(3, .int v20), (2, .int 0), (0, .ref (q 0)), (1, .int p1)]) hx hb dX4_leans_122 hl (k := 3) rfl (by rw [ev20]; rfl) (by decide) rfl (fun ls hl => ?_)
  refine lv_goto (tgt := 31) hx hb dX4_leans_125 (by decide) ?_
  exact hK31 (up (up S 8 (ix ((20 * p1) + (S 9 (ix p1)))) x2) 9 (ix p1) ((S 9 (ix p1)) + 1)) 0 v20 ls _ _ (lv_sub hl [2, 3, 1, 0] rfl) hP hS h
set_option maxHeartbeats 4000000 in
set_option maxRecDepth 100000 in
theorem wk_X4_leans_74 {p : Program} {l : Launch} {e : Env} {s : State} {m : MethodId} {args : Array Value} {below : List Frame} {meth : Method} {c : Code} {D : va_G} {cI cG : ClassId} {q : Nat → Nat} {r : Int32} {S9 : St} {F : Nat} {p1 : Int32} {K31 : St → Int32 → Int32 → Option (Int32 × St)} (X : Cx p s m args meth c cX4_leans 5 (some .int) RX4 D cI cG) (hD : ∀ S : St, va_D (AM q) (wM cI cG q S)) (hK31 : ∀ (S : St) (x2 : Int32) (x3 : Int32) (ls : Array Slot) (locs : List Loc) (H : Heap), lv_has ls 5 [(0, .ref (q 0)), (1, .int p1), (2, .int x2), (3, .int x3)] → va_P D vwCl (wM cI cG q S) H → va_S (AM q) s.heap H locs → K31 S x2 x3 = some (r, S9) → W p l e { frames := 2, cells := 0, slots := 0, locals := 48 } s m args below meth c H locs 0 0 (MQ below (rwQ (wM cI cG q) D (AM q) r S9) args s 0 0 (AM q)) (F0 m 31 ls [])) : ∀ (S : St) (x3 : Int32) (x4 : Int32) (t0 : Int32) (t1 : Int32) (ls : Array Slot) (locs : List Loc) (H : Heap), lv_has ls 5 [(0, .ref (q 0)), (1, .int p1), (3, .int x3), (4, .int x4)] → va_P D vwCl (wM cI cG q S) H → va_S (AM q) s.heap H locs → m_X4_leans_74 F p1 K31 S x3 x4 t0 t1 = some (r, S9) → W p l e { frames := 2, cells := 0, slots := 0, locals := 48 } s m args below meth c H locs 0 0 (MQ below (rwQ (wM cI cG q) D (AM q) r S9) args s 0 0 (AM q)) (F0 m 74 ls [.int t0, .int t1]) := by
  have hx := X.1
  have hb := X.2.1
  have hA := hD
  intro S x3 x4 t0 t1 ls locs H hl hP hS h
  rw [m_X4_leans_74] at h
  refine lv_ior hx hb dX4_leans_74 ?_
  refine lv_topi (fun v12 ev12 => ?_)
  have h := nm_some h ev12
  refine lv_istore_n (lv' := [(2, .int v12), (0, .ref (q 0)), (1, .int p1), (3, .int x3), (4, .int x4)]) hx hb dX4_leans_75 rfl hl (by decide) rfl (fun ls hl => ?_)
  refine lv_iload hx hb dX4_leans_76 (lv_at hl 4 rfl) ?_
  refine lv_bipush (v := 124) hx hb dX4_leans_78 (by decide) ?_
  refine lv_icmp_eq (tgt := 93) hx hb dX4_leans_80 (by decide) (fun c13 => ?_) (fun c13 => ?_)
  · have h := tt_some h c13
    exact wk_X4_leans_93 X hD hK31 S v12 x3 ls _ _ (lv_sub hl [1, 2, 0, 3] rfl) hP hS h
  · have h := ff_some h c13
    refine lv_iload_n hx hb dX4_leans_83 rfl (lv_at hl 3 rfl) ?_
    refine lv_aload_n hx hb dX4_leans_84 rfl (lv_at hl 1 rfl) ?_
    refine gf_X4_90 X hP dX4_leans_85 ?_
    refine lv_iconst (v := 1) hx hb dX4_leans_88 (by decide) ?_
    refine lv_isub hx hb dX4_leans_89 ?_
    refine lv_icmp_ne (tgt := 122) hx hb dX4_leans_90 (by decide) (fun c14 => ?_) (fun c14 => ?_)
    · have h := ff_some h c14
      obtain ⟨v15, ev15⟩ : ∃ y : Int32, y = x3 + 1 := ⟨_, rfl⟩
      have h := nm_some h ev15
      refine lv_iinc (v := v15) (lv' := [(3, .int v15), (2, .int v12), (0, .ref (q 0)), (1, .int p1), (4, .int x4)]) hx hb dX4_leans_122 hl (k := 3) rfl (by rw [ev15]; rfl) (by decide) rfl (fun ls hl => ?_)
      refine lv_goto (tgt := 31) hx hb dX4_leans_125 (by decide) ?_
      exact hK31 S v12 v15 ls _ _ (lv_sub hl [2, 3, 1, 0] rfl) hP hS h
    · have h := tt_some h c14
      exact wk_X4_leans_93 X hD hK31 S v12 x3 ls _ _ (lv_sub hl [1, 2, 0, 3] rfl) hP hS h
set_option maxHeartbeats 4000000 in
set_option maxRecDepth 100000 in
theorem wk_X4_leans_31 {p : Program} {l : Launch} {e : Env} {s : State} {m : MethodId} {args : Array Value} {below : List Frame} {meth : Method} {c : Code} {D : va_G} {cI cG : ClassId} {q : Nat → Nat} {r : Int32} {S9 : St} {F : Nat} {p1 : Int32}  (X : Cx p s m args meth c cX4_leans 5 (some .int) RX4 D cI cG) (hD : ∀ S : St, va_D (AM q) (wM cI cG q S))  : ∀ (n : Nat) (S : St) (x2 : Int32) (x3 : Int32) (ls : Array Slot) (locs : List Loc) (H : Heap), lv_has ls 5 [(0, .ref (q 0)), (1, .int p1), (2, .int x2), (3, .int x3)] → va_P D vwCl (wM cI cG q S) H → va_S (AM q) s.heap H locs → m_X4_leans_31 F p1 n S x2 x3 = some (r, S9) → W p l e { frames := 2, cells := 0, slots := 0, locals := 48 } s m args below meth c H locs 0 0 (MQ below (rwQ (wM cI cG q) D (AM q) r S9) args s 0 0 (AM q)) (F0 m 31 ls []) := by
  have hx := X.1
  have hb := X.2.1
  have hA := hD
  intro n
  induction n with
  | zero =>
    intro S x2 x3 ls locs H hl hP hS h
    exact no_none (show none = some (r, S9) from h)
  | succ n ih =>
    intro S x2 x3 ls locs H hl hP hS h
    rw [m_X4_leans_31] at h
    refine lv_iload_n hx hb dX4_leans_31 rfl (lv_at hl 3 rfl) ?_
    refine lv_aload_n hx hb dX4_leans_32 rfl (lv_at hl 0 rfl) ?_
    refine gf_X4_90 X hP dX4_leans_33 ?_
    refine lv_icmp_ge (tgt := 128) hx hb dX4_leans_36 (by decide) (fun c6 => ?_) (fun c6 => ?_)
    · have h := tt_some h c6
      refine lv_aload_n hx hb dX4_leans_128 rfl (lv_at hl 0 rfl) ?_
      refine lv_iconst (v := 0) hx hb dX4_leans_129 (by decide) ?_
      refine pf_X4_90 X hP (hD _) hS dX4_leans_130 (fun H locs hP hS => ?_)
      refine lv_aload_n hx hb dX4_leans_133 rfl (lv_at hl 0 rfl) ?_
      refine gf_X4_34 X hP dX4_leans_134 ?_
      refine lv_iload_n hx hb dX4_leans_137 rfl (lv_at hl 1 rfl) ?_
      obtain ⟨hi7, h⟩ := gd_some h
      refine ro_ald X hP 9 wM_9 hi7 dX4_leans_138 ?_
      refine W.eq (g2 := F0 m 139 ls [.int (S 9 (ix p1))]) rfl ?_
      exact rw_ret X hP hS h dX4_leans_139
    · have h := ff_some h c6
      refine lv_aload_n hx hb dX4_leans_39 rfl (lv_at hl 0 rfl) ?_
      refine gf_X4_37 X hP dX4_leans_40 ?_
      refine lv_iload_n hx hb dX4_leans_43 rfl (lv_at hl 3 rfl) ?_
      obtain ⟨hi8, h⟩ := gd_some h
      refine ro_ald X hP 10 wM_10 hi8 dX4_leans_44 ?_
      refine lv_topi (fun v9 ev9 => ?_)
      have h := nm_some h ev9
      refine lv_istore (lv' := [(4, .int v9), (0, .ref (q 0)), (1, .int p1), (2, .int x2), (3, .int x3)]) hx hb dX4_leans_45 hl (by decide) rfl (fun ls hl => ?_)
      refine lv_iload_n hx hb dX4_leans_47 rfl (lv_at hl 3 rfl) ?_
      refine lv_iload hx hb dX4_leans_48 (lv_at hl 0 rfl) ?_
      refine lv_i2l (v := Int32.toInt64 v9) hx hb dX4_leans_50 rfl ?_
      refine lv_ldc2 (v := (97 : Int64)) hx hb X.2.2.2.2.2.1 (X.2.2.2.2.2.2.1 _ w_kl_X4_93) dX4_leans_51 ?_
      refine lv_ldc2 (v := (108 : Int64)) hx hb X.2.2.2.2.2.1 (X.2.2.2.2.2.2.1 _ w_kl_X4_95) dX4_leans_54 ?_
      obtain ⟨r10, er10, h⟩ := bd_some h
      refine ro_S (As := [.long (Int32.toInt64 v9), .long 97, .long 108]) (rest := [.int x2]) X hP hS hl.1 (c_X4_in l D cI cG _ _ (Int32.toInt64 v9) 97 108 er10) lk_X4_55 ⟨by decide, by decide⟩ rfl rfl (Nat.le_of_ble_eq_true rfl) dX4_leans_57 ⟨Nat.le_refl _, Nat.le_refl _⟩ (fun locs hS => ?_)
      refine lv_if_eq (tgt := 73) hx hb dX4_leans_60 (by decide) (fun c11 => ?_) (fun c11 => ?_)
      · have h := tt_some h c11
        refine lv_iconst (v := 0) hx hb dX4_leans_73 (by decide) ?_
        exact wk_X4_leans_74 X hD ih S x3 v9 0 x2 ls _ _ (lv_sub hl [1, 2, 4, 0] rfl) hP hS h
      · have h := ff_some h c11
        refine lv_iconst (v := 1) hx hb dX4_leans_63 (by decide) ?_
        refine lv_iload hx hb dX4_leans_64 (lv_at hl 0 rfl) ?_
        refine lv_bipush (v := 97) hx hb dX4_leans_66 (by decide) ?_
        refine lv_isub hx hb dX4_leans_68 ?_
        refine lv_ishl hx hb dX4_leans_69 ?_
        refine lv_goto (tgt := 74) hx hb dX4_leans_70 (by decide) ?_
        exact wk_X4_leans_74 X hD ih S x3 v9 (1 <<< ((v9 - 97) &&& 31)) x2 ls _ _ (lv_sub hl [1, 2, 4, 0] rfl) hP hS h
set_option maxHeartbeats 4000000 in
set_option maxRecDepth 100000 in
theorem c_X4_leans (l : Launch) (D : va_G) (cI cG : ClassId) (q : Nat → Nat) {S : St} (H : Heap) (F : Nat) (p1 : Int32) (hD : ∀ S : St, va_D (AM q) (wM cI cG q S)) {r : Int32} {S9 : St} (h : m_X4_leans F S p1 = some (r, S9)) : RwM l yX4_leans cX4_leans 5 (some .int) 2 48 [.ref (q 0), .int p1] D cI cG (wM cI cG q) (AM q) S H r S9 := by
  refine RwM.of (own := RX4) (by decide) rfl (Nat.le_of_ble_eq_true rfl) ?_
  intro p e s m args below meth c ls X hP hS hl0
  have hl : lv_has ls 5 [(0, .ref (q 0)), (1, .int p1)] := hl0 _ (lv_entry [.ref (q 0), .int p1] (n := 5) (Nat.le_of_ble_eq_true rfl))
  have hx := X.1
  have hb := X.2.1
  have hA := hD
  rw [m_X4_leans] at h
  refine lv_aload_n hx hb dX4_leans_0 rfl (lv_at hl 0 rfl) ?_
  refine lv_iload_n hx hb dX4_leans_1 rfl (lv_at hl 1 rfl) ?_
  obtain ⟨r1, er1, h⟩ := bd_some h
  refine ro_V (As := [.int p1]) (rest := []) X hP hS hl.1 (c_X4_isAct l D cI cG q S _ p1 er1) lk_X4_71 (rc_X4_X4 X hP) ⟨by decide, by decide⟩ rfl rfl (Nat.le_of_ble_eq_true rfl) dX4_leans_2 ⟨Nat.le_refl _, Nat.le_refl _⟩ (fun locs hS => ?_)
  refine lv_if_ne (tgt := 10) hx hb dX4_leans_5 (by decide) (fun c2 => ?_) (fun c2 => ?_)
  · have h := ff_some h c2
    refine lv_aload_n hx hb dX4_leans_10 rfl (lv_at hl 0 rfl) ?_
    obtain ⟨r3, er3, h⟩ := bd_some h
    refine ro_V (As := []) (rest := []) X hP hS hl.1 (c_X4_fault l D cI cG q S _ F er3) lk_X4_97 (rc_X4_X4 X hP) ⟨by decide, by decide⟩ rfl rfl (Nat.le_of_ble_eq_true rfl) dX4_leans_11 ⟨Nat.le_refl _, Nat.le_refl _⟩ (fun locs hS => ?_)
    refine lv_if_lt (tgt := 20) hx hb dX4_leans_14 (by decide) (fun c4 => ?_) (fun c4 => ?_)
    · have h := tt_some h c4
      refine lv_aload_n hx hb dX4_leans_20 rfl (lv_at hl 0 rfl) ?_
      refine gf_X4_34 X hP dX4_leans_21 ?_
      refine lv_iload_n hx hb dX4_leans_24 rfl (lv_at hl 1 rfl) ?_
      refine lv_iconst (v := 0) hx hb dX4_leans_25 (by decide) ?_
      obtain ⟨hi5, h⟩ := gd_some h
      refine rw_ast X hP (hD _) hS 9 wM_9 sM_9 hi5 dX4_leans_26 (fun H locs hP hS => ?_)
      refine lv_iconst (v := 0) hx hb dX4_leans_27 (by decide) ?_
      refine lv_istore_n (lv' := [(2, .int 0), (0, .ref (q 0)), (1, .int p1)]) hx hb dX4_leans_28 rfl hl (by decide) rfl (fun ls hl => ?_)
      refine lv_iconst (v := 0) hx hb dX4_leans_29 (by decide) ?_
      refine lv_istore_n (lv' := [(3, .int 0), (2, .int 0), (0, .ref (q 0)), (1, .int p1)]) hx hb dX4_leans_30 rfl hl (by decide) rfl (fun ls hl => ?_)
      exact wk_X4_leans_31 X hD F (up S 9 (ix p1) 0) 0 0 ls _ _ (lv_sub hl [2, 3, 1, 0] rfl) hP hS h
    · have h := ff_some h c4
      refine lv_bipush (v := (-5 : Int32)) hx hb dX4_leans_17 (by decide) ?_
      exact rw_ret X hP hS h dX4_leans_19
  · have h := tt_some h c2
    refine lv_iconst (v := (-1 : Int32)) hx hb dX4_leans_8 (by decide) ?_
    exact rw_ret X hP hS h dX4_leans_9
set_option maxHeartbeats 4000000 in
set_option maxRecDepth 100000 in
theorem c_X4_free (l : Launch) (D : va_G) (cI cG : ClassId) (q : Nat → Nat) {S : St} (H : Heap) (p1 : Int32) (hD : ∀ S : St, va_D (AM q) (wM cI cG q S)) {r : Int32} {S9 : St} (h : m_X4_free S p1 = some (r, S9)) : RwM l yX4_free cX4_free 3 (some .int) 2 46 [.ref (q 0), .int p1] D cI cG (wM cI cG q) (AM q) S H r S9 := by
  refine RwM.of (own := RX4) (by decide) rfl (Nat.le_of_ble_eq_true rfl) ?_
  intro p e s m args below meth c ls X hP hS hl0
  have hl : lv_has ls 3 [(0, .ref (q 0)), (1, .int p1)] := hl0 _ (lv_entry [.ref (q 0), .int p1] (n := 3) (Nat.le_of_ble_eq_true rfl))
  have hx := X.1
  have hb := X.2.1
  have hA := hD
  rw [m_X4_free] at h
  refine lv_aload_n hx hb dX4_free_0 rfl (lv_at hl 0 rfl) ?_
  refine lv_iload_n hx hb dX4_free_1 rfl (lv_at hl 1 rfl) ?_
  obtain ⟨r1, er1, h⟩ := bd_some h
  refine ro_V (As := [.int p1]) (rest := []) X hP hS hl.1 (c_X4_isAct l D cI cG q S _ p1 er1) lk_X4_71 (rc_X4_X4 X hP) ⟨by decide, by decide⟩ rfl rfl (Nat.le_of_ble_eq_true rfl) dX4_free_2 ⟨Nat.le_refl _, Nat.le_refl _⟩ (fun locs hS => ?_)
  refine lv_if_ne (tgt := 10) hx hb dX4_free_5 (by decide) (fun c2 => ?_) (fun c2 => ?_)
  · have h := ff_some h c2
    refine lv_aload_n hx hb dX4_free_10 rfl (lv_at hl 0 rfl) ?_
    refine gf_X4_34 X hP dX4_free_11 ?_
    refine lv_iload_n hx hb dX4_free_14 rfl (lv_at hl 1 rfl) ?_
    obtain ⟨hi3, h⟩ := gd_some h
    refine ro_ald X hP 9 wM_9 hi3 dX4_free_15 ?_
    refine lv_topi (fun v4 ev4 => ?_)
    have h := nm_some h ev4
    refine lv_istore_n (lv' := [(2, .int v4), (0, .ref (q 0)), (1, .int p1)]) hx hb dX4_free_16 rfl hl (by decide) rfl (fun ls hl => ?_)
    refine lv_aload_n hx hb dX4_free_17 rfl (lv_at hl 1 rfl) ?_
    refine gf_X4_34 X hP dX4_free_18 ?_
    refine lv_iload_n hx hb dX4_free_21 rfl (lv_at hl 2 rfl) ?_
    refine lv_iconst (v := 0) hx hb dX4_free_22 (by decide) ?_
    obtain ⟨hi5, h⟩ := gd_some h
    refine rw_ast X hP (hD _) hS 9 wM_9 sM_9 hi5 dX4_free_23 (fun H locs hP hS => ?_)
    refine lv_iload_n hx hb dX4_free_24 rfl (lv_at hl 0 rfl) ?_
    exact rw_ret X hP hS h dX4_free_25
  · have h := tt_some h c2
    refine lv_iconst (v := (-1 : Int32)) hx hb dX4_free_8 (by decide) ?_
    exact rw_ret X hP hS h dX4_free_9
set_option maxHeartbeats 4000000 in
set_option maxRecDepth 100000 in
theorem c_X4_ask (l : Launch) (D : va_G) (cI cG : ClassId) (q : Nat → Nat) {S : St} (H : Heap) (p1 p2 p3 : Int32) (hD : ∀ S : St, va_D (AM q) (wM cI cG q S)) {r : Int32} {S9 : St} (h : m_X4_ask S p1 p2 p3 = some (r, S9)) : RwM l yX4_ask cX4_ask 4 (some .int) 2 46 [.ref (q 0), .int p1, .int p2, .int p3] D cI cG (wM cI cG q) (AM q) S H r S9 := by
  refine RwM.of (own := RX4) (by decide) rfl (Nat.le_of_ble_eq_true rfl) ?_
  intro p e s m args below meth c ls X hP hS hl0
  have hl : lv_has ls 4 [(0, .ref (q 0)), (1, .int p1), (2, .int p2), (3, .int p3)] := hl0 _ (lv_entry [.ref (q 0), .int p1, .int p2, .int p3] (n := 4) (Nat.le_of_ble_eq_true rfl))
  have hx := X.1
  have hb := X.2.1
  have hA := hD
  rw [m_X4_ask] at h
  refine lv_aload_n hx hb dX4_ask_0 rfl (lv_at hl 0 rfl) ?_
  refine lv_iload_n hx hb dX4_ask_1 rfl (lv_at hl 1 rfl) ?_
  obtain ⟨r1, er1, h⟩ := bd_some h
  refine ro_V (As := [.int p1]) (rest := []) X hP hS hl.1 (c_X4_isAct l D cI cG q S _ p1 er1) lk_X4_71 (rc_X4_X4 X hP) ⟨by decide, by decide⟩ rfl rfl (Nat.le_of_ble_eq_true rfl) dX4_ask_2 ⟨Nat.le_refl _, Nat.le_refl _⟩ (fun locs hS => ?_)
  refine lv_if_eq (tgt := 15) hx hb dX4_ask_5 (by decide) (fun c2 => ?_) (fun c2 => ?_)
  · have h := tt_some h c2
    refine lv_iconst (v := (-1 : Int32)) hx hb dX4_ask_15 (by decide) ?_
    exact rw_ret X hP hS h dX4_ask_16
  · have h := ff_some h c2
    refine lv_iload_n hx hb dX4_ask_8 rfl (lv_at hl 2 rfl) ?_
    obtain ⟨r3, er3, h⟩ := bd_some h
    refine ro_S (As := [.int p2]) (rest := []) X hP hS hl.1 (c_X4_isWho l D cI cG _ _ p2 er3) lk_X4_64 ⟨by decide, by decide⟩ rfl rfl (Nat.le_of_ble_eq_true rfl) dX4_ask_9 ⟨Nat.le_refl _, Nat.le_refl _⟩ (fun locs hS => ?_)
    refine lv_if_ne (tgt := 17) hx hb dX4_ask_12 (by decide) (fun c4 => ?_) (fun c4 => ?_)
    · have h := ff_some h c4
      refine lv_iload_n hx hb dX4_ask_17 rfl (lv_at hl 3 rfl) ?_
      obtain ⟨r5, er5, h⟩ := bd_some h
      refine ro_S (As := [.int p3]) (rest := []) X hP hS hl.1 (c_X4_isDay l D cI cG _ _ p3 er5) lk_X4_68 ⟨by decide, by decide⟩ rfl rfl (Nat.le_of_ble_eq_true rfl) dX4_ask_18 ⟨Nat.le_refl _, Nat.le_refl _⟩ (fun locs hS => ?_)
      refine lv_if_ne (tgt := 27) hx hb dX4_ask_21 (by decide) (fun c6 => ?_) (fun c6 => ?_)
      · have h := ff_some h c6
        refine lv_aload_n hx hb dX4_ask_27 rfl (lv_at hl 0 rfl) ?_
        refine gf_X4_101 X hP dX4_ask_28 ?_
        refine lv_bipush (v := 12) hx hb dX4_ask_31 (by decide) ?_
        refine lv_icmp_ne (tgt := 39) hx hb dX4_ask_33 (by decide) (fun c7 => ?_) (fun c7 => ?_)
        · have h := ff_some h c7
          refine lv_aload_n hx hb dX4_ask_39 rfl (lv_at hl 0 rfl) ?_
          refine gf_X4_40 X hP dX4_ask_40 ?_
          refine lv_aload_n hx hb dX4_ask_43 rfl (lv_at hl 0 rfl) ?_
          refine gf_X4_101 X hP dX4_ask_44 ?_
          refine lv_iload_n hx hb dX4_ask_47 rfl (lv_at hl 1 rfl) ?_
          obtain ⟨hi8, h⟩ := gd_some h
          refine rw_ast X hP (hD _) hS 11 wM_11 sM_11 hi8 dX4_ask_48 (fun H locs hP hS => ?_)
          refine lv_aload_n hx hb dX4_ask_49 rfl (lv_at hl 0 rfl) ?_
          refine gf_X4_43 X hP dX4_ask_50 ?_
          refine lv_aload_n hx hb dX4_ask_53 rfl (lv_at hl 0 rfl) ?_
          refine gf_X4_101 X hP dX4_ask_54 ?_
          refine W.eq (g2 := F0 m 57 ls [.int (S 0 5), .ref (q 12)]) rfl ?_
          refine lv_iload_n hx hb dX4_ask_57 rfl (lv_at hl 2 rfl) ?_
          obtain ⟨hi9, h⟩ := gd_some h
          refine rw_ast X hP (hD _) hS 12 wM_12 sM_12 hi9 dX4_ask_58 (fun H locs hP hS => ?_)
          refine lv_aload_n hx hb dX4_ask_59 rfl (lv_at hl 0 rfl) ?_
          refine gf_X4_46 X hP dX4_ask_60 ?_
          refine lv_aload_n hx hb dX4_ask_63 rfl (lv_at hl 0 rfl) ?_
          refine gf_X4_101 X hP dX4_ask_64 ?_
          refine W.eq (g2 := F0 m 67 ls [.int (S 0 5), .ref (q 13)]) rfl ?_
          refine lv_iload_n hx hb dX4_ask_67 rfl (lv_at hl 3 rfl) ?_
          obtain ⟨hi10, h⟩ := gd_some h
          refine rw_ast X hP (hD _) hS 13 wM_13 sM_13 hi10 dX4_ask_68 (fun H locs hP hS => ?_)
          refine lv_aload_n hx hb dX4_ask_69 rfl (lv_at hl 0 rfl) ?_
          refine lv_dup hx hb dX4_ask_70 rfl ?_
          refine gf_X4_101 X hP dX4_ask_71 ?_
          refine W.eq (g2 := F0 m 74 ls [.int (S 0 5), .ref (q 0)]) rfl ?_
          refine lv_iconst (v := 1) hx hb dX4_ask_74 (by decide) ?_
          refine lv_iadd hx hb dX4_ask_75 ?_
          refine pf_X4_101 X hP (hD _) hS dX4_ask_76 (fun H locs hP hS => ?_)
          refine lv_aload_n hx hb dX4_ask_79 rfl (lv_at hl 0 rfl) ?_
          refine gf_X4_101 X hP dX4_ask_80 ?_
          refine W.eq (g2 := F0 m 83 ls [.int (((S 0 5) + 1))]) rfl ?_
          refine lv_iconst (v := 1) hx hb dX4_ask_83 (by decide) ?_
          refine lv_isub hx hb dX4_ask_84 ?_
          exact rw_ret X hP hS h dX4_ask_85
        · have h := tt_some h c7
          refine lv_bipush (v := (-4 : Int32)) hx hb dX4_ask_36 (by decide) ?_
          exact rw_ret X hP hS h dX4_ask_38
      · have h := tt_some h c6
        refine lv_bipush (v := (-2 : Int32)) hx hb dX4_ask_24 (by decide) ?_
        exact rw_ret X hP hS h dX4_ask_26
    · have h := tt_some h c4
      refine lv_iconst (v := (-1 : Int32)) hx hb dX4_ask_15 (by decide) ?_
      exact rw_ret X hP hS h dX4_ask_16
set_option maxHeartbeats 4000000 in
set_option maxRecDepth 100000 in
theorem c_X4_drop (l : Launch) (D : va_G) (cI cG : ClassId) (q : Nat → Nat) {S : St} (H : Heap)  (hD : ∀ S : St, va_D (AM q) (wM cI cG q S)) {r : Int32} {S9 : St} (h : m_X4_drop S = some (r, S9)) : RwM l yX4_drop cX4_drop 1 (some .int) 0 0 [.ref (q 0)] D cI cG (wM cI cG q) (AM q) S H r S9 := by
  refine RwM.of (own := RX4) (by decide) rfl (Nat.le_of_ble_eq_true rfl) ?_
  intro p e s m args below meth c ls X hP hS hl0
  have hl : lv_has ls 1 [(0, .ref (q 0))] := hl0 _ (lv_entry [.ref (q 0)] (n := 1) (Nat.le_of_ble_eq_true rfl))
  have hx := X.1
  have hb := X.2.1
  have hA := hD
  rw [m_X4_drop] at h
  refine lv_aload_n hx hb dX4_drop_0 rfl (lv_at hl 0 rfl) ?_
  refine gf_X4_101 X hP dX4_drop_1 ?_
  refine lv_if_ne (tgt := 10) hx hb dX4_drop_4 (by decide) (fun c1 => ?_) (fun c1 => ?_)
  · have h := ff_some h c1
    refine lv_aload_n hx hb dX4_drop_10 rfl (lv_at hl 0 rfl) ?_
    refine lv_dup hx hb dX4_drop_11 rfl ?_
    refine gf_X4_101 X hP dX4_drop_12 ?_
    refine lv_iconst (v := 1) hx hb dX4_drop_15 (by decide) ?_
    refine lv_isub hx hb dX4_drop_16 ?_
    refine pf_X4_101 X hP (hD _) hS dX4_drop_17 (fun H locs hP hS => ?_)
    refine lv_aload_n hx hb dX4_drop_20 rfl (lv_at hl 0 rfl) ?_
    refine gf_X4_101 X hP dX4_drop_21 ?_
    refine W.eq (g2 := F0 m 24 ls [.int (((S 0 5) - 1))]) rfl ?_
    exact rw_ret X hP hS h dX4_drop_24
  · have h := tt_some h c1
    refine lv_bipush (v := (-5 : Int32)) hx hb dX4_drop_7 (by decide) ?_
    exact rw_ret X hP hS h dX4_drop_9
set_option maxHeartbeats 4000000 in
set_option maxRecDepth 100000 in
theorem wk_X4_rest_36 {p : Program} {l : Launch} {e : Env} {s : State} {m : MethodId} {args : Array Value} {below : List Frame} {meth : Method} {c : Code} {D : va_G} {cI cG : ClassId} {q : Nat → Nat} {r : Int32} {S9 : St} {F : Nat} {p1 p2 : Int32} {K25 : St → Int32 → Int32 → Option (Int32 × St)} (X : Cx p s m args meth c cX4_rest 6 (some .int) RX4 D cI cG) (hD : ∀ S : St, va_D (AM q) (wM cI cG q S)) (hK25 : ∀ (S : St) (x3 : Int32) (x4 : Int32) (ls : Array Slot) (locs : List Loc) (H : Heap), lv_has ls 6 [(0, .ref (q 0)), (1, .int p1), (2, .int p2), (3, .int x3), (4, .int x4)] → va_P D vwCl (wM cI cG q S) H → va_S (AM q) s.heap H locs → K25 S x3 x4 = some (r, S9) → W p l e { frames := 8, cells := 0, slots := 0, locals := 192 } s m args below meth c H locs 0 0 (MQ below (rwQ (wM cI cG q) D (AM q) r S9) args s 0 0 (AM q)) (F0 m 25 ls [])) : ∀ (n : Nat) (S : St) (x3 : Int32) (x4 : Int32) (x5 : Int32) (ls : Array Slot) (locs : List Loc) (H : Heap), lv_has ls 6 [(0, .ref (q 0)), (1, .int p1), (2, .int p2), (3, .int x3), (4, .int x4), (5, .int x5)] → va_P D vwCl (wM cI cG q S) H → va_S (AM q) s.heap H locs → m_X4_rest_36 F p1 p2 K25 n S x3 x4 x5 = some (r, S9) → W p l e { frames := 8, cells := 0, slots := 0, locals := 192 } s m args below meth c H locs 0 0 (MQ below (rwQ (wM cI cG q) D (AM q) r S9) args s 0 0 (AM q)) (F0 m 36 ls []) := by
  have hx := X.1
  have hb := X.2.1
  have hA := hD
  intro n
  induction n with
  | zero =>
    intro S x3 x4 x5 ls locs H hl hP hS h
    exact no_none (show none = some (r, S9) from h)
  | succ n ih =>
    intro S x3 x4 x5 ls locs H hl hP hS h
    rw [m_X4_rest_36] at h
    refine lv_iload hx hb dX4_rest_36 (lv_at hl 5 rfl) ?_
    refine lv_aload_n hx hb dX4_rest_38 rfl (lv_at hl 0 rfl) ?_
    refine gf_X4_61 X hP dX4_rest_39 ?_
    refine lv_icmp_ge (tgt := 85) hx hb dX4_rest_42 (by decide) (fun c8 => ?_) (fun c8 => ?_)
    · have h := tt_some h c8
      refine lv_goto (tgt := 25) hx hb dX4_rest_85 (by decide) ?_
      exact hK25 S x3 x4 ls _ _ (lv_sub hl [0, 1, 2, 3, 4] rfl) hP hS h
    · have h := ff_some h c8
      refine lv_iload hx hb dX4_rest_45 (lv_at hl 4 rfl) ?_
      refine lv_if_ne (tgt := 85) hx hb dX4_rest_47 (by decide) (fun c9 => ?_) (fun c9 => ?_)
      · have h := ff_some h c9
        refine lv_goto (tgt := 25) hx hb dX4_rest_85 (by decide) ?_
        exact hK25 S x3 x4 ls _ _ (lv_sub hl [0, 1, 2, 3, 4] rfl) hP hS h
      · have h := tt_some h c9
        refine lv_aload_n hx hb dX4_rest_50 rfl (lv_at hl 0 rfl) ?_
        refine lv_iload hx hb dX4_rest_51 (lv_at hl 5 rfl) ?_
        refine lv_iload_n hx hb dX4_rest_53 rfl (lv_at hl 1 rfl) ?_
        obtain ⟨r10, er10, h⟩ := bd_some h
        refine ro_V (As := [.int x5, .int p1]) (rest := []) X hP hS hl.1 (c_X4_wiseOf l D cI cG q S _ F x5 p1 er10) lk_X4_159 (rc_X4_X4 X hP) ⟨by decide, by decide⟩ rfl rfl (Nat.le_of_ble_eq_true rfl) dX4_rest_54 ⟨Nat.le_refl _, Nat.le_refl _⟩ (fun locs hS => ?_)
        refine lv_if_lt (tgt := 79) hx hb dX4_rest_57 (by decide) (fun c11 => ?_) (fun c11 => ?_)
        · have h := tt_some h c11
          obtain ⟨v12, ev12⟩ : ∃ y : Int32, y = x5 + 1 := ⟨_, rfl⟩
          have h := nm_some h ev12
          refine lv_iinc (v := v12) (lv' := [(5, .int v12), (0, .ref (q 0)), (1, .int p1), (2, .int p2), (3, .int x3), (4, .int x4)]) hx hb dX4_rest_79 hl (k := 5) rfl (by rw [ev12]; rfl) (by decide) rfl (fun ls hl => ?_)
          refine lv_goto (tgt := 36) hx hb dX4_rest_82 (by decide) ?_
          exact ih S x3 x4 v12 ls _ _ (lv_sub hl [1, 2, 3, 4, 5, 0] rfl) hP hS h
        · have h := ff_some h c11
          refine lv_aload_n hx hb dX4_rest_60 rfl (lv_at hl 0 rfl) ?_
          refine lv_dup hx hb dX4_rest_61 rfl ?_
          refine gf_X4_115 X hP dX4_rest_62 ?_
          refine lv_iconst (v := 1) hx hb dX4_rest_65 (by decide) ?_
          refine lv_iload hx hb dX4_rest_66 (lv_at hl 5 rfl) ?_
          refine lv_ishl hx hb dX4_rest_68 ?_
          refine lv_ior hx hb dX4_rest_69 ?_
          refine pf_X4_115 X hP (hD _) hS dX4_rest_70 (fun H locs hP hS => ?_)
          obtain ⟨v13, ev13⟩ : ∃ y : Int32, y = x3 + 1 := ⟨_, rfl⟩
          have h := nm_some h ev13
          refine lv_iinc (v := v13) (lv' := [(3, .int v13), (0, .ref (q 0)), (1, .int p1), (2, .int p2), (4, .int x4), (5, .int x5)]) hx hb dX4_rest_73 hl (k := 3) rfl (by rw [ev13]; rfl) (by decide) rfl (fun ls hl => ?_)
          refine lv_iconst (v := 1) hx hb dX4_rest_76 (by decide) ?_
          refine lv_istore (lv' := [(4, .int 1), (3, .int v13), (0, .ref (q 0)), (1, .int p1), (2, .int p2), (5, .int x5)]) hx hb dX4_rest_77 hl (by decide) rfl (fun ls hl => ?_)
          obtain ⟨v14, ev14⟩ : ∃ y : Int32, y = x5 + 1 := ⟨_, rfl⟩
          have h := nm_some h ev14
          refine lv_iinc (v := v14) (lv' := [(5, .int v14), (4, .int 1), (3, .int v13), (0, .ref (q 0)), (1, .int p1), (2, .int p2)]) hx hb dX4_rest_79 hl (k := 5) rfl (by rw [ev14]; rfl) (by decide) rfl (fun ls hl => ?_)
          refine lv_goto (tgt := 36) hx hb dX4_rest_82 (by decide) ?_
          exact ih (up S 0 7 ((S 0 7) ||| (1 <<< (x5 &&& 31)))) v13 1 v14 ls _ _ (lv_sub hl [3, 4, 5, 2, 1, 0] rfl) hP hS h
set_option maxHeartbeats 4000000 in
set_option maxRecDepth 100000 in
theorem wk_X4_rest_25 {p : Program} {l : Launch} {e : Env} {s : State} {m : MethodId} {args : Array Value} {below : List Frame} {meth : Method} {c : Code} {D : va_G} {cI cG : ClassId} {q : Nat → Nat} {r : Int32} {S9 : St} {F : Nat} {p1 p2 : Int32}  (X : Cx p s m args meth c cX4_rest 6 (some .int) RX4 D cI cG) (hD : ∀ S : St, va_D (AM q) (wM cI cG q S))  : ∀ (n : Nat) (S : St) (x3 : Int32) (x4 : Int32) (ls : Array Slot) (locs : List Loc) (H : Heap), lv_has ls 6 [(0, .ref (q 0)), (1, .int p1), (2, .int p2), (3, .int x3), (4, .int x4)] → va_P D vwCl (wM cI cG q S) H → va_S (AM q) s.heap H locs → m_X4_rest_25 F p1 p2 n S x3 x4 = some (r, S9) → W p l e { frames := 8, cells := 0, slots := 0, locals := 192 } s m args below meth c H locs 0 0 (MQ below (rwQ (wM cI cG q) D (AM q) r S9) args s 0 0 (AM q)) (F0 m 25 ls []) := by
  have hx := X.1
  have hb := X.2.1
  have hA := hD
  intro n
  induction n with
  | zero =>
    intro S x3 x4 ls locs H hl hP hS h
    exact no_none (show none = some (r, S9) from h)
  | succ n ih =>
    intro S x3 x4 ls locs H hl hP hS h
    rw [m_X4_rest_25] at h
    refine lv_iload hx hb dX4_rest_25 (lv_at hl 4 rfl) ?_
    refine lv_if_eq (tgt := 88) hx hb dX4_rest_27 (by decide) (fun c5 => ?_) (fun c5 => ?_)
    · have h := tt_some h c5
      refine lv_aload_n hx hb dX4_rest_88 rfl (lv_at hl 0 rfl) ?_
      refine lv_iload_n hx hb dX4_rest_89 rfl (lv_at hl 1 rfl) ?_
      obtain ⟨r6, er6, h⟩ := bd_some h
      refine ro_V (As := [.int p1]) (rest := []) X hP hS hl.1 (c_X4_standing l D cI cG q S _ F p1 er6) lk_X4_142 (rc_X4_X4 X hP) ⟨by decide, by decide⟩ rfl rfl (Nat.le_of_ble_eq_true rfl) dX4_rest_90 ⟨Nat.le_refl _, Nat.le_refl _⟩ (fun locs hS => ?_)
      refine lv_istore (lv' := [(5, .int r6), (0, .ref (q 0)), (1, .int p1), (2, .int p2), (3, .int x3), (4, .int x4)]) hx hb dX4_rest_93 hl (by decide) rfl (fun ls hl => ?_)
      refine lv_aload_n hx hb dX4_rest_95 rfl (lv_at hl 1 rfl) ?_
      refine lv_iconst (v := 0) hx hb dX4_rest_96 (by decide) ?_
      refine pf_X4_115 X hP (hD _) hS dX4_rest_97 (fun H locs hP hS => ?_)
      refine lv_iload_n hx hb dX4_rest_100 rfl (lv_at hl 3 rfl) ?_
      refine lv_if_ne (tgt := 108) hx hb dX4_rest_101 (by decide) (fun c7 => ?_) (fun c7 => ?_)
      · have h := ff_some h c7
        refine lv_iload hx hb dX4_rest_108 (lv_at hl 0 rfl) ?_
        exact rw_ret X hP hS h dX4_rest_110
      · have h := tt_some h c7
        refine lv_iload_n hx hb dX4_rest_104 rfl (lv_at hl 4 rfl) ?_
        refine lv_goto (tgt := 110) hx hb dX4_rest_105 (by decide) ?_
        exact rw_ret X hP hS h dX4_rest_110
    · have h := ff_some h c5
      refine lv_iconst (v := 0) hx hb dX4_rest_30 (by decide) ?_
      refine lv_istore (lv' := [(4, .int 0), (0, .ref (q 0)), (1, .int p1), (2, .int p2), (3, .int x3)]) hx hb dX4_rest_31 hl (by decide) rfl (fun ls hl => ?_)
      refine lv_iconst (v := 0) hx hb dX4_rest_33 (by decide) ?_
      refine lv_istore (lv' := [(5, .int 0), (4, .int 0), (0, .ref (q 0)), (1, .int p1), (2, .int p2), (3, .int x3)]) hx hb dX4_rest_34 hl (by decide) rfl (fun ls hl => ?_)
      exact wk_X4_rest_36 X hD ih F S x3 0 0 ls _ _ (lv_sub hl [2, 3, 4, 5, 1, 0] rfl) hP hS h
set_option maxHeartbeats 4000000 in
set_option maxRecDepth 100000 in
theorem c_X4_rest (l : Launch) (D : va_G) (cI cG : ClassId) (q : Nat → Nat) {S : St} (H : Heap) (F : Nat) (p1 p2 : Int32) (hD : ∀ S : St, va_D (AM q) (wM cI cG q S)) {r : Int32} {S9 : St} (h : m_X4_rest F S p1 p2 = some (r, S9)) : RwM l yX4_rest cX4_rest 6 (some .int) 8 192 [.ref (q 0), .int p1, .int p2] D cI cG (wM cI cG q) (AM q) S H r S9 := by
  refine RwM.of (own := RX4) (by decide) rfl (Nat.le_of_ble_eq_true rfl) ?_
  intro p e s m args below meth c ls X hP hS hl0
  have hl : lv_has ls 6 [(0, .ref (q 0)), (1, .int p1), (2, .int p2)] := hl0 _ (lv_entry [.ref (q 0), .int p1, .int p2] (n := 6) (Nat.le_of_ble_eq_true rfl))
  have hx := X.1
  have hb := X.2.1
  have hA := hD
  rw [m_X4_rest] at h
  refine lv_iload_n hx hb dX4_rest_0 rfl (lv_at hl 1 rfl) ?_
  obtain ⟨r1, er1, h⟩ := bd_some h
  refine ro_S (As := [.int p1]) (rest := []) X hP hS hl.1 (c_X4_isDay l D cI cG _ _ p1 er1) lk_X4_68 ⟨by decide, by decide⟩ rfl rfl (Nat.le_of_ble_eq_true rfl) dX4_rest_1 ⟨Nat.le_refl _, Nat.le_refl _⟩ (fun locs hS => ?_)
  refine lv_if_eq (tgt := 17) hx hb dX4_rest_4 (by decide) (fun c2 => ?_) (fun c2 => ?_)
  · have h := tt_some h c2
    refine lv_bipush (v := (-2 : Int32)) hx hb dX4_rest_17 (by decide) ?_
    exact rw_ret X hP hS h dX4_rest_19
  · have h := ff_some h c2
    refine lv_iload_n hx hb dX4_rest_7 rfl (lv_at hl 2 rfl) ?_
    refine lv_i2l (v := Int32.toInt64 p2) hx hb dX4_rest_8 rfl ?_
    refine lv_lconst (v := 0) hx hb dX4_rest_9 (by decide) ?_
    refine lv_lconst (v := 1) hx hb dX4_rest_10 (by decide) ?_
    obtain ⟨r3, er3, h⟩ := bd_some h
    refine ro_S (As := [.long (Int32.toInt64 p2), .long 0, .long 1]) (rest := []) X hP hS hl.1 (c_X4_in l D cI cG _ _ (Int32.toInt64 p2) 0 1 er3) lk_X4_55 ⟨by decide, by decide⟩ rfl rfl (Nat.le_of_ble_eq_true rfl) dX4_rest_11 ⟨Nat.le_refl _, Nat.le_refl _⟩ (fun locs hS => ?_)
    refine lv_if_ne (tgt := 20) hx hb dX4_rest_14 (by decide) (fun c4 => ?_) (fun c4 => ?_)
    · have h := ff_some h c4
      refine lv_iconst (v := 0) hx hb dX4_rest_20 (by decide) ?_
      refine lv_istore_n (lv' := [(3, .int 0), (0, .ref (q 0)), (1, .int p1), (2, .int p2)]) hx hb dX4_rest_21 rfl hl (by decide) rfl (fun ls hl => ?_)
      refine lv_iconst (v := 1) hx hb dX4_rest_22 (by decide) ?_
      refine lv_istore (lv' := [(4, .int 1), (3, .int 0), (0, .ref (q 0)), (1, .int p1), (2, .int p2)]) hx hb dX4_rest_23 hl (by decide) rfl (fun ls hl => ?_)
      exact wk_X4_rest_25 X hD F S 0 1 ls _ _ (lv_sub hl [2, 3, 4, 1, 0] rfl) hP hS h
    · have h := tt_some h c4
      refine lv_bipush (v := (-2 : Int32)) hx hb dX4_rest_17 (by decide) ?_
      exact rw_ret X hP hS h dX4_rest_19
set_option maxHeartbeats 4000000 in
set_option maxRecDepth 100000 in
theorem wk_X4_heal_123 {p : Program} {l : Launch} {e : Env} {s : State} {m : MethodId} {args : Array Value} {below : List Frame} {meth : Method} {c : Code} {D : va_G} {cI cG : ClassId} {q : Nat → Nat} {r : Int32} {S9 : St} {F : Nat} {p1 p2 p3 : Int32} {K79 : St → Int32 → Int32 → Int32 → Option (Int32 × St)} (X : Cx p s m args meth c cX4_heal 8 (some .int) RX4 D cI cG) (hD : ∀ S : St, va_D (AM q) (wM cI cG q S)) (hK79 : ∀ (S : St) (x4 : Int32) (x5 : Int32) (x6 : Int32) (ls : Array Slot) (locs : List Loc) (H : Heap), lv_has ls 8 [(0, .ref (q 0)), (1, .int p1), (2, .int p2), (3, .int p3), (4, .int x4), (5, .int x5), (6, .int x6)] → va_P D vwCl (wM cI cG q S) H → va_S (AM q) s.heap H locs → K79 S x4 x5 x6 = some (r, S9) → W p l e { frames := 6, cells := 0, slots := 0, locals := 140 } s m args below meth c H locs 0 0 (MQ below (rwQ (wM cI cG q) D (AM q) r S9) args s 0 0 (AM q)) (F0 m 79 ls [])) : ∀ (S : St) (x4 : Int32) (x5 : Int32) (x6 : Int32) (t0 : Int32) (ls : Array Slot) (locs : List Loc) (H : Heap), lv_has ls 8 [(0, .ref (q 0)), (1, .int p1), (2, .int p2), (3, .int p3), (4, .int x4), (5, .int x5), (6, .int x6)] → va_P D vwCl (wM cI cG q S) H → va_S (AM q) s.heap H locs → m_X4_heal_123 F p1 p2 p3 K79 S x4 x5 x6 t0 = some (r, S9) → W p l e { frames := 6, cells := 0, slots := 0, locals := 140 } s m args below meth c H locs 0 0 (MQ below (rwQ (wM cI cG q) D (AM q) r S9) args s 0 0 (AM q)) (F0 m 123 ls [.int t0]) := by
  have hx := X.1
  have hb := X.2.1
  have hA := hD
  intro S x4 x5 x6 t0 ls locs H hl hP hS h
  rw [m_X4_heal_123] at h
  refine lv_istore (lv' := [(7, .int t0), (0, .ref (q 0)), (1, .int p1), (2, .int p2), (3, .int p3), (4, .int x4), (5, .int x5), (6, .int x6)]) hx hb dX4_heal_123 hl (by decide) rfl (fun ls hl => ?_)
  refine lv_iload hx hb dX4_heal_125 (lv_at hl 0 rfl) ?_
  refine lv_if_eq (tgt := 157) hx hb dX4_heal_127 (by decide) (fun c23 => ?_) (fun c23 => ?_)
  · have h := tt_some h c23
    obtain ⟨v24, ev24⟩ : ∃ y : Int32, y = x6 + 1 := ⟨_, rfl⟩
    have h := nm_some h ev24
    refine lv_iinc (v := v24) (lv' := [(6, .int v24), (7, .int t0), (0, .ref (q 0)), (1, .int p1), (2, .int p2), (3, .int p3), (4, .int x4), (5, .int x5)]) hx hb dX4_heal_157 hl (k := 7) rfl (by rw [ev24]; rfl) (by decide) rfl (fun ls hl => ?_)
    refine lv_goto (tgt := 79) hx hb dX4_heal_160 (by decide) ?_
    exact hK79 S x4 x5 v24 ls _ _ (lv_sub hl [2, 3, 4, 5, 6, 7, 0] rfl) hP hS h
  · have h := ff_some h c23
    refine lv_aload_n hx hb dX4_heal_130 rfl (lv_at hl 1 rfl) ?_
    refine lv_iload hx hb dX4_heal_131 (lv_at hl 7 rfl) ?_
    refine pf_X4_104 X hP (hD _) hS dX4_heal_133 (fun H locs hP hS => ?_)
    refine lv_iload_n hx hb dX4_heal_136 rfl (lv_at hl 2 rfl) ?_
    refine lv_aload_n hx hb dX4_heal_137 rfl (lv_at hl 1 rfl) ?_
    refine lv_iload_n hx hb dX4_heal_138 rfl (lv_at hl 3 rfl) ?_
    obtain ⟨r25, er25, h⟩ := bd_some h
    refine ro_V (As := [.int p2]) (rest := [.int p1]) X hP hS hl.1 (c_X4_standing l D cI cG q (up S 0 6 x6) _ F p2 er25) lk_X4_142 (rc_X4_X4 X hP) ⟨by decide, by decide⟩ rfl rfl (Nat.le_of_ble_eq_true rfl) dX4_heal_139 ⟨Nat.le_refl _, Nat.le_refl _⟩ (fun locs hS => ?_)
    refine lv_iconst (v := (-1 : Int32)) hx hb dX4_heal_142 (by decide) ?_
    refine lv_ixor hx hb dX4_heal_143 ?_
    refine lv_iand hx hb dX4_heal_144 ?_
    refine lv_if_ne (tgt := 153) hx hb dX4_heal_145 (by decide) (fun c26 => ?_) (fun c26 => ?_)
    · have h := ff_some h c26
      refine lv_iload hx hb dX4_heal_153 (lv_at hl 6 rfl) ?_
      refine lv_istore (lv' := [(5, .int x5), (7, .int t0), (0, .ref (q 0)), (1, .int p1), (2, .int p2), (3, .int p3), (4, .int x4), (6, .int x6)]) hx hb dX4_heal_155 hl (by decide) rfl (fun ls hl => ?_)
      obtain ⟨v27, ev27⟩ : ∃ y : Int32, y = x6 + 1 := ⟨_, rfl⟩
      have h := nm_some h ev27
      refine lv_iinc (v := v27) (lv' := [(6, .int v27), (5, .int x5), (7, .int t0), (0, .ref (q 0)), (1, .int p1), (2, .int p2), (3, .int p3), (4, .int x4)]) hx hb dX4_heal_157 hl (k := 7) rfl (by rw [ev27]; rfl) (by decide) rfl (fun ls hl => ?_)
      refine lv_goto (tgt := 79) hx hb dX4_heal_160 (by decide) ?_
      exact hK79 (up S 0 6 x6) x4 x5 v27 ls _ _ (lv_sub hl [3, 4, 5, 6, 7, 1, 0] rfl) hP hS h
    · have h := tt_some h c26
      refine lv_iload hx hb dX4_heal_148 (lv_at hl 7 rfl) ?_
      refine lv_goto (tgt := 155) hx hb dX4_heal_150 (by decide) ?_
      refine lv_istore (lv' := [(5, .int x6), (7, .int t0), (0, .ref (q 0)), (1, .int p1), (2, .int p2), (3, .int p3), (4, .int x4), (6, .int x6)]) hx hb dX4_heal_155 hl (by decide) rfl (fun ls hl => ?_)
      obtain ⟨v28, ev28⟩ : ∃ y : Int32, y = x6 + 1 := ⟨_, rfl⟩
      have h := nm_some h ev28
      refine lv_iinc (v := v28) (lv' := [(6, .int v28), (5, .int x6), (7, .int t0), (0, .ref (q 0)), (1, .int p1), (2, .int p2), (3, .int p3), (4, .int x4)]) hx hb dX4_heal_157 hl (k := 7) rfl (by rw [ev28]; rfl) (by decide) rfl (fun ls hl => ?_)
      refine lv_goto (tgt := 79) hx hb dX4_heal_160 (by decide) ?_
      exact hK79 (up S 0 6 x6) x4 x6 v28 ls _ _ (lv_sub hl [3, 4, 5, 6, 7, 1, 0] rfl) hP hS h
set_option maxHeartbeats 4000000 in
set_option maxRecDepth 100000 in
theorem wk_X4_heal_118 {p : Program} {l : Launch} {e : Env} {s : State} {m : MethodId} {args : Array Value} {below : List Frame} {meth : Method} {c : Code} {D : va_G} {cI cG : ClassId} {q : Nat → Nat} {r : Int32} {S9 : St} {F : Nat} {p1 p2 p3 : Int32} {K79 : St → Int32 → Int32 → Int32 → Option (Int32 × St)} (X : Cx p s m args meth c cX4_heal 8 (some .int) RX4 D cI cG) (hD : ∀ S : St, va_D (AM q) (wM cI cG q S)) (hK79 : ∀ (S : St) (x4 : Int32) (x5 : Int32) (x6 : Int32) (ls : Array Slot) (locs : List Loc) (H : Heap), lv_has ls 8 [(0, .ref (q 0)), (1, .int p1), (2, .int p2), (3, .int p3), (4, .int x4), (5, .int x5), (6, .int x6)] → va_P D vwCl (wM cI cG q S) H → va_S (AM q) s.heap H locs → K79 S x4 x5 x6 = some (r, S9) → W p l e { frames := 6, cells := 0, slots := 0, locals := 140 } s m args below meth c H locs 0 0 (MQ below (rwQ (wM cI cG q) D (AM q) r S9) args s 0 0 (AM q)) (F0 m 79 ls [])) : ∀ (S : St) (x4 : Int32) (x5 : Int32) (x6 : Int32) (ls : Array Slot) (locs : List Loc) (H : Heap), lv_has ls 8 [(0, .ref (q 0)), (1, .int p1), (2, .int p2), (3, .int p3), (4, .int x4), (5, .int x5), (6, .int x6)] → va_P D vwCl (wM cI cG q S) H → va_S (AM q) s.heap H locs → m_X4_heal_118 F p1 p2 p3 K79 S x4 x5 x6 = some (r, S9) → W p l e { frames := 6, cells := 0, slots := 0, locals := 140 } s m args below meth c H locs 0 0 (MQ below (rwQ (wM cI cG q) D (AM q) r S9) args s 0 0 (AM q)) (F0 m 118 ls []) := by
  have hx := X.1
  have hb := X.2.1
  have hA := hD
  intro S x4 x5 x6 ls locs H hl hP hS h
  rw [m_X4_heal_118] at h
  refine lv_iconst (v := 1) hx hb dX4_heal_118 (by decide) ?_
  refine lv_goto (tgt := 123) hx hb dX4_heal_119 (by decide) ?_
  exact wk_X4_heal_123 X hD hK79 S x4 x5 x6 1 ls _ _ (lv_sub hl [0, 1, 2, 3, 4, 5, 6] rfl) hP hS h
set_option maxHeartbeats 4000000 in
set_option maxRecDepth 100000 in
theorem wk_X4_heal_122 {p : Program} {l : Launch} {e : Env} {s : State} {m : MethodId} {args : Array Value} {below : List Frame} {meth : Method} {c : Code} {D : va_G} {cI cG : ClassId} {q : Nat → Nat} {r : Int32} {S9 : St} {F : Nat} {p1 p2 p3 : Int32} {K79 : St → Int32 → Int32 → Int32 → Option (Int32 × St)} (X : Cx p s m args meth c cX4_heal 8 (some .int) RX4 D cI cG) (hD : ∀ S : St, va_D (AM q) (wM cI cG q S)) (hK79 : ∀ (S : St) (x4 : Int32) (x5 : Int32) (x6 : Int32) (ls : Array Slot) (locs : List Loc) (H : Heap), lv_has ls 8 [(0, .ref (q 0)), (1, .int p1), (2, .int p2), (3, .int p3), (4, .int x4), (5, .int x5), (6, .int x6)] → va_P D vwCl (wM cI cG q S) H → va_S (AM q) s.heap H locs → K79 S x4 x5 x6 = some (r, S9) → W p l e { frames := 6, cells := 0, slots := 0, locals := 140 } s m args below meth c H locs 0 0 (MQ below (rwQ (wM cI cG q) D (AM q) r S9) args s 0 0 (AM q)) (F0 m 79 ls [])) : ∀ (S : St) (x4 : Int32) (x5 : Int32) (x6 : Int32) (ls : Array Slot) (locs : List Loc) (H : Heap), lv_has ls 8 [(0, .ref (q 0)), (1, .int p1), (2, .int p2), (3, .int p3), (4, .int x4), (5, .int x5), (6, .int x6)] → va_P D vwCl (wM cI cG q S) H → va_S (AM q) s.heap H locs → m_X4_heal_122 F p1 p2 p3 K79 S x4 x5 x6 = some (r, S9) → W p l e { frames := 6, cells := 0, slots := 0, locals := 140 } s m args below meth c H locs 0 0 (MQ below (rwQ (wM cI cG q) D (AM q) r S9) args s 0 0 (AM q)) (F0 m 122 ls []) := by
  have hx := X.1
  have hb := X.2.1
  have hA := hD
  intro S x4 x5 x6 ls locs H hl hP hS h
  rw [m_X4_heal_122] at h
  refine lv_iconst (v := 0) hx hb dX4_heal_122 (by decide) ?_
  exact wk_X4_heal_123 X hD hK79 S x4 x5 x6 0 ls _ _ (lv_sub hl [0, 1, 2, 3, 4, 5, 6] rfl) hP hS h
set_option maxHeartbeats 4000000 in
set_option maxRecDepth 100000 in
theorem wk_X4_heal_79 {p : Program} {l : Launch} {e : Env} {s : State} {m : MethodId} {args : Array Value} {below : List Frame} {meth : Method} {c : Code} {D : va_G} {cI cG : ClassId} {q : Nat → Nat} {r : Int32} {S9 : St} {F : Nat} {p1 p2 p3 : Int32}  (X : Cx p s m args meth c cX4_heal 8 (some .int) RX4 D cI cG) (hD : ∀ S : St, va_D (AM q) (wM cI cG q S))  : ∀ (n : Nat) (S : St) (x4 : Int32) (x5 : Int32) (x6 : Int32) (ls : Array Slot) (locs : List Loc) (H : Heap), lv_has ls 8 [(0, .ref (q 0)), (1, .int p1), (2, .int p2), (3, .int p3), (4, .int x4), (5, .int x5), (6, .int x6)] → va_P D vwCl (wM cI cG q S) H → va_S (AM q) s.heap H locs → m_X4_heal_79 F p1 p2 p3 n S x4 x5 x6 = some (r, S9) → W p l e { frames := 6, cells := 0, slots := 0, locals := 140 } s m args below meth c H locs 0 0 (MQ below (rwQ (wM cI cG q) D (AM q) r S9) args s 0 0 (AM q)) (F0 m 79 ls []) := by
  have hx := X.1
  have hb := X.2.1
  have hA := hD
  intro n
  induction n with
  | zero =>
    intro S x4 x5 x6 ls locs H hl hP hS h
    exact no_none (show none = some (r, S9) from h)
  | succ n ih =>
    intro S x4 x5 x6 ls locs H hl hP hS h
    rw [m_X4_heal_79] at h
    refine lv_iload hx hb dX4_heal_79 (lv_at hl 6 rfl) ?_
    refine lv_iconst (v := 1) hx hb dX4_heal_81 (by decide) ?_
    refine lv_aload_n hx hb dX4_heal_82 rfl (lv_at hl 0 rfl) ?_
    refine gf_X4_61 X hP dX4_heal_83 ?_
    refine lv_ishl hx hb dX4_heal_86 ?_
    refine lv_icmp_ge (tgt := 163) hx hb dX4_heal_87 (by decide) (fun c14 => ?_) (fun c14 => ?_)
    · have h := tt_some h c14
      refine lv_aload_n hx hb dX4_heal_163 rfl (lv_at hl 0 rfl) ?_
      refine lv_iconst (v := 0) hx hb dX4_heal_164 (by decide) ?_
      refine pf_X4_104 X hP (hD _) hS dX4_heal_165 (fun H locs hP hS => ?_)
      refine lv_iload hx hb dX4_heal_168 (lv_at hl 5 rfl) ?_
      refine lv_if_ge (tgt := 178) hx hb dX4_heal_170 (by decide) (fun c15 => ?_) (fun c15 => ?_)
      · have h := tt_some h c15
        refine lv_iload_n hx hb dX4_heal_178 rfl (lv_at hl 3 rfl) ?_
        refine lv_if_ne (tgt := 187) hx hb dX4_heal_179 (by decide) (fun c16 => ?_) (fun c16 => ?_)
        · have h := ff_some h c16
          refine lv_iload hx hb dX4_heal_187 (lv_at hl 5 rfl) ?_
          obtain ⟨r17, er17, h⟩ := bd_some h
          refine ro_S (As := [.int x5]) (rest := []) X hP hS hl.1 (c_X4_ones l D cI cG _ _ F x5 er17) lk_X4_165 ⟨by decide, by decide⟩ rfl rfl (Nat.le_of_ble_eq_true rfl) dX4_heal_189 ⟨Nat.le_refl _, Nat.le_refl _⟩ (fun locs hS => ?_)
          exact rw_ret X hP hS h dX4_heal_192
        · have h := tt_some h c16
          refine lv_iload hx hb dX4_heal_182 (lv_at hl 5 rfl) ?_
          refine lv_goto (tgt := 192) hx hb dX4_heal_184 (by decide) ?_
          exact rw_ret X hP hS h dX4_heal_192
      · have h := ff_some h c15
        refine lv_bipush (v := (-5 : Int32)) hx hb dX4_heal_173 (by decide) ?_
        refine lv_goto (tgt := 192) hx hb dX4_heal_175 (by decide) ?_
        exact rw_ret X hP hS h dX4_heal_192
    · have h := ff_some h c14
      refine lv_iload hx hb dX4_heal_90 (lv_at hl 6 rfl) ?_
      refine lv_iload hx hb dX4_heal_92 (lv_at hl 4 rfl) ?_
      refine lv_iconst (v := (-1 : Int32)) hx hb dX4_heal_94 (by decide) ?_
      refine lv_ixor hx hb dX4_heal_95 ?_
      refine lv_iand hx hb dX4_heal_96 ?_
      refine lv_if_ne (tgt := 122) hx hb dX4_heal_97 (by decide) (fun c18 => ?_) (fun c18 => ?_)
      · have h := ff_some h c18
        exact wk_X4_heal_122 X hD ih S x4 x5 x6 ls _ _ (lv_sub hl [0, 1, 2, 3, 4, 5, 6] rfl) hP hS h
      · have h := tt_some h c18
        refine lv_iload hx hb dX4_heal_100 (lv_at hl 5 rfl) ?_
        refine lv_if_lt (tgt := 118) hx hb dX4_heal_102 (by decide) (fun c19 => ?_) (fun c19 => ?_)
        · have h := tt_some h c19
          exact wk_X4_heal_118 X hD ih S x4 x5 x6 ls _ _ (lv_sub hl [0, 1, 2, 3, 4, 5, 6] rfl) hP hS h
        · have h := ff_some h c19
          refine lv_iload hx hb dX4_heal_105 (lv_at hl 6 rfl) ?_
          obtain ⟨r20, er20, h⟩ := bd_some h
          refine ro_S (As := [.int x6]) (rest := []) X hP hS hl.1 (c_X4_ones l D cI cG _ _ F x6 er20) lk_X4_165 ⟨by decide, by decide⟩ rfl rfl (Nat.le_of_ble_eq_true rfl) dX4_heal_107 ⟨Nat.le_refl _, Nat.le_refl _⟩ (fun locs hS => ?_)
          refine lv_iload hx hb dX4_heal_110 (lv_at hl 5 rfl) ?_
          obtain ⟨r21, er21, h⟩ := bd_some h
          refine ro_S (As := [.int x5]) (rest := [.int r20]) X hP hS hl.1 (c_X4_ones l D cI cG _ _ F x5 er21) lk_X4_165 ⟨by decide, by decide⟩ rfl rfl (Nat.le_of_ble_eq_true rfl) dX4_heal_112 ⟨Nat.le_refl _, Nat.le_refl _⟩ (fun locs hS => ?_)
          refine lv_icmp_ge (tgt := 122) hx hb dX4_heal_115 (by decide) (fun c22 => ?_) (fun c22 => ?_)
          · have h := tt_some h c22
            exact wk_X4_heal_122 X hD ih S x4 x5 x6 ls _ _ (lv_sub hl [0, 1, 2, 3, 4, 5, 6] rfl) hP hS h
          · have h := ff_some h c22
            exact wk_X4_heal_118 X hD ih S x4 x5 x6 ls _ _ (lv_sub hl [0, 1, 2, 3, 4, 5, 6] rfl) hP hS h
set_option maxHeartbeats 4000000 in
set_option maxRecDepth 100000 in
theorem wk_X4_heal_34 {p : Program} {l : Launch} {e : Env} {s : State} {m : MethodId} {args : Array Value} {below : List Frame} {meth : Method} {c : Code} {D : va_G} {cI cG : ClassId} {q : Nat → Nat} {r : Int32} {S9 : St} {F : Nat} {p1 p2 p3 : Int32}  (X : Cx p s m args meth c cX4_heal 8 (some .int) RX4 D cI cG) (hD : ∀ S : St, va_D (AM q) (wM cI cG q S))  : ∀ (n : Nat) (S : St) (x4 : Int32) (x5 : Int32) (ls : Array Slot) (locs : List Loc) (H : Heap), lv_has ls 8 [(0, .ref (q 0)), (1, .int p1), (2, .int p2), (3, .int p3), (4, .int x4), (5, .int x5)] → va_P D vwCl (wM cI cG q S) H → va_S (AM q) s.heap H locs → m_X4_heal_34 F p1 p2 p3 n S x4 x5 = some (r, S9) → W p l e { frames := 6, cells := 0, slots := 0, locals := 140 } s m args below meth c H locs 0 0 (MQ below (rwQ (wM cI cG q) D (AM q) r S9) args s 0 0 (AM q)) (F0 m 34 ls []) := by
  have hx := X.1
  have hb := X.2.1
  have hA := hD
  intro n
  induction n with
  | zero =>
    intro S x4 x5 ls locs H hl hP hS h
    exact no_none (show none = some (r, S9) from h)
  | succ n ih =>
    intro S x4 x5 ls locs H hl hP hS h
    rw [m_X4_heal_34] at h
    refine lv_iload hx hb dX4_heal_34 (lv_at hl 5 rfl) ?_
    refine lv_aload_n hx hb dX4_heal_36 rfl (lv_at hl 0 rfl) ?_
    refine gf_X4_61 X hP dX4_heal_37 ?_
    refine lv_icmp_ge (tgt := 72) hx hb dX4_heal_40 (by decide) (fun c7 => ?_) (fun c7 => ?_)
    · have h := tt_some h c7
      refine lv_bipush (v := (-6 : Int32)) hx hb dX4_heal_72 (by decide) ?_
      refine lv_istore (lv' := [(5, .int (-6)), (0, .ref (q 0)), (1, .int p1), (2, .int p2), (3, .int p3), (4, .int x4)]) hx hb dX4_heal_74 hl (by decide) rfl (fun ls hl => ?_)
      refine lv_iconst (v := 0) hx hb dX4_heal_76 (by decide) ?_
      refine lv_istore (lv' := [(6, .int 0), (5, .int (-6)), (0, .ref (q 0)), (1, .int p1), (2, .int p2), (3, .int p3), (4, .int x4)]) hx hb dX4_heal_77 hl (by decide) rfl (fun ls hl => ?_)
      exact wk_X4_heal_79 X hD F S x4 (-6) 0 ls _ _ (lv_sub hl [2, 3, 4, 5, 6, 1, 0] rfl) hP hS h
    · have h := ff_some h c7
      refine lv_iload hx hb dX4_heal_43 (lv_at hl 4 rfl) ?_
      refine lv_aload_n hx hb dX4_heal_45 rfl (lv_at hl 0 rfl) ?_
      refine gf_X4_22 X hP dX4_heal_46 ?_
      refine lv_iload hx hb dX4_heal_49 (lv_at hl 5 rfl) ?_
      obtain ⟨hi8, h⟩ := gd_some h
      refine ro_ald X hP 5 wM_5 hi8 dX4_heal_51 ?_
      refine lv_if_le (tgt := 62) hx hb dX4_heal_52 (by decide) (fun c9 => ?_) (fun c9 => ?_)
      · have h := tt_some h c9
        refine lv_iconst (v := 0) hx hb dX4_heal_62 (by decide) ?_
        refine lv_ior hx hb dX4_heal_63 ?_
        refine lv_topi (fun v10 ev10 => ?_)
        have h := nm_some h ev10
        refine lv_istore (lv' := [(4, .int v10), (0, .ref (q 0)), (1, .int p1), (2, .int p2), (3, .int p3), (5, .int x5)]) hx hb dX4_heal_64 hl (by decide) rfl (fun ls hl => ?_)
        obtain ⟨v11, ev11⟩ : ∃ y : Int32, y = x5 + 1 := ⟨_, rfl⟩
        have h := nm_some h ev11
        refine lv_iinc (v := v11) (lv' := [(5, .int v11), (4, .int v10), (0, .ref (q 0)), (1, .int p1), (2, .int p2), (3, .int p3)]) hx hb dX4_heal_66 hl (k := 5) rfl (by rw [ev11]; rfl) (by decide) rfl (fun ls hl => ?_)
        refine lv_goto (tgt := 34) hx hb dX4_heal_69 (by decide) ?_
        exact ih S v10 v11 ls _ _ (lv_sub hl [2, 3, 4, 5, 1, 0] rfl) hP hS h
      · have h := ff_some h c9
        refine lv_iconst (v := 1) hx hb dX4_heal_55 (by decide) ?_
        refine lv_iload hx hb dX4_heal_56 (lv_at hl 5 rfl) ?_
        refine lv_ishl hx hb dX4_heal_58 ?_
        refine lv_goto (tgt := 63) hx hb dX4_heal_59 (by decide) ?_
        refine lv_ior hx hb dX4_heal_63 ?_
        refine lv_topi (fun v12 ev12 => ?_)
        have h := nm_some h ev12
        refine lv_istore (lv' := [(4, .int v12), (0, .ref (q 0)), (1, .int p1), (2, .int p2), (3, .int p3), (5, .int x5)]) hx hb dX4_heal_64 hl (by decide) rfl (fun ls hl => ?_)
        obtain ⟨v13, ev13⟩ : ∃ y : Int32, y = x5 + 1 := ⟨_, rfl⟩
        have h := nm_some h ev13
        refine lv_iinc (v := v13) (lv' := [(5, .int v13), (4, .int v12), (0, .ref (q 0)), (1, .int p1), (2, .int p2), (3, .int p3)]) hx hb dX4_heal_66 hl (k := 5) rfl (by rw [ev13]; rfl) (by decide) rfl (fun ls hl => ?_)
        refine lv_goto (tgt := 34) hx hb dX4_heal_69 (by decide) ?_
        exact ih S v12 v13 ls _ _ (lv_sub hl [2, 3, 4, 5, 1, 0] rfl) hP hS h
set_option maxHeartbeats 4000000 in
set_option maxRecDepth 100000 in
theorem c_X4_heal (l : Launch) (D : va_G) (cI cG : ClassId) (q : Nat → Nat) {S : St} (H : Heap) (F : Nat) (p1 p2 p3 : Int32) (hD : ∀ S : St, va_D (AM q) (wM cI cG q S)) {r : Int32} {S9 : St} (h : m_X4_heal F S p1 p2 p3 = some (r, S9)) : RwM l yX4_heal cX4_heal 8 (some .int) 6 140 [.ref (q 0), .int p1, .int p2, .int p3] D cI cG (wM cI cG q) (AM q) S H r S9 := by
  refine RwM.of (own := RX4) (by decide) rfl (Nat.le_of_ble_eq_true rfl) ?_
  intro p e s m args below meth c ls X hP hS hl0
  have hl : lv_has ls 8 [(0, .ref (q 0)), (1, .int p1), (2, .int p2), (3, .int p3)] := hl0 _ (lv_entry [.ref (q 0), .int p1, .int p2, .int p3] (n := 8) (Nat.le_of_ble_eq_true rfl))
  have hx := X.1
  have hb := X.2.1
  have hA := hD
  rw [m_X4_heal] at h
  refine lv_aload_n hx hb dX4_heal_0 rfl (lv_at hl 0 rfl) ?_
  refine lv_iload_n hx hb dX4_heal_1 rfl (lv_at hl 1 rfl) ?_
  obtain ⟨r1, er1, h⟩ := bd_some h
  refine ro_V (As := [.int p1]) (rest := []) X hP hS hl.1 (c_X4_isSet l D cI cG q S _ p1 er1) lk_X4_162 (rc_X4_X4 X hP) ⟨by decide, by decide⟩ rfl rfl (Nat.le_of_ble_eq_true rfl) dX4_heal_2 ⟨Nat.le_refl _, Nat.le_refl _⟩ (fun locs hS => ?_)
  refine lv_if_eq (tgt := 25) hx hb dX4_heal_5 (by decide) (fun c2 => ?_) (fun c2 => ?_)
  · have h := tt_some h c2
    refine lv_bipush (v := (-2 : Int32)) hx hb dX4_heal_25 (by decide) ?_
    exact rw_ret X hP hS h dX4_heal_27
  · have h := ff_some h c2
    refine lv_iload_n hx hb dX4_heal_8 rfl (lv_at hl 2 rfl) ?_
    obtain ⟨r3, er3, h⟩ := bd_some h
    refine ro_S (As := [.int p2]) (rest := []) X hP hS hl.1 (c_X4_isDay l D cI cG _ _ p2 er3) lk_X4_68 ⟨by decide, by decide⟩ rfl rfl (Nat.le_of_ble_eq_true rfl) dX4_heal_9 ⟨Nat.le_refl _, Nat.le_refl _⟩ (fun locs hS => ?_)
    refine lv_if_eq (tgt := 25) hx hb dX4_heal_12 (by decide) (fun c4 => ?_) (fun c4 => ?_)
    · have h := tt_some h c4
      refine lv_bipush (v := (-2 : Int32)) hx hb dX4_heal_25 (by decide) ?_
      exact rw_ret X hP hS h dX4_heal_27
    · have h := ff_some h c4
      refine lv_iload_n hx hb dX4_heal_15 rfl (lv_at hl 3 rfl) ?_
      refine lv_i2l (v := Int32.toInt64 p3) hx hb dX4_heal_16 rfl ?_
      refine lv_lconst (v := 0) hx hb dX4_heal_17 (by decide) ?_
      refine lv_lconst (v := 1) hx hb dX4_heal_18 (by decide) ?_
      obtain ⟨r5, er5, h⟩ := bd_some h
      refine ro_S (As := [.long (Int32.toInt64 p3), .long 0, .long 1]) (rest := []) X hP hS hl.1 (c_X4_in l D cI cG _ _ (Int32.toInt64 p3) 0 1 er5) lk_X4_55 ⟨by decide, by decide⟩ rfl rfl (Nat.le_of_ble_eq_true rfl) dX4_heal_19 ⟨Nat.le_refl _, Nat.le_refl _⟩ (fun locs hS => ?_)
      refine lv_if_ne (tgt := 28) hx hb dX4_heal_22 (by decide) (fun c6 => ?_) (fun c6 => ?_)
      · have h := ff_some h c6
        refine lv_iconst (v := 0) hx hb dX4_heal_28 (by decide) ?_
        refine lv_istore (lv' := [(4, .int 0), (0, .ref (q 0)), (1, .int p1), (2, .int p2), (3, .int p3)]) hx hb dX4_heal_29 hl (by decide) rfl (fun ls hl => ?_)
        refine lv_iconst (v := 0) hx hb dX4_heal_31 (by decide) ?_
        refine lv_istore (lv' := [(5, .int 0), (4, .int 0), (0, .ref (q 0)), (1, .int p1), (2, .int p2), (3, .int p3)]) hx hb dX4_heal_32 hl (by decide) rfl (fun ls hl => ?_)
        exact wk_X4_heal_34 X hD F S 0 0 ls _ _ (lv_sub hl [2, 3, 4, 5, 1, 0] rfl) hP hS h
      · have h := tt_some h c6
        refine lv_bipush (v := (-2 : Int32)) hx hb dX4_heal_25 (by decide) ?_
        exact rw_ret X hP hS h dX4_heal_27
set_option maxHeartbeats 4000000 in
set_option maxRecDepth 100000 in
theorem wk_X4_hangs_124 {p : Program} {l : Launch} {e : Env} {s : State} {m : MethodId} {args : Array Value} {below : List Frame} {meth : Method} {c : Code} {D : va_G} {cI cG : ClassId} {q : Nat → Nat} {r : Int32} {S9 : St} {F : Nat} {p1 p2 p3 : Int32} {K53 : St → Int32 → Int32 → Int32 → Int32 → Int32 → Int32 → Option (Int32 × St)} (X : Cx p s m args meth c cX4_hangs 11 (some .int) RX4 D cI cG) (hD : ∀ S : St, va_D (AM q) (wM cI cG q S)) (hK53 : ∀ (S : St) (x4 : Int32) (x5 : Int32) (x6 : Int32) (x7 : Int32) (x8 : Int32) (x9 : Int32) (ls : Array Slot) (locs : List Loc) (H : Heap), lv_has ls 11 [(0, .ref (q 0)), (1, .int p1), (3, .int p3), (4, .int x4), (5, .int x5), (6, .int x6), (7, .int x7), (8, .int x8), (9, .int x9)] → va_P D vwCl (wM cI cG q S) H → va_S (AM q) s.heap H locs → K53 S x4 x5 x6 x7 x8 x9 = some (r, S9) → W p l e { frames := 5, cells := 0, slots := 0, locals := 119 } s m args below meth c H locs 0 0 (MQ below (rwQ (wM cI cG q) D (AM q) r S9) args s 0 0 (AM q)) (F0 m 53 ls [])) : ∀ (S : St) (x4 : Int32) (x5 : Int32) (x7 : Int32) (x8 : Int32) (t0 : Int32) (ls : Array Slot) (locs : List Loc) (H : Heap), lv_has ls 11 [(0, .ref (q 0)), (1, .int p1), (3, .int p3), (4, .int x4), (5, .int x5), (7, .int x7), (8, .int x8)] → va_P D vwCl (wM cI cG q S) H → va_S (AM q) s.heap H locs → m_X4_hangs_124 F p1 p2 p3 K53 S x4 x5 x7 x8 t0 = some (r, S9) → W p l e { frames := 5, cells := 0, slots := 0, locals := 119 } s m args below meth c H locs 0 0 (MQ below (rwQ (wM cI cG q) D (AM q) r S9) args s 0 0 (AM q)) (F0 m 124 ls [.int t0]) := by
  have hx := X.1
  have hb := X.2.1
  have hA := hD
  intro S x4 x5 x7 x8 t0 ls locs H hl hP hS h
  rw [m_X4_hangs_124] at h
  refine lv_istore (lv' := [(6, .int t0), (0, .ref (q 0)), (1, .int p1), (3, .int p3), (4, .int x4), (5, .int x5), (7, .int x7), (8, .int x8)]) hx hb dX4_hangs_124 hl (by decide) rfl (fun ls hl => ?_)
  refine lv_iload hx hb dX4_hangs_126 (lv_at hl 7 rfl) ?_
  refine lv_iload_n hx hb dX4_hangs_128 rfl (lv_at hl 3 rfl) ?_
  refine lv_isub hx hb dX4_hangs_129 ?_
  refine lv_iload_n hx hb dX4_hangs_130 rfl (lv_at hl 3 rfl) ?_
  refine lv_iand hx hb dX4_hangs_131 ?_
  refine lv_topi (fun v18 ev18 => ?_)
  have h := nm_some h ev18
  refine lv_istore (lv' := [(8, .int v18), (6, .int t0), (0, .ref (q 0)), (1, .int p1), (3, .int p3), (4, .int x4), (5, .int x5), (7, .int x7)]) hx hb dX4_hangs_132 hl (by decide) rfl (fun ls hl => ?_)
  refine lv_iload hx hb dX4_hangs_134 (lv_at hl 0 rfl) ?_
  refine lv_if_eq (tgt := 143) hx hb dX4_hangs_136 (by decide) (fun c19 => ?_) (fun c19 => ?_)
  · have h := tt_some h c19
    refine lv_iconst (v := 0) hx hb dX4_hangs_143 (by decide) ?_
    refine lv_istore (lv' := [(9, .int 0), (8, .int v18), (6, .int t0), (0, .ref (q 0)), (1, .int p1), (3, .int p3), (4, .int x4), (5, .int x5), (7, .int x7)]) hx hb dX4_hangs_144 hl (by decide) rfl (fun ls hl => ?_)
    refine lv_goto (tgt := 53) hx hb dX4_hangs_146 (by decide) ?_
    exact hK53 S x4 x5 t0 x7 v18 0 ls _ _ (lv_sub hl [3, 4, 5, 6, 7, 2, 8, 1, 0] rfl) hP hS h
  · have h := ff_some h c19
    refine lv_iconst (v := 1) hx hb dX4_hangs_139 (by decide) ?_
    refine lv_goto (tgt := 144) hx hb dX4_hangs_140 (by decide) ?_
    refine lv_istore (lv' := [(9, .int 1), (8, .int v18), (6, .int t0), (0, .ref (q 0)), (1, .int p1), (3, .int p3), (4, .int x4), (5, .int x5), (7, .int x7)]) hx hb dX4_hangs_144 hl (by decide) rfl (fun ls hl => ?_)
    refine lv_goto (tgt := 53) hx hb dX4_hangs_146 (by decide) ?_
    exact hK53 S x4 x5 t0 x7 v18 1 ls _ _ (lv_sub hl [3, 4, 5, 6, 7, 2, 8, 1, 0] rfl) hP hS h
set_option maxHeartbeats 4000000 in
set_option maxRecDepth 100000 in
theorem wk_X4_hangs_123 {p : Program} {l : Launch} {e : Env} {s : State} {m : MethodId} {args : Array Value} {below : List Frame} {meth : Method} {c : Code} {D : va_G} {cI cG : ClassId} {q : Nat → Nat} {r : Int32} {S9 : St} {F : Nat} {p1 p2 p3 : Int32} {K53 : St → Int32 → Int32 → Int32 → Int32 → Int32 → Int32 → Option (Int32 × St)} (X : Cx p s m args meth c cX4_hangs 11 (some .int) RX4 D cI cG) (hD : ∀ S : St, va_D (AM q) (wM cI cG q S)) (hK53 : ∀ (S : St) (x4 : Int32) (x5 : Int32) (x6 : Int32) (x7 : Int32) (x8 : Int32) (x9 : Int32) (ls : Array Slot) (locs : List Loc) (H : Heap), lv_has ls 11 [(0, .ref (q 0)), (1, .int p1), (3, .int p3), (4, .int x4), (5, .int x5), (6, .int x6), (7, .int x7), (8, .int x8), (9, .int x9)] → va_P D vwCl (wM cI cG q S) H → va_S (AM q) s.heap H locs → K53 S x4 x5 x6 x7 x8 x9 = some (r, S9) → W p l e { frames := 5, cells := 0, slots := 0, locals := 119 } s m args below meth c H locs 0 0 (MQ below (rwQ (wM cI cG q) D (AM q) r S9) args s 0 0 (AM q)) (F0 m 53 ls [])) : ∀ (S : St) (x4 : Int32) (x5 : Int32) (x7 : Int32) (x8 : Int32) (ls : Array Slot) (locs : List Loc) (H : Heap), lv_has ls 11 [(0, .ref (q 0)), (1, .int p1), (3, .int p3), (4, .int x4), (5, .int x5), (7, .int x7), (8, .int x8)] → va_P D vwCl (wM cI cG q S) H → va_S (AM q) s.heap H locs → m_X4_hangs_123 F p1 p2 p3 K53 S x4 x5 x7 x8 = some (r, S9) → W p l e { frames := 5, cells := 0, slots := 0, locals := 119 } s m args below meth c H locs 0 0 (MQ below (rwQ (wM cI cG q) D (AM q) r S9) args s 0 0 (AM q)) (F0 m 123 ls []) := by
  have hx := X.1
  have hb := X.2.1
  have hA := hD
  intro S x4 x5 x7 x8 ls locs H hl hP hS h
  rw [m_X4_hangs_123] at h
  refine lv_iconst (v := 0) hx hb dX4_hangs_123 (by decide) ?_
  exact wk_X4_hangs_124 X hD hK53 S x4 x5 x7 x8 0 ls _ _ (lv_sub hl [0, 1, 2, 3, 4, 5, 6] rfl) hP hS h
set_option maxHeartbeats 4000000 in
set_option maxRecDepth 100000 in
theorem wk_X4_hangs_107 {p : Program} {l : Launch} {e : Env} {s : State} {m : MethodId} {args : Array Value} {below : List Frame} {meth : Method} {c : Code} {D : va_G} {cI cG : ClassId} {q : Nat → Nat} {r : Int32} {S9 : St} {F : Nat} {p1 p2 p3 : Int32} {K53 : St → Int32 → Int32 → Int32 → Int32 → Int32 → Int32 → Option (Int32 × St)} (X : Cx p s m args meth c cX4_hangs 11 (some .int) RX4 D cI cG) (hD : ∀ S : St, va_D (AM q) (wM cI cG q S)) (hK53 : ∀ (S : St) (x4 : Int32) (x5 : Int32) (x6 : Int32) (x7 : Int32) (x8 : Int32) (x9 : Int32) (ls : Array Slot) (locs : List Loc) (H : Heap), lv_has ls 11 [(0, .ref (q 0)), (1, .int p1), (3, .int p3), (4, .int x4), (5, .int x5), (6, .int x6), (7, .int x7), (8, .int x8), (9, .int x9)] → va_P D vwCl (wM cI cG q S) H → va_S (AM q) s.heap H locs → K53 S x4 x5 x6 x7 x8 x9 = some (r, S9) → W p l e { frames := 5, cells := 0, slots := 0, locals := 119 } s m args below meth c H locs 0 0 (MQ below (rwQ (wM cI cG q) D (AM q) r S9) args s 0 0 (AM q)) (F0 m 53 ls [])) : ∀ (S : St) (x4 : Int32) (x6 : Int32) (x7 : Int32) (x8 : Int32) (x10 : Int32) (t0 : Int32) (ls : Array Slot) (locs : List Loc) (H : Heap), lv_has ls 11 [(0, .ref (q 0)), (1, .int p1), (3, .int p3), (4, .int x4), (6, .int x6), (7, .int x7), (8, .int x8), (10, .int x10)] → va_P D vwCl (wM cI cG q S) H → va_S (AM q) s.heap H locs → m_X4_hangs_107 F p1 p2 p3 K53 S x4 x6 x7 x8 x10 t0 = some (r, S9) → W p l e { frames := 5, cells := 0, slots := 0, locals := 119 } s m args below meth c H locs 0 0 (MQ below (rwQ (wM cI cG q) D (AM q) r S9) args s 0 0 (AM q)) (F0 m 107 ls [.int t0]) := by
  have hx := X.1
  have hb := X.2.1
  have hA := hD
  intro S x4 x6 x7 x8 x10 t0 ls locs H hl hP hS h
  rw [m_X4_hangs_107] at h
  refine lv_istore (lv' := [(5, .int t0), (0, .ref (q 0)), (1, .int p1), (3, .int p3), (4, .int x4), (6, .int x6), (7, .int x7), (8, .int x8), (10, .int x10)]) hx hb dX4_hangs_107 hl (by decide) rfl (fun ls hl => ?_)
  refine lv_iload hx hb dX4_hangs_109 (lv_at hl 5 rfl) ?_
  refine lv_if_eq (tgt := 123) hx hb dX4_hangs_111 (by decide) (fun c16 => ?_) (fun c16 => ?_)
  · have h := tt_some h c16
    exact wk_X4_hangs_123 X hD hK53 S x4 t0 x7 x8 ls _ _ (lv_sub hl [1, 2, 3, 4, 0, 6, 7] rfl) hP hS h
  · have h := ff_some h c16
    refine lv_iload hx hb dX4_hangs_114 (lv_at hl 8 rfl) ?_
    refine lv_if_eq (tgt := 123) hx hb dX4_hangs_116 (by decide) (fun c17 => ?_) (fun c17 => ?_)
    · have h := tt_some h c17
      exact wk_X4_hangs_123 X hD hK53 S x4 t0 x7 x8 ls _ _ (lv_sub hl [1, 2, 3, 4, 0, 6, 7] rfl) hP hS h
    · have h := ff_some h c17
      refine lv_iconst (v := 1) hx hb dX4_hangs_119 (by decide) ?_
      refine lv_goto (tgt := 124) hx hb dX4_hangs_120 (by decide) ?_
      exact wk_X4_hangs_124 X hD hK53 S x4 t0 x7 x8 1 ls _ _ (lv_sub hl [1, 2, 3, 4, 0, 6, 7] rfl) hP hS h
set_option maxHeartbeats 4000000 in
set_option maxRecDepth 100000 in
theorem wk_X4_hangs_102 {p : Program} {l : Launch} {e : Env} {s : State} {m : MethodId} {args : Array Value} {below : List Frame} {meth : Method} {c : Code} {D : va_G} {cI cG : ClassId} {q : Nat → Nat} {r : Int32} {S9 : St} {F : Nat} {p1 p2 p3 : Int32} {K53 : St → Int32 → Int32 → Int32 → Int32 → Int32 → Int32 → Option (Int32 × St)} (X : Cx p s m args meth c cX4_hangs 11 (some .int) RX4 D cI cG) (hD : ∀ S : St, va_D (AM q) (wM cI cG q S)) (hK53 : ∀ (S : St) (x4 : Int32) (x5 : Int32) (x6 : Int32) (x7 : Int32) (x8 : Int32) (x9 : Int32) (ls : Array Slot) (locs : List Loc) (H : Heap), lv_has ls 11 [(0, .ref (q 0)), (1, .int p1), (3, .int p3), (4, .int x4), (5, .int x5), (6, .int x6), (7, .int x7), (8, .int x8), (9, .int x9)] → va_P D vwCl (wM cI cG q S) H → va_S (AM q) s.heap H locs → K53 S x4 x5 x6 x7 x8 x9 = some (r, S9) → W p l e { frames := 5, cells := 0, slots := 0, locals := 119 } s m args below meth c H locs 0 0 (MQ below (rwQ (wM cI cG q) D (AM q) r S9) args s 0 0 (AM q)) (F0 m 53 ls [])) : ∀ (S : St) (x4 : Int32) (x6 : Int32) (x7 : Int32) (x8 : Int32) (x10 : Int32) (ls : Array Slot) (locs : List Loc) (H : Heap), lv_has ls 11 [(0, .ref (q 0)), (1, .int p1), (3, .int p3), (4, .int x4), (6, .int x6), (7, .int x7), (8, .int x8), (10, .int x10)] → va_P D vwCl (wM cI cG q S) H → va_S (AM q) s.heap H locs → m_X4_hangs_102 F p1 p2 p3 K53 S x4 x6 x7 x8 x10 = some (r, S9) → W p l e { frames := 5, cells := 0, slots := 0, locals := 119 } s m args below meth c H locs 0 0 (MQ below (rwQ (wM cI cG q) D (AM q) r S9) args s 0 0 (AM q)) (F0 m 102 ls []) := by
  have hx := X.1
  have hb := X.2.1
  have hA := hD
  intro S x4 x6 x7 x8 x10 ls locs H hl hP hS h
  rw [m_X4_hangs_102] at h
  refine lv_iconst (v := 1) hx hb dX4_hangs_102 (by decide) ?_
  refine lv_goto (tgt := 107) hx hb dX4_hangs_103 (by decide) ?_
  exact wk_X4_hangs_107 X hD hK53 S x4 x6 x7 x8 x10 1 ls _ _ (lv_sub hl [0, 1, 2, 3, 4, 5, 6, 7] rfl) hP hS h
set_option maxHeartbeats 4000000 in
set_option maxRecDepth 100000 in
theorem wk_X4_hangs_90 {p : Program} {l : Launch} {e : Env} {s : State} {m : MethodId} {args : Array Value} {below : List Frame} {meth : Method} {c : Code} {D : va_G} {cI cG : ClassId} {q : Nat → Nat} {r : Int32} {S9 : St} {F : Nat} {p1 p2 p3 : Int32} {K53 : St → Int32 → Int32 → Int32 → Int32 → Int32 → Int32 → Option (Int32 × St)} (X : Cx p s m args meth c cX4_hangs 11 (some .int) RX4 D cI cG) (hD : ∀ S : St, va_D (AM q) (wM cI cG q S)) (hK53 : ∀ (S : St) (x4 : Int32) (x5 : Int32) (x6 : Int32) (x7 : Int32) (x8 : Int32) (x9 : Int32) (ls : Array Slot) (locs : List Loc) (H : Heap), lv_has ls 11 [(0, .ref (q 0)), (1, .int p1), (3, .int p3), (4, .int x4), (5, .int x5), (6, .int x6), (7, .int x7), (8, .int x8), (9, .int x9)] → va_P D vwCl (wM cI cG q S) H → va_S (AM q) s.heap H locs → K53 S x4 x5 x6 x7 x8 x9 = some (r, S9) → W p l e { frames := 5, cells := 0, slots := 0, locals := 119 } s m args below meth c H locs 0 0 (MQ below (rwQ (wM cI cG q) D (AM q) r S9) args s 0 0 (AM q)) (F0 m 53 ls [])) : ∀ (S : St) (x4 : Int32) (x5 : Int32) (x6 : Int32) (x7 : Int32) (x8 : Int32) (t0 : Int32) (ls : Array Slot) (locs : List Loc) (H : Heap), lv_has ls 11 [(0, .ref (q 0)), (1, .int p1), (3, .int p3), (4, .int x4), (5, .int x5), (6, .int x6), (7, .int x7), (8, .int x8)] → va_P D vwCl (wM cI cG q S) H → va_S (AM q) s.heap H locs → m_X4_hangs_90 F p1 p2 p3 K53 S x4 x5 x6 x7 x8 t0 = some (r, S9) → W p l e { frames := 5, cells := 0, slots := 0, locals := 119 } s m args below meth c H locs 0 0 (MQ below (rwQ (wM cI cG q) D (AM q) r S9) args s 0 0 (AM q)) (F0 m 90 ls [.int t0]) := by
  have hx := X.1
  have hb := X.2.1
  have hA := hD
  intro S x4 x5 x6 x7 x8 t0 ls locs H hl hP hS h
  rw [m_X4_hangs_90] at h
  refine lv_istore (lv' := [(10, .int t0), (0, .ref (q 0)), (1, .int p1), (3, .int p3), (4, .int x4), (5, .int x5), (6, .int x6), (7, .int x7), (8, .int x8)]) hx hb dX4_hangs_90 hl (by decide) rfl (fun ls hl => ?_)
  refine lv_iload hx hb dX4_hangs_92 (lv_at hl 5 rfl) ?_
  refine lv_if_ne (tgt := 102) hx hb dX4_hangs_94 (by decide) (fun c14 => ?_) (fun c14 => ?_)
  · have h := ff_some h c14
    exact wk_X4_hangs_102 X hD hK53 S x4 x6 x7 x8 t0 ls _ _ (lv_sub hl [1, 2, 3, 4, 6, 7, 8, 0] rfl) hP hS h
  · have h := tt_some h c14
    refine lv_iload hx hb dX4_hangs_97 (lv_at hl 0 rfl) ?_
    refine lv_if_eq (tgt := 106) hx hb dX4_hangs_99 (by decide) (fun c15 => ?_) (fun c15 => ?_)
    · have h := tt_some h c15
      refine lv_iconst (v := 0) hx hb dX4_hangs_106 (by decide) ?_
      exact wk_X4_hangs_107 X hD hK53 S x4 x6 x7 x8 t0 0 ls _ _ (lv_sub hl [1, 2, 3, 4, 6, 7, 8, 0] rfl) hP hS h
    · have h := ff_some h c15
      exact wk_X4_hangs_102 X hD hK53 S x4 x6 x7 x8 t0 ls _ _ (lv_sub hl [1, 2, 3, 4, 6, 7, 8, 0] rfl) hP hS h
set_option maxHeartbeats 4000000 in
set_option maxRecDepth 100000 in
theorem wk_X4_hangs_53 {p : Program} {l : Launch} {e : Env} {s : State} {m : MethodId} {args : Array Value} {below : List Frame} {meth : Method} {c : Code} {D : va_G} {cI cG : ClassId} {q : Nat → Nat} {r : Int32} {S9 : St} {F : Nat} {p1 p2 p3 : Int32}  (X : Cx p s m args meth c cX4_hangs 11 (some .int) RX4 D cI cG) (hD : ∀ S : St, va_D (AM q) (wM cI cG q S))  : ∀ (n : Nat) (S : St) (x4 : Int32) (x5 : Int32) (x6 : Int32) (x7 : Int32) (x8 : Int32) (x9 : Int32) (ls : Array Slot) (locs : List Loc) (H : Heap), lv_has ls 11 [(0, .ref (q 0)), (1, .int p1), (3, .int p3), (4, .int x4), (5, .int x5), (6, .int x6), (7, .int x7), (8, .int x8), (9, .int x9)] → va_P D vwCl (wM cI cG q S) H → va_S (AM q) s.heap H locs → m_X4_hangs_53 F p1 p2 p3 n S x4 x5 x6 x7 x8 x9 = some (r, S9) → W p l e { frames := 5, cells := 0, slots := 0, locals := 119 } s m args below meth c H locs 0 0 (MQ below (rwQ (wM cI cG q) D (AM q) r S9) args s 0 0 (AM q)) (F0 m 53 ls []) := by
  have hx := X.1
  have hb := X.2.1
  have hA := hD
  intro n
  induction n with
  | zero =>
    intro S x4 x5 x6 x7 x8 x9 ls locs H hl hP hS h
    exact no_none (show none = some (r, S9) from h)
  | succ n ih =>
    intro S x4 x5 x6 x7 x8 x9 ls locs H hl hP hS h
    rw [m_X4_hangs_53] at h
    refine lv_iload hx hb dX4_hangs_53 (lv_at hl 8 rfl) ?_
    refine lv_if_eq (tgt := 149) hx hb dX4_hangs_55 (by decide) (fun c9 => ?_) (fun c9 => ?_)
    · have h := tt_some h c9
      refine lv_aload_n hx hb dX4_hangs_149 rfl (lv_at hl 0 rfl) ?_
      refine lv_iload hx hb dX4_hangs_150 (lv_at hl 3 rfl) ?_
      refine pf_X4_78 X hP (hD _) hS dX4_hangs_152 (fun H locs hP hS => ?_)
      refine lv_iload hx hb dX4_hangs_155 (lv_at hl 5 rfl) ?_
      refine lv_if_eq (tgt := 164) hx hb dX4_hangs_157 (by decide) (fun c10 => ?_) (fun c10 => ?_)
      · have h := tt_some h c10
        refine lv_iload hx hb dX4_hangs_164 (lv_at hl 4 rfl) ?_
        refine lv_if_eq (tgt := 173) hx hb dX4_hangs_166 (by decide) (fun c11 => ?_) (fun c11 => ?_)
        · have h := tt_some h c11
          refine lv_iconst (v := 0) hx hb dX4_hangs_173 (by decide) ?_
          exact rw_ret X hP hS h dX4_hangs_174
        · have h := ff_some h c11
          refine lv_iconst (v := 1) hx hb dX4_hangs_169 (by decide) ?_
          refine lv_goto (tgt := 174) hx hb dX4_hangs_170 (by decide) ?_
          exact rw_ret X hP hS h dX4_hangs_174
      · have h := ff_some h c10
        refine lv_iconst (v := 2) hx hb dX4_hangs_160 (by decide) ?_
        refine lv_goto (tgt := 174) hx hb dX4_hangs_161 (by decide) ?_
        exact rw_ret X hP hS h dX4_hangs_174
    · have h := ff_some h c9
      refine lv_aload_n hx hb dX4_hangs_58 rfl (lv_at hl 0 rfl) ?_
      refine lv_iload hx hb dX4_hangs_59 (lv_at hl 3 rfl) ?_
      refine lv_iload_n hx hb dX4_hangs_61 rfl (lv_at hl 2 rfl) ?_
      refine lv_iconst (v := (-1 : Int32)) hx hb dX4_hangs_62 (by decide) ?_
      refine lv_ixor hx hb dX4_hangs_63 ?_
      refine lv_iand hx hb dX4_hangs_64 ?_
      refine lv_iload hx hb dX4_hangs_65 (lv_at hl 7 rfl) ?_
      refine lv_ior hx hb dX4_hangs_67 ?_
      refine pf_X4_78 X hP (hD _) hS dX4_hangs_68 (fun H locs hP hS => ?_)
      refine lv_aload_n hx hb dX4_hangs_71 rfl (lv_at hl 0 rfl) ?_
      refine lv_iload hx hb dX4_hangs_72 (lv_at hl 6 rfl) ?_
      obtain ⟨r12, er12, h⟩ := bd_some h
      refine ro_V (As := [.int x7]) (rest := []) X hP hS hl.1 (c_X4_mostOf l D cI cG q (up S 0 0 ((x4 &&& (p3 ^^^ (-1))) ||| x8)) _ F x7 er12) lk_X4_134 (rc_X4_X4 X hP) ⟨by decide, by decide⟩ rfl rfl (Nat.le_of_ble_eq_true rfl) dX4_hangs_74 ⟨Nat.le_refl _, Nat.le_refl _⟩ (fun locs hS => ?_)
      refine lv_iload_n hx hb dX4_hangs_77 rfl (lv_at hl 1 rfl) ?_
      refine lv_ishr hx hb dX4_hangs_78 ?_
      refine lv_iconst (v := 1) hx hb dX4_hangs_79 (by decide) ?_
      refine lv_iand hx hb dX4_hangs_80 ?_
      refine lv_iconst (v := 1) hx hb dX4_hangs_81 (by decide) ?_
      refine lv_icmp_ne (tgt := 89) hx hb dX4_hangs_82 (by decide) (fun c13 => ?_) (fun c13 => ?_)
      · have h := ff_some h c13
        refine lv_iconst (v := 0) hx hb dX4_hangs_89 (by decide) ?_
        exact wk_X4_hangs_90 X hD ih (up S 0 0 ((x4 &&& (p3 ^^^ (-1))) ||| x8)) x4 x5 x6 x7 x8 0 ls _ _ (lv_sub hl [0, 1, 2, 3, 4, 5, 6, 7] rfl) hP hS h
      · have h := tt_some h c13
        refine lv_iconst (v := 1) hx hb dX4_hangs_85 (by decide) ?_
        refine lv_goto (tgt := 90) hx hb dX4_hangs_86 (by decide) ?_
        exact wk_X4_hangs_90 X hD ih (up S 0 0 ((x4 &&& (p3 ^^^ (-1))) ||| x8)) x4 x5 x6 x7 x8 1 ls _ _ (lv_sub hl [0, 1, 2, 3, 4, 5, 6, 7] rfl) hP hS h
set_option maxHeartbeats 4000000 in
set_option maxRecDepth 100000 in
theorem c_X4_hangs (l : Launch) (D : va_G) (cI cG : ClassId) (q : Nat → Nat) {S : St} (H : Heap) (F : Nat) (p1 p2 p3 : Int32) (hD : ∀ S : St, va_D (AM q) (wM cI cG q S)) {r : Int32} {S9 : St} (h : m_X4_hangs F S p1 p2 p3 = some (r, S9)) : RwM l yX4_hangs cX4_hangs 11 (some .int) 5 119 [.ref (q 0), .int p1, .int p2, .int p3] D cI cG (wM cI cG q) (AM q) S H r S9 := by
  refine RwM.of (own := RX4) (by decide) rfl (Nat.le_of_ble_eq_true rfl) ?_
  intro p e s m args below meth c ls X hP hS hl0
  have hl : lv_has ls 11 [(0, .ref (q 0)), (1, .int p1), (2, .int p2), (3, .int p3)] := hl0 _ (lv_entry [.ref (q 0), .int p1, .int p2, .int p3] (n := 11) (Nat.le_of_ble_eq_true rfl))
  have hx := X.1
  have hb := X.2.1
  have hA := hD
  rw [m_X4_hangs] at h
  refine lv_aload_n hx hb dX4_hangs_0 rfl (lv_at hl 0 rfl) ?_
  refine lv_iload_n hx hb dX4_hangs_1 rfl (lv_at hl 1 rfl) ?_
  obtain ⟨r1, er1, h⟩ := bd_some h
  refine ro_V (As := [.int p1]) (rest := []) X hP hS hl.1 (c_X4_isAct l D cI cG q S _ p1 er1) lk_X4_71 (rc_X4_X4 X hP) ⟨by decide, by decide⟩ rfl rfl (Nat.le_of_ble_eq_true rfl) dX4_hangs_2 ⟨Nat.le_refl _, Nat.le_refl _⟩ (fun locs hS => ?_)
  refine lv_if_ne (tgt := 10) hx hb dX4_hangs_5 (by decide) (fun c2 => ?_) (fun c2 => ?_)
  · have h := ff_some h c2
    refine lv_iload_n hx hb dX4_hangs_10 rfl (lv_at hl 2 rfl) ?_
    obtain ⟨r3, er3, h⟩ := bd_some h
    refine ro_S (As := [.int p2]) (rest := []) X hP hS hl.1 (c_X4_isDay l D cI cG _ _ p2 er3) lk_X4_68 ⟨by decide, by decide⟩ rfl rfl (Nat.le_of_ble_eq_true rfl) dX4_hangs_11 ⟨Nat.le_refl _, Nat.le_refl _⟩ (fun locs hS => ?_)
    refine lv_if_eq (tgt := 25) hx hb dX4_hangs_14 (by decide) (fun c4 => ?_) (fun c4 => ?_)
    · have h := tt_some h c4
      refine lv_bipush (v := (-2 : Int32)) hx hb dX4_hangs_25 (by decide) ?_
      exact rw_ret X hP hS h dX4_hangs_27
    · have h := ff_some h c4
      refine lv_aload_n hx hb dX4_hangs_17 rfl (lv_at hl 0 rfl) ?_
      refine lv_iload_n hx hb dX4_hangs_18 rfl (lv_at hl 3 rfl) ?_
      obtain ⟨r5, er5, h⟩ := bd_some h
      refine ro_V (As := [.int p3]) (rest := []) X hP hS hl.1 (c_X4_isSet l D cI cG q S _ p3 er5) lk_X4_162 (rc_X4_X4 X hP) ⟨by decide, by decide⟩ rfl rfl (Nat.le_of_ble_eq_true rfl) dX4_hangs_19 ⟨Nat.le_refl _, Nat.le_refl _⟩ (fun locs hS => ?_)
      refine lv_if_ne (tgt := 28) hx hb dX4_hangs_22 (by decide) (fun c6 => ?_) (fun c6 => ?_)
      · have h := ff_some h c6
        refine lv_aload_n hx hb dX4_hangs_28 rfl (lv_at hl 0 rfl) ?_
        refine gf_X4_78 X hP dX4_hangs_29 ?_
        refine lv_topi (fun v7 ev7 => ?_)
        have h := nm_some h ev7
        refine lv_istore (lv' := [(4, .int v7), (0, .ref (q 0)), (1, .int p1), (2, .int p2), (3, .int p3)]) hx hb dX4_hangs_32 hl (by decide) rfl (fun ls hl => ?_)
        refine lv_iconst (v := 0) hx hb dX4_hangs_34 (by decide) ?_
        refine lv_istore (lv' := [(5, .int 0), (4, .int v7), (0, .ref (q 0)), (1, .int p1), (2, .int p2), (3, .int p3)]) hx hb dX4_hangs_35 hl (by decide) rfl (fun ls hl => ?_)
        refine lv_iconst (v := 1) hx hb dX4_hangs_37 (by decide) ?_
        refine lv_istore (lv' := [(6, .int 1), (5, .int 0), (4, .int v7), (0, .ref (q 0)), (1, .int p1), (2, .int p2), (3, .int p3)]) hx hb dX4_hangs_38 hl (by decide) rfl (fun ls hl => ?_)
        refine lv_aload_n hx hb dX4_hangs_40 rfl (lv_at hl 3 rfl) ?_
        refine lv_iload_n hx hb dX4_hangs_41 rfl (lv_at hl 5 rfl) ?_
        obtain ⟨r8, er8, h⟩ := bd_some h
        refine ro_V (As := [.int p2]) (rest := []) X hP hS hl.1 (c_X4_soundOf l D cI cG q S _ F p2 er8) lk_X4_131 (rc_X4_X4 X hP) ⟨by decide, by decide⟩ rfl rfl (Nat.le_of_ble_eq_true rfl) dX4_hangs_42 ⟨Nat.le_refl _, Nat.le_refl _⟩ (fun locs hS => ?_)
        refine lv_istore (lv' := [(7, .int r8), (6, .int 1), (5, .int 0), (4, .int v7), (0, .ref (q 0)), (1, .int p1), (2, .int p2), (3, .int p3)]) hx hb dX4_hangs_45 hl (by decide) rfl (fun ls hl => ?_)
        refine lv_iconst (v := 0) hx hb dX4_hangs_47 (by decide) ?_
        refine lv_istore (lv' := [(8, .int 0), (7, .int r8), (6, .int 1), (5, .int 0), (4, .int v7), (0, .ref (q 0)), (1, .int p1), (2, .int p2), (3, .int p3)]) hx hb dX4_hangs_48 hl (by decide) rfl (fun ls hl => ?_)
        refine lv_iconst (v := 1) hx hb dX4_hangs_50 (by decide) ?_
        refine lv_istore (lv' := [(9, .int 1), (8, .int 0), (7, .int r8), (6, .int 1), (5, .int 0), (4, .int v7), (0, .ref (q 0)), (1, .int p1), (2, .int p2), (3, .int p3)]) hx hb dX4_hangs_51 hl (by decide) rfl (fun ls hl => ?_)
        exact wk_X4_hangs_53 X hD F S v7 0 1 r8 0 1 ls _ _ (lv_sub hl [6, 7, 9, 5, 4, 3, 2, 1, 0] rfl) hP hS h
      · have h := tt_some h c6
        refine lv_bipush (v := (-2 : Int32)) hx hb dX4_hangs_25 (by decide) ?_
        exact rw_ret X hP hS h dX4_hangs_27
  · have h := tt_some h c2
    refine lv_iconst (v := (-1 : Int32)) hx hb dX4_hangs_8 (by decide) ?_
    exact rw_ret X hP hS h dX4_hangs_9
set_option maxHeartbeats 4000000 in
set_option maxRecDepth 100000 in
theorem c_X4_beside (l : Launch) (D : va_G) (cI cG : ClassId) (q : Nat → Nat) {S : St} (H : Heap) (F : Nat) (p1 : Int32) (hD : ∀ S : St, va_D (AM q) (wM cI cG q S)) {r : Int32} {S9 : St} (h : m_X4_beside F S p1 = some (r, S9)) : RwM l yX4_beside cX4_beside 6 (some .int) 5 119 [.ref (q 0), .int p1] D cI cG (wM cI cG q) (AM q) S H r S9 := by
  refine RwM.of (own := RX4) (by decide) rfl (Nat.le_of_ble_eq_true rfl) ?_
  intro p e s m args below meth c ls X hP hS hl0
  have hl : lv_has ls 6 [(0, .ref (q 0)), (1, .int p1)] := hl0 _ (lv_entry [.ref (q 0), .int p1] (n := 6) (Nat.le_of_ble_eq_true rfl))
  have hx := X.1
  have hb := X.2.1
  have hA := hD
  rw [m_X4_beside] at h
  refine lv_iload_n hx hb dX4_beside_0 rfl (lv_at hl 1 rfl) ?_
  obtain ⟨r1, er1, h⟩ := bd_some h
  refine ro_S (As := [.int p1]) (rest := []) X hP hS hl.1 (c_X4_isDay l D cI cG _ _ p1 er1) lk_X4_68 ⟨by decide, by decide⟩ rfl rfl (Nat.le_of_ble_eq_true rfl) dX4_beside_1 ⟨Nat.le_refl _, Nat.le_refl _⟩ (fun locs hS => ?_)
  refine lv_if_ne (tgt := 10) hx hb dX4_beside_4 (by decide) (fun c2 => ?_) (fun c2 => ?_)
  · have h := ff_some h c2
    refine lv_aload_n hx hb dX4_beside_10 rfl (lv_at hl 0 rfl) ?_
    refine gf_X4_83 X hP dX4_beside_11 ?_
    refine lv_topi (fun v3 ev3 => ?_)
    have h := nm_some h ev3
    refine lv_istore_n (lv' := [(2, .int v3), (0, .ref (q 0)), (1, .int p1)]) hx hb dX4_beside_14 rfl hl (by decide) rfl (fun ls hl => ?_)
    refine lv_aload_n hx hb dX4_beside_15 rfl (lv_at hl 1 rfl) ?_
    refine lv_iload_n hx hb dX4_beside_16 rfl (lv_at hl 2 rfl) ?_
    obtain ⟨r4, er4, h⟩ := bd_some h
    refine ro_V (As := [.int p1]) (rest := []) X hP hS hl.1 (c_X4_soundOf l D cI cG q S _ F p1 er4) lk_X4_131 (rc_X4_X4 X hP) ⟨by decide, by decide⟩ rfl rfl (Nat.le_of_ble_eq_true rfl) dX4_beside_17 ⟨Nat.le_refl _, Nat.le_refl _⟩ (fun locs hS => ?_)
    refine lv_istore_n (lv' := [(3, .int r4), (2, .int v3), (0, .ref (q 0)), (1, .int p1)]) hx hb dX4_beside_20 rfl hl (by decide) rfl (fun ls hl => ?_)
    refine lv_aload_n hx hb dX4_beside_21 rfl (lv_at hl 2 rfl) ?_
    refine lv_iconst (v := 0) hx hb dX4_beside_22 (by decide) ?_
    refine pf_X4_83 X hP (hD _) hS dX4_beside_23 (fun H locs hP hS => ?_)
    refine lv_aload_n hx hb dX4_beside_26 rfl (lv_at hl 2 rfl) ?_
    refine lv_iload_n hx hb dX4_beside_27 rfl (lv_at hl 0 rfl) ?_
    obtain ⟨r5, er5, h⟩ := bd_some h
    refine ro_V (As := [.int r4]) (rest := []) X hP hS hl.1 (c_X4_mostOf l D cI cG q (up S 0 2 0) _ F r4 er5) lk_X4_134 (rc_X4_X4 X hP) ⟨by decide, by decide⟩ rfl rfl (Nat.le_of_ble_eq_true rfl) dX4_beside_28 ⟨Nat.le_refl _, Nat.le_refl _⟩ (fun locs hS => ?_)
    refine lv_istore (lv' := [(4, .int r5), (3, .int r4), (2, .int v3), (0, .ref (q 0)), (1, .int p1)]) hx hb dX4_beside_31 hl (by decide) rfl (fun ls hl => ?_)
    refine lv_aload_n hx hb dX4_beside_33 rfl (lv_at hl 3 rfl) ?_
    refine lv_iconst (v := 1) hx hb dX4_beside_34 (by decide) ?_
    refine pf_X4_83 X hP (hD _) hS dX4_beside_35 (fun H locs hP hS => ?_)
    refine lv_aload_n hx hb dX4_beside_38 rfl (lv_at hl 3 rfl) ?_
    refine lv_iload_n hx hb dX4_beside_39 rfl (lv_at hl 1 rfl) ?_
    obtain ⟨r6, er6, h⟩ := bd_some h
    refine ro_V (As := [.int r4]) (rest := []) X hP hS hl.1 (c_X4_mostOf l D cI cG q (up (up S 0 2 0) 0 2 1) _ F r4 er6) lk_X4_134 (rc_X4_X4 X hP) ⟨by decide, by decide⟩ rfl rfl (Nat.le_of_ble_eq_true rfl) dX4_beside_40 ⟨Nat.le_refl _, Nat.le_refl _⟩ (fun locs hS => ?_)
    refine lv_istore (lv' := [(5, .int r6), (4, .int r5), (3, .int r4), (2, .int v3), (0, .ref (q 0)), (1, .int p1)]) hx hb dX4_beside_43 hl (by decide) rfl (fun ls hl => ?_)
    refine lv_aload_n hx hb dX4_beside_45 rfl (lv_at hl 4 rfl) ?_
    refine lv_iload_n hx hb dX4_beside_46 rfl (lv_at hl 3 rfl) ?_
    refine pf_X4_83 X hP (hD _) hS dX4_beside_47 (fun H locs hP hS => ?_)
    refine lv_iload hx hb dX4_beside_50 (lv_at hl 1 rfl) ?_
    refine lv_iload hx hb dX4_beside_52 (lv_at hl 0 rfl) ?_
    refine lv_ixor hx hb dX4_beside_54 ?_
    exact rw_ret X hP hS h dX4_beside_55
  · have h := tt_some h c2
    refine lv_bipush (v := (-2 : Int32)) hx hb dX4_beside_7 (by decide) ?_
    exact rw_ret X hP hS h dX4_beside_9
