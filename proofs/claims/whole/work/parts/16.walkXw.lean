set_option maxHeartbeats 4000000 in
set_option maxRecDepth 100000 in
theorem c_X0_add (l : Launch) (D : va_G) (cI cG : ClassId) (q : Nat → Nat) {S : St} (H : Heap) (p1 p2 p3 p4 : Int32) (hD : ∀ S : St, va_D (AX q) (wX cI cG q S)) {r : Int32} {S9 : St} (h : m_X0_add S p1 p2 p3 p4 = some (r, S9)) : RwM l yX0_add cX0_add 5 (some .int) 0 0 [.ref (q 1), .int p1, .int p2, .int p3, .int p4] D cI cG (wX cI cG q) (AX q) S H r S9 := by
  refine RwM.of (own := RX0) (by decide) rfl (Nat.le_of_ble_eq_true rfl) ?_
  intro p e s m args below meth c ls X hP hS hl0
  have hl : lv_has ls 5 [(0, .ref (q 1)), (1, .int p1), (2, .int p2), (3, .int p3), (4, .int p4)] := hl0 _ (lv_entry [.ref (q 1), .int p1, .int p2, .int p3, .int p4] (n := 5) (Nat.le_of_ble_eq_true rfl))
  have hx := X.1
  have hb := X.2.1
  have hA := hD
  rw [m_X0_add] at h
  refine lv_aload_n hx hb dX0_add_0 rfl (lv_at hl 0 rfl) ?_
  refine gf_X0_9 X hP dX0_add_1 ?_
  refine lv_aload_n hx hb dX0_add_4 rfl (lv_at hl 0 rfl) ?_
  refine gf_X0_41 X hP dX0_add_5 ?_
  refine lv_iload_n hx hb dX0_add_8 rfl (lv_at hl 1 rfl) ?_
  obtain ⟨hi1, h⟩ := gd_some h
  refine rw_ast X hP (hD _) hS 4 wX_4 sX_4 hi1 dX0_add_9 (fun H locs hP hS => ?_)
  refine lv_aload_n hx hb dX0_add_10 rfl (lv_at hl 0 rfl) ?_
  refine gf_X0_15 X hP dX0_add_11 ?_
  refine lv_aload_n hx hb dX0_add_14 rfl (lv_at hl 0 rfl) ?_
  refine gf_X0_41 X hP dX0_add_15 ?_
  refine W.eq (g2 := F0 m 18 ls [.int (S 1 0), .ref (q 5)]) rfl ?_
  refine lv_iload_n hx hb dX0_add_18 rfl (lv_at hl 2 rfl) ?_
  obtain ⟨hi2, h⟩ := gd_some h
  refine rw_ast X hP (hD _) hS 5 wX_5 sX_5 hi2 dX0_add_19 (fun H locs hP hS => ?_)
  refine lv_aload_n hx hb dX0_add_20 rfl (lv_at hl 0 rfl) ?_
  refine gf_X0_18 X hP dX0_add_21 ?_
  refine lv_aload_n hx hb dX0_add_24 rfl (lv_at hl 0 rfl) ?_
  refine gf_X0_41 X hP dX0_add_25 ?_
  refine W.eq (g2 := F0 m 28 ls [.int (S 1 0), .ref (q 6)]) rfl ?_
  refine lv_iload_n hx hb dX0_add_28 rfl (lv_at hl 3 rfl) ?_
  obtain ⟨hi3, h⟩ := gd_some h
  refine rw_ast X hP (hD _) hS 6 wX_6 sX_6 hi3 dX0_add_29 (fun H locs hP hS => ?_)
  refine lv_aload_n hx hb dX0_add_30 rfl (lv_at hl 0 rfl) ?_
  refine gf_X0_21 X hP dX0_add_31 ?_
  refine lv_aload_n hx hb dX0_add_34 rfl (lv_at hl 0 rfl) ?_
  refine gf_X0_41 X hP dX0_add_35 ?_
  refine W.eq (g2 := F0 m 38 ls [.int (S 1 0), .ref (q 7)]) rfl ?_
  refine lv_iload hx hb dX0_add_38 (lv_at hl 4 rfl) ?_
  obtain ⟨hi4, h⟩ := gd_some h
  refine rw_ast X hP (hD _) hS 7 wX_7 sX_7 hi4 dX0_add_40 (fun H locs hP hS => ?_)
  refine lv_aload_n hx hb dX0_add_41 rfl (lv_at hl 0 rfl) ?_
  refine lv_dup hx hb dX0_add_42 rfl ?_
  refine gf_X0_41 X hP dX0_add_43 ?_
  refine W.eq (g2 := F0 m 46 ls [.int (S 1 0), .ref (q 1)]) rfl ?_
  refine lv_iconst (v := 1) hx hb dX0_add_46 (by decide) ?_
  refine lv_iadd hx hb dX0_add_47 ?_
  refine pf_X0_41 X hP (hD _) hS dX0_add_48 (fun H locs hP hS => ?_)
  refine lv_aload_n hx hb dX0_add_51 rfl (lv_at hl 0 rfl) ?_
  refine gf_X0_41 X hP dX0_add_52 ?_
  refine W.eq (g2 := F0 m 55 ls [.int (((S 1 0) + 1))]) rfl ?_
  refine lv_iconst (v := 1) hx hb dX0_add_55 (by decide) ?_
  refine lv_isub hx hb dX0_add_56 ?_
  exact rw_ret X hP hS h dX0_add_57
set_option maxHeartbeats 4000000 in
set_option maxRecDepth 100000 in
theorem wk_X0_takeText_18 {p : Program} {l : Launch} {e : Env} {s : State} {m : MethodId} {args : Array Value} {below : List Frame} {meth : Method} {c : Code} {D : va_G} {cI cG : ClassId} {q : Nat → Nat} {r : Int32} {S9 : St} {F : Nat} {p1 : Int32}  (X : Cx p s m args meth c cX0_takeText 7 none RX0 D cI cG) (hD : ∀ S : St, va_D (AX q) (wX cI cG q S)) (hr1 : inb p1 12 = true)  : ∀ (n : Nat) (S : St) (x4 : Int32) (x5 : Int32) (ls : Array Slot) (locs : List Loc) (H : Heap), lv_has ls 7 [(0, .ref (q 1)), (1, .int p1), (2, .ref (q 3)), (3, .ref (q (19 + ix p1))), (4, .int x4), (5, .int x5)] → va_P D vwCl (wX cI cG q S) H → va_S (AX q) s.heap H locs → m_X0_takeText_18 F p1 n S x4 x5 = some (r, S9) → W p l e { frames := 1, cells := 0, slots := 0, locals := 21 } s m args below meth c H locs 0 0 (MQ below (rwQv (wX cI cG q) D (AX q) S9) args s 0 0 (AX q)) (F0 m 18 ls []) := by
  have hx := X.1
  have hb := X.2.1
  have hA := hD
  intro n
  induction n with
  | zero =>
    intro S x4 x5 ls locs H hl hP hS h
    exact no_none (show none = some (r, S9) from h)
  | succ n ih =>
    intro S x4 x5 ls locs H hl hP hS h
    rw [m_X0_takeText_18] at h
    refine lv_iload hx hb dX0_takeText_18 (lv_at hl 5 rfl) ?_
    refine lv_aload_n hx hb dX0_takeText_20 rfl (lv_at hl 2 rfl) ?_
    refine gf_X0_49 X hP dX0_takeText_21 ?_
    refine lv_icmp_ge (tgt := 89) hx hb dX0_takeText_24 (by decide) (fun c3 => ?_) (fun c3 => ?_)
    · have h := tt_some h c3
      refine lv_aload_n hx hb dX0_takeText_89 rfl (lv_at hl 0 rfl) ?_
      refine gf_X0_29 X hP dX0_takeText_90 ?_
      refine lv_iload_n hx hb dX0_takeText_93 rfl (lv_at hl 1 rfl) ?_
      refine lv_iload hx hb dX0_takeText_94 (lv_at hl 4 rfl) ?_
      refine lv_iconst (v := 1) hx hb dX0_takeText_96 (by decide) ?_
      refine lv_iadd hx hb dX0_takeText_97 ?_
      obtain ⟨hi4, h⟩ := gd_some h
      refine rw_ast X hP (hD _) hS 9 wX_9 sX_9 hi4 dX0_takeText_98 (fun H locs hP hS => ?_)
      exact rw_retv X hP hS h dX0_takeText_99
    · have h := ff_some h c3
      refine lv_aload_n hx hb dX0_takeText_27 rfl (lv_at hl 2 rfl) ?_
      refine gf_X0_52 X hP dX0_takeText_28 ?_
      refine lv_iload hx hb dX0_takeText_31 (lv_at hl 5 rfl) ?_
      obtain ⟨hi5, h⟩ := gd_some h
      refine ro_ald X hP 14 wX_14 hi5 dX0_takeText_33 ?_
      refine lv_topi (fun v6 ev6 => ?_)
      have h := nm_some h ev6
      refine lv_istore (lv' := [(6, .int v6), (0, .ref (q 1)), (1, .int p1), (2, .ref (q 3)), (3, .ref (q (19 + ix p1))), (4, .int x4), (5, .int x5)]) hx hb dX0_takeText_34 hl (by decide) rfl (fun ls hl => ?_)
      refine lv_iload hx hb dX0_takeText_36 (lv_at hl 0 rfl) ?_
      refine lv_bipush (v := 124) hx hb dX0_takeText_38 (by decide) ?_
      refine lv_icmp_ne (tgt := 62) hx hb dX0_takeText_40 (by decide) (fun c7 => ?_) (fun c7 => ?_)
      · have h := ff_some h c7
        refine lv_iload hx hb dX0_takeText_62 (lv_at hl 0 rfl) ?_
        refine lv_bipush (v := 43) hx hb dX0_takeText_64 (by decide) ?_
        refine lv_icmp_eq (tgt := 83) hx hb dX0_takeText_66 (by decide) (fun c8 => ?_) (fun c8 => ?_)
        · have h := tt_some h c8
          obtain ⟨v9, ev9⟩ : ∃ y : Int32, y = x5 + 1 := ⟨_, rfl⟩
          have h := nm_some h ev9
          refine lv_iinc (v := v9) (lv' := [(5, .int v9), (6, .int v6), (0, .ref (q 1)), (1, .int p1), (2, .ref (q 3)), (3, .ref (q (19 + ix p1))), (4, .int x4)]) hx hb dX0_takeText_83 hl (k := 6) rfl (by rw [ev9]; rfl) (by decide) rfl (fun ls hl => ?_)
          refine lv_goto (tgt := 18) hx hb dX0_takeText_86 (by decide) ?_
          exact ih S x4 v9 ls _ _ (lv_sub hl [2, 3, 4, 5, 6, 0] rfl) hP hS h
        · have h := ff_some h c8
          refine lv_aload_n hx hb dX0_takeText_69 rfl (lv_at hl 4 rfl) ?_
          refine lv_iload hx hb dX0_takeText_70 (lv_at hl 5 rfl) ?_
          refine lv_dup2_11 hx hb dX0_takeText_72 rfl rfl ?_
          obtain ⟨hi10, h⟩ := gd_some h
          refine ro_ald X hP (19 + ix p1) (wX_r19 (inb_lt hr1)) hi10 dX0_takeText_73 ?_
          refine lv_iconst (v := 1) hx hb dX0_takeText_74 (by decide) ?_
          refine lv_iload hx hb dX0_takeText_75 (lv_at hl 0 rfl) ?_
          refine lv_bipush (v := 97) hx hb dX0_takeText_77 (by decide) ?_
          refine lv_isub hx hb dX0_takeText_79 ?_
          refine lv_ishl hx hb dX0_takeText_80 ?_
          refine lv_ior hx hb dX0_takeText_81 ?_
          obtain ⟨hi11, h⟩ := gd_some h
          refine rw_ast X hP (hD _) hS (19 + ix p1) (wX_r19 (inb_lt hr1)) (sX_r19 (inb_lt hr1)) hi11 dX0_takeText_82 (fun H locs hP hS => ?_)
          obtain ⟨v12, ev12⟩ : ∃ y : Int32, y = x5 + 1 := ⟨_, rfl⟩
          have h := nm_some h ev12
          refine lv_iinc (v := v12) (lv' := [(5, .int v12), (6, .int v6), (0, .ref (q 1)), (1, .int p1), (2, .ref (q 3)), (3, .ref (q (19 + ix p1))), (4, .int x4)]) hx hb dX0_takeText_83 hl (k := 6) rfl (by rw [ev12]; rfl) (by decide) rfl (fun ls hl => ?_)
          refine lv_goto (tgt := 18) hx hb dX0_takeText_86 (by decide) ?_
          exact ih (up S (19 + ix p1) (ix x4) ((S (19 + ix p1) (ix x4)) ||| (1 <<< ((v6 - 97) &&& 31)))) x4 v12 ls _ _ (lv_sub hl [2, 3, 4, 5, 6, 0] rfl) hP hS h
      · have h := tt_some h c7
        refine lv_iload hx hb dX0_takeText_43 (lv_at hl 5 rfl) ?_
        refine lv_iconst (v := 1) hx hb dX0_takeText_45 (by decide) ?_
        refine lv_iadd hx hb dX0_takeText_46 ?_
        refine lv_bipush (v := 19) hx hb dX0_takeText_47 (by decide) ?_
        refine va_mmin hx hb (X.2.2.1.trans hl.1.symm) X.2.2.2.2.2.1 (X.2.2.2.2.2.2.1 _ w_ml_X0_55) (X.2.2.2.2.2.2.1 _ w_sta_J9_min_7cf53) (X.2.2.2.2.2.2.1 _ w_ini_J9) (X.2.2.2.2.2.2.1 _ w_co_J9_min_7cf53) (Nat.le_of_ble_eq_true rfl) (Nat.le_of_ble_eq_true rfl) (Nat.zero_le _) (Nat.zero_le _) dX0_takeText_49 ?_
        refine lv_topi (fun v13 ev13 => ?_)
        have h := nm_some h ev13
        refine lv_istore (lv' := [(4, .int v13), (6, .int v6), (0, .ref (q 1)), (1, .int p1), (2, .ref (q 3)), (3, .ref (q (19 + ix p1))), (5, .int x5)]) hx hb dX0_takeText_52 hl (by decide) rfl (fun ls hl => ?_)
        refine lv_aload_n hx hb dX0_takeText_54 rfl (lv_at hl 5 rfl) ?_
        refine lv_iload hx hb dX0_takeText_55 (lv_at hl 0 rfl) ?_
        refine lv_iconst (v := 0) hx hb dX0_takeText_57 (by decide) ?_
        obtain ⟨hi14, h⟩ := gd_some h
        refine rw_ast X hP (hD _) hS (19 + ix p1) (wX_r19 (inb_lt hr1)) (sX_r19 (inb_lt hr1)) hi14 dX0_takeText_58 (fun H locs hP hS => ?_)
        refine lv_goto (tgt := 83) hx hb dX0_takeText_59 (by decide) ?_
        obtain ⟨v15, ev15⟩ : ∃ y : Int32, y = x5 + 1 := ⟨_, rfl⟩
        have h := nm_some h ev15
        refine lv_iinc (v := v15) (lv' := [(5, .int v15), (4, .int v13), (6, .int v6), (0, .ref (q 1)), (1, .int p1), (2, .ref (q 3)), (3, .ref (q (19 + ix p1)))]) hx hb dX0_takeText_83 hl (k := 6) rfl (by rw [ev15]; rfl) (by decide) rfl (fun ls hl => ?_)
        refine lv_goto (tgt := 18) hx hb dX0_takeText_86 (by decide) ?_
        exact ih (up S (19 + ix p1) (ix v13) 0) v13 v15 ls _ _ (lv_sub hl [3, 4, 5, 6, 1, 0] rfl) hP hS h
set_option maxHeartbeats 4000000 in
set_option maxRecDepth 100000 in
theorem c_X0_takeText (l : Launch) (D : va_G) (cI cG : ClassId) (q : Nat → Nat) {S : St} (H : Heap) (F : Nat) (p1 : Int32) (hD : ∀ S : St, va_D (AX q) (wX cI cG q S)) {r : Int32} {S9 : St} (h : m_X0_takeText F S p1 = some (r, S9)) : RwMv l yX0_takeText cX0_takeText 7 none 1 21 [.ref (q 1), .int p1, .ref (q 3)] D cI cG (wX cI cG q) (AX q) S H r S9 := by
  refine RwMv.of (own := RX0) (by decide) rfl (Nat.le_of_ble_eq_true rfl) ?_
  intro p e s m args below meth c ls X hP hS hl0
  have hl : lv_has ls 7 [(0, .ref (q 1)), (1, .int p1), (2, .ref (q 3))] := hl0 _ (lv_entry [.ref (q 1), .int p1, .ref (q 3)] (n := 7) (Nat.le_of_ble_eq_true rfl))
  have hx := X.1
  have hb := X.2.1
  have hA := hD
  rw [m_X0_takeText] at h
  refine lv_aload_n hx hb dX0_takeText_0 rfl (lv_at hl 0 rfl) ?_
  refine gf_X0_32 X hP dX0_takeText_1 ?_
  refine lv_iload_n hx hb dX0_takeText_4 rfl (lv_at hl 1 rfl) ?_
  obtain ⟨hr1, h⟩ := gd_some h
  refine ro_row X hP 10 wX_10 hr1 dX0_takeText_5 ?_
  refine lv_astore_n (lv' := [(3, .ref (q (19 + ix p1))), (0, .ref (q 1)), (1, .int p1), (2, .ref (q 3))]) hx hb dX0_takeText_6 rfl hl (by decide) rfl (fun ls hl => ?_)
  refine lv_iconst (v := 0) hx hb dX0_takeText_7 (by decide) ?_
  refine lv_istore (lv' := [(4, .int 0), (3, .ref (q (19 + ix p1))), (0, .ref (q 1)), (1, .int p1), (2, .ref (q 3))]) hx hb dX0_takeText_8 hl (by decide) rfl (fun ls hl => ?_)
  refine lv_aload_n hx hb dX0_takeText_10 rfl (lv_at hl 1 rfl) ?_
  refine lv_iload hx hb dX0_takeText_11 (lv_at hl 0 rfl) ?_
  refine lv_iconst (v := 0) hx hb dX0_takeText_13 (by decide) ?_
  obtain ⟨hi2, h⟩ := gd_some h
  refine rw_ast X hP (hD _) hS (19 + ix p1) (wX_r19 (inb_lt hr1)) (sX_r19 (inb_lt hr1)) hi2 dX0_takeText_14 (fun H locs hP hS => ?_)
  refine lv_iconst (v := 0) hx hb dX0_takeText_15 (by decide) ?_
  refine lv_istore (lv' := [(5, .int 0), (4, .int 0), (3, .ref (q (19 + ix p1))), (0, .ref (q 1)), (1, .int p1), (2, .ref (q 3))]) hx hb dX0_takeText_16 hl (by decide) rfl (fun ls hl => ?_)
  exact wk_X0_takeText_18 X hD hr1 F (up S (19 + ix p1) (ix 0) 0) 0 0 ls _ _ (lv_sub hl [3, 4, 5, 2, 1, 0] rfl) hP hS h
set_option maxHeartbeats 4000000 in
set_option maxRecDepth 100000 in
theorem c_X1_add (l : Launch) (D : va_G) (cI cG : ClassId) (q : Nat → Nat) {S : St} (H : Heap) (p1 p2 p3 : Int32) (hD : ∀ S : St, va_D (AX q) (wX cI cG q S)) {r : Int32} {S9 : St} (h : m_X1_add S p1 p2 p3 = some (r, S9)) : RwM l yX1_add cX1_add 4 (some .int) 0 0 [.ref (q 2), .int p1, .int p2, .int p3] D cI cG (wX cI cG q) (AX q) S H r S9 := by
  refine RwM.of (own := RX1) (by decide) rfl (Nat.le_of_ble_eq_true rfl) ?_
  intro p e s m args below meth c ls X hP hS hl0
  have hl : lv_has ls 4 [(0, .ref (q 2)), (1, .int p1), (2, .int p2), (3, .int p3)] := hl0 _ (lv_entry [.ref (q 2), .int p1, .int p2, .int p3] (n := 4) (Nat.le_of_ble_eq_true rfl))
  have hx := X.1
  have hb := X.2.1
  have hA := hD
  rw [m_X1_add] at h
  refine lv_aload_n hx hb dX1_add_0 rfl (lv_at hl 0 rfl) ?_
  refine gf_X1_9 X hP dX1_add_1 ?_
  refine lv_aload_n hx hb dX1_add_4 rfl (lv_at hl 0 rfl) ?_
  refine gf_X1_21 X hP dX1_add_5 ?_
  refine lv_iload_n hx hb dX1_add_8 rfl (lv_at hl 1 rfl) ?_
  obtain ⟨hi1, h⟩ := gd_some h
  refine rw_ast X hP (hD _) hS 11 wX_11 sX_11 hi1 dX1_add_9 (fun H locs hP hS => ?_)
  refine lv_aload_n hx hb dX1_add_10 rfl (lv_at hl 0 rfl) ?_
  refine gf_X1_15 X hP dX1_add_11 ?_
  refine lv_aload_n hx hb dX1_add_14 rfl (lv_at hl 0 rfl) ?_
  refine gf_X1_21 X hP dX1_add_15 ?_
  refine W.eq (g2 := F0 m 18 ls [.int (S 2 0), .ref (q 12)]) rfl ?_
  refine lv_iload_n hx hb dX1_add_18 rfl (lv_at hl 2 rfl) ?_
  obtain ⟨hi2, h⟩ := gd_some h
  refine rw_ast X hP (hD _) hS 12 wX_12 sX_12 hi2 dX1_add_19 (fun H locs hP hS => ?_)
  refine lv_aload_n hx hb dX1_add_20 rfl (lv_at hl 0 rfl) ?_
  refine gf_X1_18 X hP dX1_add_21 ?_
  refine lv_aload_n hx hb dX1_add_24 rfl (lv_at hl 0 rfl) ?_
  refine gf_X1_21 X hP dX1_add_25 ?_
  refine W.eq (g2 := F0 m 28 ls [.int (S 2 0), .ref (q 13)]) rfl ?_
  refine lv_iload_n hx hb dX1_add_28 rfl (lv_at hl 3 rfl) ?_
  obtain ⟨hi3, h⟩ := gd_some h
  refine rw_ast X hP (hD _) hS 13 wX_13 sX_13 hi3 dX1_add_29 (fun H locs hP hS => ?_)
  refine lv_aload_n hx hb dX1_add_30 rfl (lv_at hl 0 rfl) ?_
  refine lv_dup hx hb dX1_add_31 rfl ?_
  refine gf_X1_21 X hP dX1_add_32 ?_
  refine W.eq (g2 := F0 m 35 ls [.int (S 2 0), .ref (q 2)]) rfl ?_
  refine lv_iconst (v := 1) hx hb dX1_add_35 (by decide) ?_
  refine lv_iadd hx hb dX1_add_36 ?_
  refine pf_X1_21 X hP (hD _) hS dX1_add_37 (fun H locs hP hS => ?_)
  refine lv_aload_n hx hb dX1_add_40 rfl (lv_at hl 0 rfl) ?_
  refine gf_X1_21 X hP dX1_add_41 ?_
  refine W.eq (g2 := F0 m 44 ls [.int (((S 2 0) + 1))]) rfl ?_
  refine lv_iconst (v := 1) hx hb dX1_add_44 (by decide) ?_
  refine lv_isub hx hb dX1_add_45 ?_
  exact rw_ret X hP hS h dX1_add_46
set_option maxHeartbeats 4000000 in
set_option maxRecDepth 100000 in
theorem c_X2_add (l : Launch) (D : va_G) (cI cG : ClassId) (q : Nat → Nat) {S : St} (H : Heap) (p1 : Int32) (hD : ∀ S : St, va_D (AX q) (wX cI cG q S)) {r : Int32} {S9 : St} (h : m_X2_add S p1 = some (r, S9)) : RwM l yX2_add cX2_add 2 (some .int) 0 0 [.ref (q 3), .int p1] D cI cG (wX cI cG q) (AX q) S H r S9 := by
  refine RwM.of (own := RX2) (by decide) rfl (Nat.le_of_ble_eq_true rfl) ?_
  intro p e s m args below meth c ls X hP hS hl0
  have hl : lv_has ls 2 [(0, .ref (q 3)), (1, .int p1)] := hl0 _ (lv_entry [.ref (q 3), .int p1] (n := 2) (Nat.le_of_ble_eq_true rfl))
  have hx := X.1
  have hb := X.2.1
  have hA := hD
  rw [m_X2_add] at h
  refine lv_aload_n hx hb dX2_add_0 rfl (lv_at hl 0 rfl) ?_
  refine gf_X2_9 X hP dX2_add_1 ?_
  refine lv_aload_n hx hb dX2_add_4 rfl (lv_at hl 0 rfl) ?_
  refine gf_X2_15 X hP dX2_add_5 ?_
  refine lv_iload_n hx hb dX2_add_8 rfl (lv_at hl 1 rfl) ?_
  obtain ⟨hi1, h⟩ := gd_some h
  refine rw_ast X hP (hD _) hS 14 wX_14 sX_14 hi1 dX2_add_9 (fun H locs hP hS => ?_)
  refine lv_aload_n hx hb dX2_add_10 rfl (lv_at hl 0 rfl) ?_
  refine lv_dup hx hb dX2_add_11 rfl ?_
  refine gf_X2_15 X hP dX2_add_12 ?_
  refine W.eq (g2 := F0 m 15 ls [.int (S 3 0), .ref (q 3)]) rfl ?_
  refine lv_iconst (v := 1) hx hb dX2_add_15 (by decide) ?_
  refine lv_iadd hx hb dX2_add_16 ?_
  refine pf_X2_15 X hP (hD _) hS dX2_add_17 (fun H locs hP hS => ?_)
  refine lv_aload_n hx hb dX2_add_20 rfl (lv_at hl 0 rfl) ?_
  refine gf_X2_15 X hP dX2_add_21 ?_
  refine W.eq (g2 := F0 m 24 ls [.int (((S 3 0) + 1))]) rfl ?_
  exact rw_ret X hP hS h dX2_add_24
set_option maxHeartbeats 4000000 in
set_option maxRecDepth 100000 in
theorem c_X2_clear (l : Launch) (D : va_G) (cI cG : ClassId) (q : Nat → Nat) {S : St} (H : Heap)  (hD : ∀ S : St, va_D (AX q) (wX cI cG q S)) {r : Int32} {S9 : St} (h : m_X2_clear S = some (r, S9)) : RwM l yX2_clear cX2_clear 2 (some .int) 0 0 [.ref (q 3)] D cI cG (wX cI cG q) (AX q) S H r S9 := by
  refine RwM.of (own := RX2) (by decide) rfl (Nat.le_of_ble_eq_true rfl) ?_
  intro p e s m args below meth c ls X hP hS hl0
  have hl : lv_has ls 2 [(0, .ref (q 3))] := hl0 _ (lv_entry [.ref (q 3)] (n := 2) (Nat.le_of_ble_eq_true rfl))
  have hx := X.1
  have hb := X.2.1
  have hA := hD
  rw [m_X2_clear] at h
  refine lv_aload_n hx hb dX2_clear_0 rfl (lv_at hl 0 rfl) ?_
  refine gf_X2_15 X hP dX2_clear_1 ?_
  refine lv_topi (fun v1 ev1 => ?_)
  have h := nm_some h ev1
  refine lv_istore_n (lv' := [(1, .int v1), (0, .ref (q 3))]) hx hb dX2_clear_4 rfl hl (by decide) rfl (fun ls hl => ?_)
  refine lv_aload_n hx hb dX2_clear_5 rfl (lv_at hl 1 rfl) ?_
  refine lv_iconst (v := 0) hx hb dX2_clear_6 (by decide) ?_
  refine pf_X2_15 X hP (hD _) hS dX2_clear_7 (fun H locs hP hS => ?_)
  refine lv_iload_n hx hb dX2_clear_10 rfl (lv_at hl 0 rfl) ?_
  exact rw_ret X hP hS h dX2_clear_11
set_option maxHeartbeats 4000000 in
set_option maxRecDepth 100000 in
theorem c_X3_act (l : Launch) (D : va_G) (cI cG : ClassId) (q : Nat → Nat) {S : St} (H : Heap) (p1 p2 p3 p4 : Int32) (hD : ∀ S : St, va_D (AX q) (wX cI cG q S)) {r : Int32} {S9 : St} (h : m_X3_act S p1 p2 p3 p4 = some (r, S9)) : RwM l yX3_act cX3_act 5 (some .int) 2 42 [.ref (q 0), .int p1, .int p2, .int p3, .int p4] D cI cG (wX cI cG q) (AX q) S H r S9 := by
  refine RwM.of (own := RX3) (by decide) rfl (Nat.le_of_ble_eq_true rfl) ?_
  intro p e s m args below meth c ls X hP hS hl0
  have hl : lv_has ls 5 [(0, .ref (q 0)), (1, .int p1), (2, .int p2), (3, .int p3), (4, .int p4)] := hl0 _ (lv_entry [.ref (q 0), .int p1, .int p2, .int p3, .int p4] (n := 5) (Nat.le_of_ble_eq_true rfl))
  have hx := X.1
  have hb := X.2.1
  have hA := hD
  rw [m_X3_act] at h
  refine lv_iload_n hx hb dX3_act_0 rfl (lv_at hl 2 rfl) ?_
  obtain ⟨r1, er1, h⟩ := bd_some h
  refine ro_S (As := [.int p2]) (rest := []) X hP hS hl.1 (c_X3_isWho l D cI cG _ _ p2 er1) lk_X3_37 ⟨by decide, by decide⟩ rfl rfl (Nat.le_of_ble_eq_true rfl) dX3_act_1 ⟨Nat.le_refl _, Nat.le_refl _⟩ (fun locs hS => ?_)
  refine lv_if_eq (tgt := 19) hx hb dX3_act_4 (by decide) (fun c2 => ?_) (fun c2 => ?_)
  · have h := tt_some h c2
    refine lv_iconst (v := (-1 : Int32)) hx hb dX3_act_19 (by decide) ?_
    exact rw_ret X hP hS h dX3_act_20
  · have h := ff_some h c2
    refine lv_iload_n hx hb dX3_act_7 rfl (lv_at hl 3 rfl) ?_
    obtain ⟨r3, er3, h⟩ := bd_some h
    refine ro_S (As := [.int p3]) (rest := []) X hP hS hl.1 (c_X3_isWho l D cI cG _ _ p3 er3) lk_X3_37 ⟨by decide, by decide⟩ rfl rfl (Nat.le_of_ble_eq_true rfl) dX3_act_8 ⟨Nat.le_refl _, Nat.le_refl _⟩ (fun locs hS => ?_)
    refine lv_if_eq (tgt := 19) hx hb dX3_act_11 (by decide) (fun c4 => ?_) (fun c4 => ?_)
    · have h := tt_some h c4
      refine lv_iconst (v := (-1 : Int32)) hx hb dX3_act_19 (by decide) ?_
      exact rw_ret X hP hS h dX3_act_20
    · have h := ff_some h c4
      refine lv_iload_n hx hb dX3_act_14 rfl (lv_at hl 2 rfl) ?_
      refine lv_iload_n hx hb dX3_act_15 rfl (lv_at hl 3 rfl) ?_
      refine lv_icmp_ne (tgt := 21) hx hb dX3_act_16 (by decide) (fun c5 => ?_) (fun c5 => ?_)
      · have h := ff_some h c5
        refine lv_iload_n hx hb dX3_act_21 rfl (lv_at hl 1 rfl) ?_
        obtain ⟨r6, er6, h⟩ := bd_some h
        refine ro_S (As := [.int p1]) (rest := []) X hP hS hl.1 (c_X3_isDay l D cI cG _ _ p1 er6) lk_X3_41 ⟨by decide, by decide⟩ rfl rfl (Nat.le_of_ble_eq_true rfl) dX3_act_22 ⟨Nat.le_refl _, Nat.le_refl _⟩ (fun locs hS => ?_)
        refine lv_if_eq (tgt := 39) hx hb dX3_act_25 (by decide) (fun c7 => ?_) (fun c7 => ?_)
        · have h := tt_some h c7
          refine lv_bipush (v := (-2 : Int32)) hx hb dX3_act_39 (by decide) ?_
          exact rw_ret X hP hS h dX3_act_41
        · have h := ff_some h c7
          refine lv_iload hx hb dX3_act_28 (lv_at hl 4 rfl) ?_
          refine lv_iconst (v := 0) hx hb dX3_act_30 (by decide) ?_
          refine lv_bipush (v := 99) hx hb dX3_act_31 (by decide) ?_
          obtain ⟨r8, er8, h⟩ := bd_some h
          refine ro_S (As := [.int p4, .int 0, .int 99]) (rest := []) X hP hS hl.1 (c_X3_within l D cI cG _ _ p4 0 99 er8) lk_X3_44 ⟨by decide, by decide⟩ rfl rfl (Nat.le_of_ble_eq_true rfl) dX3_act_33 ⟨Nat.le_refl _, Nat.le_refl _⟩ (fun locs hS => ?_)
          refine lv_if_ne (tgt := 42) hx hb dX3_act_36 (by decide) (fun c9 => ?_) (fun c9 => ?_)
          · have h := ff_some h c9
            refine lv_aload_n hx hb dX3_act_42 rfl (lv_at hl 0 rfl) ?_
            refine gf_X3_10 X hP dX3_act_43 ?_
            refine gf_X3_48 X hP dX3_act_46 ?_
            refine lv_bipush (v := 12) hx hb dX3_act_49 (by decide) ?_
            refine lv_icmp_lt (tgt := 57) hx hb dX3_act_51 (by decide) (fun c10 => ?_) (fun c10 => ?_)
            · have h := tt_some h c10
              refine lv_aload_n hx hb dX3_act_57 rfl (lv_at hl 0 rfl) ?_
              refine gf_X3_10 X hP dX3_act_58 ?_
              refine lv_iload_n hx hb dX3_act_61 rfl (lv_at hl 1 rfl) ?_
              refine lv_iload_n hx hb dX3_act_62 rfl (lv_at hl 2 rfl) ?_
              refine lv_iload_n hx hb dX3_act_63 rfl (lv_at hl 3 rfl) ?_
              refine lv_iload hx hb dX3_act_64 (lv_at hl 4 rfl) ?_
              obtain ⟨⟨r11, S12⟩, er11, h⟩ := bd_some h
              refine rw_V (As := [.int p1, .int p2, .int p3, .int p4]) (rest := []) X hP (fun _ h9 => h9) hS hl.1 (c_X0_add l D cI cG q _ p1 p2 p3 p4 hA er11) lk_X3_51 (rc_X3_X0 X hP) ⟨by decide, by decide⟩ rfl rfl (Nat.le_of_ble_eq_true rfl) dX3_act_66 ⟨Nat.le_refl _, Nat.le_refl _⟩ (fun H locs hP hS => ?_)
              exact rw_ret X hP hS h dX3_act_69
            · have h := ff_some h c10
              refine lv_bipush (v := (-4 : Int32)) hx hb dX3_act_54 (by decide) ?_
              exact rw_ret X hP hS h dX3_act_56
          · have h := tt_some h c9
            refine lv_bipush (v := (-2 : Int32)) hx hb dX3_act_39 (by decide) ?_
            exact rw_ret X hP hS h dX3_act_41
      · have h := tt_some h c5
        refine lv_iconst (v := (-1 : Int32)) hx hb dX3_act_19 (by decide) ?_
        exact rw_ret X hP hS h dX3_act_20
set_option maxHeartbeats 4000000 in
set_option maxRecDepth 100000 in
theorem c_X3_set (l : Launch) (D : va_G) (cI cG : ClassId) (q : Nat → Nat) {S : St} (H : Heap) (p1 p2 p3 : Int32) (a1 a2 : Nat) (hD : ∀ S : St, va_D (AX q) (wX cI cG q S)) {r : Int32} {S9 : St} (h : m_X3_set S p1 p2 p3 = some (r, S9)) : RwMs l yX3_set cX3_set 5 (some .int) 1 22 [.ref (q 0), .int p1, .int p2, .int p3] D cI cG (wX cI cG q) (AX q) a1 a2 S H r S9 := by
  refine RwMs.of (own := RX3) (by decide) rfl (Nat.le_of_ble_eq_true rfl) ?_
  intro p e s m args below meth c ls X hP hS hl0 ⟨⟨hZ1, hT1⟩, ⟨hZ2, hT2⟩⟩
  have hl : lv_has ls 5 [(0, .ref (q 0)), (1, .int p1), (2, .int p2), (3, .int p3)] := hl0 _ (lv_entry [.ref (q 0), .int p1, .int p2, .int p3] (n := 5) (Nat.le_of_ble_eq_true rfl))
  have hx := X.1
  have hb := X.2.1
  have hA := hD
  rw [m_X3_set] at h
  refine lv_aload_n hx hb dX3_set_0 rfl (lv_at hl 0 rfl) ?_
  refine gf_X3_10 X hP dX3_set_1 ?_
  refine lv_iload_n hx hb dX3_set_4 rfl (lv_at hl 1 rfl) ?_
  obtain ⟨r1, er1, h⟩ := bd_some h
  refine ro_V (As := [.int p1]) (rest := []) X hP hS hl.1 (c_X0_has l D cI cG q S _ p1 er1) lk_X3_55 (rc_X3_X0 X hP) ⟨by decide, by decide⟩ rfl rfl (Nat.le_of_ble_eq_true rfl) dX3_set_5 ⟨Nat.le_refl _, Nat.le_refl _⟩ (fun locs hS => ?_)
  refine lv_if_ne (tgt := 13) hx hb dX3_set_8 (by decide) (fun c2 => ?_) (fun c2 => ?_)
  · have h := ff_some h c2
    refine lv_iload_n hx hb dX3_set_13 rfl (lv_at hl 2 rfl) ?_
    refine lv_iconst (v := 0) hx hb dX3_set_14 (by decide) ?_
    refine lv_iconst (v := 3) hx hb dX3_set_15 (by decide) ?_
    obtain ⟨r3, er3, h⟩ := bd_some h
    refine ro_S (As := [.int p2, .int 0, .int 3]) (rest := []) X hP hS hl.1 (c_X3_within l D cI cG _ _ p2 0 3 er3) lk_X3_44 ⟨by decide, by decide⟩ rfl rfl (Nat.le_of_ble_eq_true rfl) dX3_set_16 ⟨Nat.le_refl _, Nat.le_refl _⟩ (fun locs hS => ?_)
    refine lv_if_eq (tgt := 39) hx hb dX3_set_19 (by decide) (fun c4 => ?_) (fun c4 => ?_)
    · have h := tt_some h c4
      refine lv_bipush (v := (-2 : Int32)) hx hb dX3_set_39 (by decide) ?_
      exact rw_ret X hP hS h dX3_set_41
    · have h := ff_some h c4
      refine lv_iload_n hx hb dX3_set_22 rfl (lv_at hl 3 rfl) ?_
      refine va_gets hx hb hZ1 hS X.2.2.2.2.2.1 (X.2.2.2.2.2.2.1 _ w_fl_X3_58) (fun _ h9 => h9) dX3_set_23 ?_
      refine lv_iload_n hx hb dX3_set_26 rfl (lv_at hl 2 rfl) ?_
      obtain ⟨hi5, h⟩ := gd_some h
      refine va_ti hx hb hT1 hS (inb_in hi5) rfl dX3_set_27 ?_
      refine va_gets hx hb hZ2 hS X.2.2.2.2.2.1 (X.2.2.2.2.2.2.1 _ w_fl_X3_62) (fun _ h9 => h9) dX3_set_28 ?_
      refine lv_iload_n hx hb dX3_set_31 rfl (lv_at hl 2 rfl) ?_
      obtain ⟨hi6, h⟩ := gd_some h
      refine va_ti hx hb hT2 hS (inb_in hi6) rfl dX3_set_32 ?_
      obtain ⟨r7, er7, h⟩ := bd_some h
      refine ro_S (As := [.int p3, .int (set1 (ix p2)), .int (set2 (ix p2))]) (rest := []) X hP hS hl.1 (c_X3_within l D cI cG _ _ p3 (set1 (ix p2)) (set2 (ix p2)) er7) lk_X3_44 ⟨by decide, by decide⟩ rfl rfl (Nat.le_of_ble_eq_true rfl) dX3_set_33 ⟨Nat.le_refl _, Nat.le_refl _⟩ (fun locs hS => ?_)
      refine lv_if_ne (tgt := 42) hx hb dX3_set_36 (by decide) (fun c8 => ?_) (fun c8 => ?_)
      · have h := ff_some h c8
        refine lv_aload_n hx hb dX3_set_42 rfl (lv_at hl 0 rfl) ?_
        refine gf_X3_10 X hP dX3_set_43 ?_
        refine gf_X3_65 X hP dX3_set_46 ?_
        refine lv_iload_n hx hb dX3_set_49 rfl (lv_at hl 2 rfl) ?_
        obtain ⟨hr9, h⟩ := gd_some h
        refine ro_row X hP 8 wX_8 hr9 dX3_set_50 ?_
        refine lv_iload_n hx hb dX3_set_51 rfl (lv_at hl 1 rfl) ?_
        obtain ⟨hi10, h⟩ := gd_some h
        refine ro_ald X hP (15 + ix p2) (wX_r15 (inb_lt hr9)) hi10 dX3_set_52 ?_
        refine lv_topi (fun v11 ev11 => ?_)
        have h := nm_some h ev11
        refine lv_istore (lv' := [(4, .int v11), (0, .ref (q 0)), (1, .int p1), (2, .int p2), (3, .int p3)]) hx hb dX3_set_53 hl (by decide) rfl (fun ls hl => ?_)
        refine lv_aload_n hx hb dX3_set_55 rfl (lv_at hl 1 rfl) ?_
        refine gf_X3_10 X hP dX3_set_56 ?_
        refine gf_X3_65 X hP dX3_set_59 ?_
        refine lv_iload_n hx hb dX3_set_62 rfl (lv_at hl 3 rfl) ?_
        obtain ⟨hr12, h⟩ := gd_some h
        refine ro_row X hP 8 wX_8 hr12 dX3_set_63 ?_
        refine lv_iload_n hx hb dX3_set_64 rfl (lv_at hl 2 rfl) ?_
        refine lv_iload_n hx hb dX3_set_65 rfl (lv_at hl 4 rfl) ?_
        obtain ⟨hi13, h⟩ := gd_some h
        refine rw_ast X hP (hD _) hS (15 + ix p2) (wX_r15 (inb_lt hr12)) (sX_r15 (inb_lt hr12)) hi13 dX3_set_66 (fun H locs hP hS => ?_)
        refine lv_iload_n hx hb dX3_set_67 rfl (lv_at hl 3 rfl) ?_
        refine lv_iconst (v := 2) hx hb dX3_set_68 (by decide) ?_
        refine lv_icmp_ne (tgt := 83) hx hb dX3_set_69 (by decide) (fun c14 => ?_) (fun c14 => ?_)
        · have h := ff_some h c14
          refine lv_iload hx hb dX3_set_83 (lv_at hl 0 rfl) ?_
          exact rw_ret X hP hS h dX3_set_85
        · have h := tt_some h c14
          refine lv_iload hx hb dX3_set_72 (lv_at hl 0 rfl) ?_
          refine lv_iconst (v := (-1 : Int32)) hx hb dX3_set_74 (by decide) ?_
          refine lv_icmp_ne (tgt := 83) hx hb dX3_set_75 (by decide) (fun c15 => ?_) (fun c15 => ?_)
          · have h := ff_some h c15
            refine lv_iload hx hb dX3_set_83 (lv_at hl 0 rfl) ?_
            exact rw_ret X hP hS h dX3_set_85
          · have h := tt_some h c15
            refine lv_bipush (v := (-6 : Int32)) hx hb dX3_set_78 (by decide) ?_
            refine lv_goto (tgt := 85) hx hb dX3_set_80 (by decide) ?_
            exact rw_ret X hP hS h dX3_set_85
      · have h := tt_some h c8
        refine lv_bipush (v := (-2 : Int32)) hx hb dX3_set_39 (by decide) ?_
        exact rw_ret X hP hS h dX3_set_41
  · have h := tt_some h c2
    refine lv_iconst (v := (-1 : Int32)) hx hb dX3_set_11 (by decide) ?_
    exact rw_ret X hP hS h dX3_set_12
set_option maxHeartbeats 4000000 in
set_option maxRecDepth 100000 in
theorem wk_X3_law_25 {p : Program} {l : Launch} {e : Env} {s : State} {m : MethodId} {args : Array Value} {below : List Frame} {meth : Method} {c : Code} {D : va_G} {cI cG : ClassId} {q : Nat → Nat} {r : Int32} {S9 : St} {p1 p2 : Int32}  (X : Cx p s m args meth c cX3_law 4 (some .int) RX3 D cI cG) (hD : ∀ S : St, va_D (AX q) (wX cI cG q S))  : ∀ (S : St) (ls : Array Slot) (locs : List Loc) (H : Heap), lv_has ls 4 [(0, .ref (q 0)), (1, .int p1), (2, .int p2)] → va_P D vwCl (wX cI cG q S) H → va_S (AX q) s.heap H locs → m_X3_law_25 p1 p2 S = some (r, S9) → W p l e { frames := 1, cells := 0, slots := 0, locals := 22 } s m args below meth c H locs 0 0 (MQ below (rwQ (wX cI cG q) D (AX q) r S9) args s 0 0 (AX q)) (F0 m 25 ls []) := by
  have hx := X.1
  have hb := X.2.1
  have hA := hD
  intro S ls locs H hl hP hS h
  rw [m_X3_law_25] at h
  refine lv_iload_n hx hb dX3_law_25 rfl (lv_at hl 1 rfl) ?_
  refine lv_iconst (v := 1) hx hb dX3_law_26 (by decide) ?_
  refine lv_icmp_ne (tgt := 52) hx hb dX3_law_27 (by decide) (fun c5 => ?_) (fun c5 => ?_)
  · have h := ff_some h c5
    refine lv_bipush (v := (-2 : Int32)) hx hb dX3_law_52 (by decide) ?_
    exact rw_ret X hP hS h dX3_law_54
  · have h := tt_some h c5
    refine lv_iload_n hx hb dX3_law_30 rfl (lv_at hl 2 rfl) ?_
    refine lv_iconst (v := 0) hx hb dX3_law_31 (by decide) ?_
    refine lv_bipush (v := 9) hx hb dX3_law_32 (by decide) ?_
    obtain ⟨r6, er6, h⟩ := bd_some h
    refine ro_S (As := [.int p2, .int 0, .int 9]) (rest := []) X hP hS hl.1 (c_X3_within l D cI cG _ _ p2 0 9 er6) lk_X3_44 ⟨by decide, by decide⟩ rfl rfl (Nat.le_of_ble_eq_true rfl) dX3_law_34 ⟨Nat.le_refl _, Nat.le_refl _⟩ (fun locs hS => ?_)
    refine lv_if_eq (tgt := 52) hx hb dX3_law_37 (by decide) (fun c7 => ?_) (fun c7 => ?_)
    · have h := tt_some h c7
      refine lv_bipush (v := (-2 : Int32)) hx hb dX3_law_52 (by decide) ?_
      exact rw_ret X hP hS h dX3_law_54
    · have h := ff_some h c7
      refine lv_aload_n hx hb dX3_law_40 rfl (lv_at hl 0 rfl) ?_
      refine gf_X3_34 X hP dX3_law_41 ?_
      refine lv_topi (fun v8 ev8 => ?_)
      have h := nm_some h ev8
      refine lv_istore_n (lv' := [(3, .int v8), (0, .ref (q 0)), (1, .int p1), (2, .int p2)]) hx hb dX3_law_44 rfl hl (by decide) rfl (fun ls hl => ?_)
      refine lv_aload_n hx hb dX3_law_45 rfl (lv_at hl 1 rfl) ?_
      refine lv_iload_n hx hb dX3_law_46 rfl (lv_at hl 3 rfl) ?_
      refine pf_X3_34 X hP (hD _) hS dX3_law_47 (fun H locs hP hS => ?_)
      refine lv_iload_n hx hb dX3_law_50 rfl (lv_at hl 0 rfl) ?_
      exact rw_ret X hP hS h dX3_law_51
set_option maxHeartbeats 4000000 in
set_option maxRecDepth 100000 in
theorem c_X3_law (l : Launch) (D : va_G) (cI cG : ClassId) (q : Nat → Nat) {S : St} (H : Heap) (p1 p2 : Int32) (hD : ∀ S : St, va_D (AX q) (wX cI cG q S)) {r : Int32} {S9 : St} (h : m_X3_law S p1 p2 = some (r, S9)) : RwM l yX3_law cX3_law 4 (some .int) 1 22 [.ref (q 0), .int p1, .int p2] D cI cG (wX cI cG q) (AX q) S H r S9 := by
  refine RwM.of (own := RX3) (by decide) rfl (Nat.le_of_ble_eq_true rfl) ?_
  intro p e s m args below meth c ls X hP hS hl0
  have hl : lv_has ls 4 [(0, .ref (q 0)), (1, .int p1), (2, .int p2)] := hl0 _ (lv_entry [.ref (q 0), .int p1, .int p2] (n := 4) (Nat.le_of_ble_eq_true rfl))
  have hx := X.1
  have hb := X.2.1
  have hA := hD
  rw [m_X3_law] at h
  refine lv_iload_n hx hb dX3_law_0 rfl (lv_at hl 1 rfl) ?_
  refine lv_if_ne (tgt := 25) hx hb dX3_law_1 (by decide) (fun c1 => ?_) (fun c1 => ?_)
  · have h := ff_some h c1
    exact wk_X3_law_25 X hD S ls _ _ (lv_sub hl [0, 1, 2] rfl) hP hS h
  · have h := tt_some h c1
    refine lv_iload_n hx hb dX3_law_4 rfl (lv_at hl 2 rfl) ?_
    refine lv_iconst (v := 0) hx hb dX3_law_5 (by decide) ?_
    refine lv_iconst (v := 1) hx hb dX3_law_6 (by decide) ?_
    obtain ⟨r2, er2, h⟩ := bd_some h
    refine ro_S (As := [.int p2, .int 0, .int 1]) (rest := []) X hP hS hl.1 (c_X3_within l D cI cG _ _ p2 0 1 er2) lk_X3_44 ⟨by decide, by decide⟩ rfl rfl (Nat.le_of_ble_eq_true rfl) dX3_law_7 ⟨Nat.le_refl _, Nat.le_refl _⟩ (fun locs hS => ?_)
    refine lv_if_eq (tgt := 25) hx hb dX3_law_10 (by decide) (fun c3 => ?_) (fun c3 => ?_)
    · have h := tt_some h c3
      exact wk_X3_law_25 X hD S ls _ _ (lv_sub hl [0, 1, 2] rfl) hP hS h
    · have h := ff_some h c3
      refine lv_aload_n hx hb dX3_law_13 rfl (lv_at hl 0 rfl) ?_
      refine gf_X3_30 X hP dX3_law_14 ?_
      refine lv_topi (fun v4 ev4 => ?_)
      have h := nm_some h ev4
      refine lv_istore_n (lv' := [(3, .int v4), (0, .ref (q 0)), (1, .int p1), (2, .int p2)]) hx hb dX3_law_17 rfl hl (by decide) rfl (fun ls hl => ?_)
      refine lv_aload_n hx hb dX3_law_18 rfl (lv_at hl 1 rfl) ?_
      refine lv_iload_n hx hb dX3_law_19 rfl (lv_at hl 3 rfl) ?_
      refine pf_X3_30 X hP (hD _) hS dX3_law_20 (fun H locs hP hS => ?_)
      refine lv_iload_n hx hb dX3_law_23 rfl (lv_at hl 0 rfl) ?_
      exact rw_ret X hP hS h dX3_law_24
set_option maxHeartbeats 4000000 in
set_option maxRecDepth 100000 in
theorem c_X3_say (l : Launch) (D : va_G) (cI cG : ClassId) (q : Nat → Nat) {S : St} (H : Heap) (p1 : Int32) (hD : ∀ S : St, va_D (AX q) (wX cI cG q S)) {r : Int32} {S9 : St} (h : m_X3_say S p1 = some (r, S9)) : RwM l yX3_say cX3_say 2 (some .int) 1 22 [.ref (q 0), .int p1] D cI cG (wX cI cG q) (AX q) S H r S9 := by
  refine RwM.of (own := RX3) (by decide) rfl (Nat.le_of_ble_eq_true rfl) ?_
  intro p e s m args below meth c ls X hP hS hl0
  have hl : lv_has ls 2 [(0, .ref (q 0)), (1, .int p1)] := hl0 _ (lv_entry [.ref (q 0), .int p1] (n := 2) (Nat.le_of_ble_eq_true rfl))
  have hx := X.1
  have hb := X.2.1
  have hA := hD
  rw [m_X3_say] at h
  refine lv_iload_n hx hb dX3_say_0 rfl (lv_at hl 1 rfl) ?_
  refine lv_bipush (v := 33) hx hb dX3_say_1 (by decide) ?_
  refine lv_bipush (v := 126) hx hb dX3_say_3 (by decide) ?_
  obtain ⟨r1, er1, h⟩ := bd_some h
  refine ro_S (As := [.int p1, .int 33, .int 126]) (rest := []) X hP hS hl.1 (c_X3_within l D cI cG _ _ p1 33 126 er1) lk_X3_44 ⟨by decide, by decide⟩ rfl rfl (Nat.le_of_ble_eq_true rfl) dX3_say_5 ⟨Nat.le_refl _, Nat.le_refl _⟩ (fun locs hS => ?_)
  refine lv_if_ne (tgt := 14) hx hb dX3_say_8 (by decide) (fun c2 => ?_) (fun c2 => ?_)
  · have h := ff_some h c2
    refine lv_aload_n hx hb dX3_say_14 rfl (lv_at hl 0 rfl) ?_
    refine gf_X3_26 X hP dX3_say_15 ?_
    refine gf_X3_69 X hP dX3_say_18 ?_
    refine lv_bipush (v := 40) hx hb dX3_say_21 (by decide) ?_
    refine lv_icmp_lt (tgt := 29) hx hb dX3_say_23 (by decide) (fun c3 => ?_) (fun c3 => ?_)
    · have h := tt_some h c3
      refine lv_aload_n hx hb dX3_say_29 rfl (lv_at hl 0 rfl) ?_
      refine gf_X3_26 X hP dX3_say_30 ?_
      refine lv_iload_n hx hb dX3_say_33 rfl (lv_at hl 1 rfl) ?_
      obtain ⟨⟨r4, S5⟩, er4, h⟩ := bd_some h
      refine rw_V (As := [.int p1]) (rest := []) X hP (fun _ h9 => h9) hS hl.1 (c_X2_add l D cI cG q _ p1 hA er4) lk_X3_70 (rc_X3_X2 X hP) ⟨by decide, by decide⟩ rfl rfl (Nat.le_of_ble_eq_true rfl) dX3_say_34 ⟨Nat.le_refl _, Nat.le_refl _⟩ (fun H locs hP hS => ?_)
      exact rw_ret X hP hS h dX3_say_37
    · have h := ff_some h c3
      refine lv_bipush (v := (-4 : Int32)) hx hb dX3_say_26 (by decide) ?_
      exact rw_ret X hP hS h dX3_say_28
  · have h := tt_some h c2
    refine lv_bipush (v := (-2 : Int32)) hx hb dX3_say_11 (by decide) ?_
    exact rw_ret X hP hS h dX3_say_13
set_option maxHeartbeats 4000000 in
set_option maxRecDepth 100000 in
theorem c_X3_wipe (l : Launch) (D : va_G) (cI cG : ClassId) (q : Nat → Nat) {S : St} (H : Heap)  (hD : ∀ S : St, va_D (AX q) (wX cI cG q S)) {r : Int32} {S9 : St} (h : m_X3_wipe S = some (r, S9)) : RwM l yX3_wipe cX3_wipe 1 (some .int) 1 21 [.ref (q 0)] D cI cG (wX cI cG q) (AX q) S H r S9 := by
  refine RwM.of (own := RX3) (by decide) rfl (Nat.le_of_ble_eq_true rfl) ?_
  intro p e s m args below meth c ls X hP hS hl0
  have hl : lv_has ls 1 [(0, .ref (q 0))] := hl0 _ (lv_entry [.ref (q 0)] (n := 1) (Nat.le_of_ble_eq_true rfl))
  have hx := X.1
  have hb := X.2.1
  have hA := hD
  rw [m_X3_wipe] at h
  refine lv_aload_n hx hb dX3_wipe_0 rfl (lv_at hl 0 rfl) ?_
  refine gf_X3_26 X hP dX3_wipe_1 ?_
  obtain ⟨⟨r1, S2⟩, er1, h⟩ := bd_some h
  refine rw_V (As := []) (rest := []) X hP (fun _ h9 => h9) hS hl.1 (c_X2_clear l D cI cG q _  hA er1) lk_X3_73 (rc_X3_X2 X hP) ⟨by decide, by decide⟩ rfl rfl (Nat.le_of_ble_eq_true rfl) dX3_wipe_4 ⟨Nat.le_refl _, Nat.le_refl _⟩ (fun H locs hP hS => ?_)
  exact rw_ret X hP hS h dX3_wipe_7
set_option maxHeartbeats 4000000 in
set_option maxRecDepth 100000 in
theorem c_X3_leans (l : Launch) (D : va_G) (cI cG : ClassId) (q : Nat → Nat) {S : St} (H : Heap) (F : Nat) (p1 : Int32) (hD : ∀ S : St, va_D (AX q) (wX cI cG q S)) {r : Int32} {S9 : St} (h : m_X3_leans F S p1 = some (r, S9)) : RwM l yX3_leans cX3_leans 2 (some .int) 3 64 [.ref (q 0), .int p1] D cI cG (wX cI cG q) (AX q) S H r S9 := by
  refine RwM.of (own := RX3) (by decide) rfl (Nat.le_of_ble_eq_true rfl) ?_
  intro p e s m args below meth c ls X hP hS hl0
  have hl : lv_has ls 2 [(0, .ref (q 0)), (1, .int p1)] := hl0 _ (lv_entry [.ref (q 0), .int p1] (n := 2) (Nat.le_of_ble_eq_true rfl))
  have hx := X.1
  have hb := X.2.1
  have hA := hD
  rw [m_X3_leans] at h
  refine lv_aload_n hx hb dX3_leans_0 rfl (lv_at hl 0 rfl) ?_
  refine gf_X3_10 X hP dX3_leans_1 ?_
  refine lv_iload_n hx hb dX3_leans_4 rfl (lv_at hl 1 rfl) ?_
  obtain ⟨r1, er1, h⟩ := bd_some h
  refine ro_V (As := [.int p1]) (rest := []) X hP hS hl.1 (c_X0_has l D cI cG q S _ p1 er1) lk_X3_55 (rc_X3_X0 X hP) ⟨by decide, by decide⟩ rfl rfl (Nat.le_of_ble_eq_true rfl) dX3_leans_5 ⟨Nat.le_refl _, Nat.le_refl _⟩ (fun locs hS => ?_)
  refine lv_if_ne (tgt := 13) hx hb dX3_leans_8 (by decide) (fun c2 => ?_) (fun c2 => ?_)
  · have h := ff_some h c2
    refine lv_aload_n hx hb dX3_leans_13 rfl (lv_at hl 0 rfl) ?_
    refine gf_X3_26 X hP dX3_leans_14 ?_
    obtain ⟨r3, er3, h⟩ := bd_some h
    refine ro_V (As := []) (rest := []) X hP hS hl.1 (c_X2_faultPlace l D cI cG q S _ F er3) lk_X3_77 (rc_X3_X2 X hP) ⟨by decide, by decide⟩ rfl rfl (Nat.le_of_ble_eq_true rfl) dX3_leans_17 ⟨Nat.le_refl _, Nat.le_refl _⟩ (fun locs hS => ?_)
    refine lv_bipush (v := (-6 : Int32)) hx hb dX3_leans_20 (by decide) ?_
    refine lv_icmp_eq (tgt := 28) hx hb dX3_leans_22 (by decide) (fun c4 => ?_) (fun c4 => ?_)
    · have h := tt_some h c4
      refine lv_aload_n hx hb dX3_leans_28 rfl (lv_at hl 0 rfl) ?_
      refine gf_X3_10 X hP dX3_leans_29 ?_
      refine lv_iload_n hx hb dX3_leans_32 rfl (lv_at hl 1 rfl) ?_
      refine lv_aload_n hx hb dX3_leans_33 rfl (lv_at hl 0 rfl) ?_
      refine gf_X3_26 X hP dX3_leans_34 ?_
      obtain ⟨⟨r5, S6⟩, er5, h⟩ := bd_some h
      refine rw_Vv (As := [.int p1, .ref (q 3)]) (rest := []) X hP (fun _ h9 => h9) hS hl.1 (c_X0_takeText l D cI cG q _ F p1 hA er5) lk_X3_80 (rc_X3_X0 X hP) ⟨by decide, by decide⟩ rfl rfl (Nat.le_of_ble_eq_true rfl) dX3_leans_37 ⟨Nat.le_refl _, Nat.le_refl _⟩ (fun H locs hP hS => ?_)
      refine lv_aload_n hx hb dX3_leans_40 rfl (lv_at hl 0 rfl) ?_
      refine gf_X3_26 X hP dX3_leans_41 ?_
      obtain ⟨⟨r7, S8⟩, er7, h⟩ := bd_some h
      refine rw_V (As := []) (rest := []) X hP (fun _ h9 => h9) hS hl.1 (c_X2_clear l D cI cG q _  hA er7) lk_X3_73 (rc_X3_X2 X hP) ⟨by decide, by decide⟩ rfl rfl (Nat.le_of_ble_eq_true rfl) dX3_leans_44 ⟨Nat.le_refl _, Nat.le_refl _⟩ (fun H locs hP hS => ?_)
      refine lv_pop hx hb dX3_leans_47 rfl ?_
      refine lv_aload_n hx hb dX3_leans_48 rfl (lv_at hl 0 rfl) ?_
      refine gf_X3_10 X hP dX3_leans_49 ?_
      refine gf_X3_84 X hP dX3_leans_52 ?_
      refine lv_iload_n hx hb dX3_leans_55 rfl (lv_at hl 1 rfl) ?_
      obtain ⟨hi9, h⟩ := gd_some h
      refine ro_ald X hP 9 wX_9 hi9 dX3_leans_56 ?_
      exact rw_ret X hP hS h dX3_leans_57
    · have h := ff_some h c4
      refine lv_bipush (v := (-5 : Int32)) hx hb dX3_leans_25 (by decide) ?_
      exact rw_ret X hP hS h dX3_leans_27
  · have h := tt_some h c2
    refine lv_iconst (v := (-1 : Int32)) hx hb dX3_leans_11 (by decide) ?_
    exact rw_ret X hP hS h dX3_leans_12
set_option maxHeartbeats 4000000 in
set_option maxRecDepth 100000 in
theorem c_X3_free (l : Launch) (D : va_G) (cI cG : ClassId) (q : Nat → Nat) {S : St} (H : Heap) (p1 : Int32) (hD : ∀ S : St, va_D (AX q) (wX cI cG q S)) {r : Int32} {S9 : St} (h : m_X3_free S p1 = some (r, S9)) : RwM l yX3_free cX3_free 3 (some .int) 1 21 [.ref (q 0), .int p1] D cI cG (wX cI cG q) (AX q) S H r S9 := by
  refine RwM.of (own := RX3) (by decide) rfl (Nat.le_of_ble_eq_true rfl) ?_
  intro p e s m args below meth c ls X hP hS hl0
  have hl : lv_has ls 3 [(0, .ref (q 0)), (1, .int p1)] := hl0 _ (lv_entry [.ref (q 0), .int p1] (n := 3) (Nat.le_of_ble_eq_true rfl))
  have hx := X.1
  have hb := X.2.1
  have hA := hD
  rw [m_X3_free] at h
  refine lv_aload_n hx hb dX3_free_0 rfl (lv_at hl 0 rfl) ?_
  refine gf_X3_10 X hP dX3_free_1 ?_
  refine lv_iload_n hx hb dX3_free_4 rfl (lv_at hl 1 rfl) ?_
  obtain ⟨r1, er1, h⟩ := bd_some h
  refine ro_V (As := [.int p1]) (rest := []) X hP hS hl.1 (c_X0_has l D cI cG q S _ p1 er1) lk_X3_55 (rc_X3_X0 X hP) ⟨by decide, by decide⟩ rfl rfl (Nat.le_of_ble_eq_true rfl) dX3_free_5 ⟨Nat.le_refl _, Nat.le_refl _⟩ (fun locs hS => ?_)
  refine lv_if_ne (tgt := 13) hx hb dX3_free_8 (by decide) (fun c2 => ?_) (fun c2 => ?_)
  · have h := ff_some h c2
    refine lv_aload_n hx hb dX3_free_13 rfl (lv_at hl 0 rfl) ?_
    refine gf_X3_10 X hP dX3_free_14 ?_
    refine gf_X3_84 X hP dX3_free_17 ?_
    refine lv_iload_n hx hb dX3_free_20 rfl (lv_at hl 1 rfl) ?_
    obtain ⟨hi3, h⟩ := gd_some h
    refine ro_ald X hP 9 wX_9 hi3 dX3_free_21 ?_
    refine lv_topi (fun v4 ev4 => ?_)
    have h := nm_some h ev4
    refine lv_istore_n (lv' := [(2, .int v4), (0, .ref (q 0)), (1, .int p1)]) hx hb dX3_free_22 rfl hl (by decide) rfl (fun ls hl => ?_)
    refine lv_aload_n hx hb dX3_free_23 rfl (lv_at hl 1 rfl) ?_
    refine gf_X3_10 X hP dX3_free_24 ?_
    refine gf_X3_84 X hP dX3_free_27 ?_
    refine lv_iload_n hx hb dX3_free_30 rfl (lv_at hl 2 rfl) ?_
    refine lv_iconst (v := 0) hx hb dX3_free_31 (by decide) ?_
    obtain ⟨hi5, h⟩ := gd_some h
    refine rw_ast X hP (hD _) hS 9 wX_9 sX_9 hi5 dX3_free_32 (fun H locs hP hS => ?_)
    refine lv_iload_n hx hb dX3_free_33 rfl (lv_at hl 0 rfl) ?_
    exact rw_ret X hP hS h dX3_free_34
  · have h := tt_some h c2
    refine lv_iconst (v := (-1 : Int32)) hx hb dX3_free_11 (by decide) ?_
    exact rw_ret X hP hS h dX3_free_12
set_option maxHeartbeats 4000000 in
set_option maxRecDepth 100000 in
theorem c_X3_ask (l : Launch) (D : va_G) (cI cG : ClassId) (q : Nat → Nat) {S : St} (H : Heap) (p1 p2 p3 : Int32) (hD : ∀ S : St, va_D (AX q) (wX cI cG q S)) {r : Int32} {S9 : St} (h : m_X3_ask S p1 p2 p3 = some (r, S9)) : RwM l yX3_ask cX3_ask 4 (some .int) 2 42 [.ref (q 0), .int p1, .int p2, .int p3] D cI cG (wX cI cG q) (AX q) S H r S9 := by
  refine RwM.of (own := RX3) (by decide) rfl (Nat.le_of_ble_eq_true rfl) ?_
  intro p e s m args below meth c ls X hP hS hl0
  have hl : lv_has ls 4 [(0, .ref (q 0)), (1, .int p1), (2, .int p2), (3, .int p3)] := hl0 _ (lv_entry [.ref (q 0), .int p1, .int p2, .int p3] (n := 4) (Nat.le_of_ble_eq_true rfl))
  have hx := X.1
  have hb := X.2.1
  have hA := hD
  rw [m_X3_ask] at h
  refine lv_aload_n hx hb dX3_ask_0 rfl (lv_at hl 0 rfl) ?_
  refine gf_X3_10 X hP dX3_ask_1 ?_
  refine lv_iload_n hx hb dX3_ask_4 rfl (lv_at hl 1 rfl) ?_
  obtain ⟨r1, er1, h⟩ := bd_some h
  refine ro_V (As := [.int p1]) (rest := []) X hP hS hl.1 (c_X0_has l D cI cG q S _ p1 er1) lk_X3_55 (rc_X3_X0 X hP) ⟨by decide, by decide⟩ rfl rfl (Nat.le_of_ble_eq_true rfl) dX3_ask_5 ⟨Nat.le_refl _, Nat.le_refl _⟩ (fun locs hS => ?_)
  refine lv_if_eq (tgt := 18) hx hb dX3_ask_8 (by decide) (fun c2 => ?_) (fun c2 => ?_)
  · have h := tt_some h c2
    refine lv_iconst (v := (-1 : Int32)) hx hb dX3_ask_18 (by decide) ?_
    exact rw_ret X hP hS h dX3_ask_19
  · have h := ff_some h c2
    refine lv_iload_n hx hb dX3_ask_11 rfl (lv_at hl 2 rfl) ?_
    obtain ⟨r3, er3, h⟩ := bd_some h
    refine ro_S (As := [.int p2]) (rest := []) X hP hS hl.1 (c_X3_isWho l D cI cG _ _ p2 er3) lk_X3_37 ⟨by decide, by decide⟩ rfl rfl (Nat.le_of_ble_eq_true rfl) dX3_ask_12 ⟨Nat.le_refl _, Nat.le_refl _⟩ (fun locs hS => ?_)
    refine lv_if_ne (tgt := 20) hx hb dX3_ask_15 (by decide) (fun c4 => ?_) (fun c4 => ?_)
    · have h := ff_some h c4
      refine lv_iload_n hx hb dX3_ask_20 rfl (lv_at hl 3 rfl) ?_
      obtain ⟨r5, er5, h⟩ := bd_some h
      refine ro_S (As := [.int p3]) (rest := []) X hP hS hl.1 (c_X3_isDay l D cI cG _ _ p3 er5) lk_X3_41 ⟨by decide, by decide⟩ rfl rfl (Nat.le_of_ble_eq_true rfl) dX3_ask_21 ⟨Nat.le_refl _, Nat.le_refl _⟩ (fun locs hS => ?_)
      refine lv_if_ne (tgt := 30) hx hb dX3_ask_24 (by decide) (fun c6 => ?_) (fun c6 => ?_)
      · have h := ff_some h c6
        refine lv_aload_n hx hb dX3_ask_30 rfl (lv_at hl 0 rfl) ?_
        refine gf_X3_19 X hP dX3_ask_31 ?_
        refine gf_X3_87 X hP dX3_ask_34 ?_
        refine lv_bipush (v := 12) hx hb dX3_ask_37 (by decide) ?_
        refine lv_icmp_lt (tgt := 45) hx hb dX3_ask_39 (by decide) (fun c7 => ?_) (fun c7 => ?_)
        · have h := tt_some h c7
          refine lv_aload_n hx hb dX3_ask_45 rfl (lv_at hl 0 rfl) ?_
          refine gf_X3_19 X hP dX3_ask_46 ?_
          refine lv_iload_n hx hb dX3_ask_49 rfl (lv_at hl 1 rfl) ?_
          refine lv_iload_n hx hb dX3_ask_50 rfl (lv_at hl 2 rfl) ?_
          refine lv_iload_n hx hb dX3_ask_51 rfl (lv_at hl 3 rfl) ?_
          obtain ⟨⟨r8, S9⟩, er8, h⟩ := bd_some h
          refine rw_V (As := [.int p1, .int p2, .int p3]) (rest := []) X hP (fun _ h9 => h9) hS hl.1 (c_X1_add l D cI cG q _ p1 p2 p3 hA er8) lk_X3_88 (rc_X3_X1 X hP) ⟨by decide, by decide⟩ rfl rfl (Nat.le_of_ble_eq_true rfl) dX3_ask_52 ⟨Nat.le_refl _, Nat.le_refl _⟩ (fun H locs hP hS => ?_)
          exact rw_ret X hP hS h dX3_ask_55
        · have h := ff_some h c7
          refine lv_bipush (v := (-4 : Int32)) hx hb dX3_ask_42 (by decide) ?_
          exact rw_ret X hP hS h dX3_ask_44
      · have h := tt_some h c6
        refine lv_bipush (v := (-2 : Int32)) hx hb dX3_ask_27 (by decide) ?_
        exact rw_ret X hP hS h dX3_ask_29
    · have h := tt_some h c4
      refine lv_iconst (v := (-1 : Int32)) hx hb dX3_ask_18 (by decide) ?_
      exact rw_ret X hP hS h dX3_ask_19
set_option maxHeartbeats 4000000 in
set_option maxRecDepth 100000 in
theorem c_X3_drop (l : Launch) (D : va_G) (cI cG : ClassId) (q : Nat → Nat) {S : St} (H : Heap)  (hD : ∀ S : St, va_D (AX q) (wX cI cG q S)) {r : Int32} {S9 : St} (h : m_X3_drop S = some (r, S9)) : RwM l yX3_drop cX3_drop 1 (some .int) 0 0 [.ref (q 0)] D cI cG (wX cI cG q) (AX q) S H r S9 := by
  refine RwM.of (own := RX3) (by decide) rfl (Nat.le_of_ble_eq_true rfl) ?_
  intro p e s m args below meth c ls X hP hS hl0
  have hl : lv_has ls 1 [(0, .ref (q 0))] := hl0 _ (lv_entry [.ref (q 0)] (n := 1) (Nat.le_of_ble_eq_true rfl))
  have hx := X.1
  have hb := X.2.1
  have hA := hD
  rw [m_X3_drop] at h
  refine lv_aload_n hx hb dX3_drop_0 rfl (lv_at hl 0 rfl) ?_
  refine gf_X3_19 X hP dX3_drop_1 ?_
  refine gf_X3_87 X hP dX3_drop_4 ?_
  refine lv_if_ne (tgt := 13) hx hb dX3_drop_7 (by decide) (fun c1 => ?_) (fun c1 => ?_)
  · have h := ff_some h c1
    refine lv_aload_n hx hb dX3_drop_13 rfl (lv_at hl 0 rfl) ?_
    refine gf_X3_19 X hP dX3_drop_14 ?_
    refine lv_dup hx hb dX3_drop_17 rfl ?_
    refine gf_X3_87 X hP dX3_drop_18 ?_
    refine lv_iconst (v := 1) hx hb dX3_drop_21 (by decide) ?_
    refine lv_isub hx hb dX3_drop_22 ?_
    refine pf_X3_87 X hP (hD _) hS dX3_drop_23 (fun H locs hP hS => ?_)
    refine lv_aload_n hx hb dX3_drop_26 rfl (lv_at hl 0 rfl) ?_
    refine gf_X3_19 X hP dX3_drop_27 ?_
    refine gf_X3_87 X hP dX3_drop_30 ?_
    refine W.eq (g2 := F0 m 33 ls [.int (((S 2 0) - 1))]) rfl ?_
    exact rw_ret X hP hS h dX3_drop_33
  · have h := tt_some h c1
    refine lv_bipush (v := (-5 : Int32)) hx hb dX3_drop_10 (by decide) ?_
    exact rw_ret X hP hS h dX3_drop_12
