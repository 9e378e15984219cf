set_option maxHeartbeats 4000000 in
set_option maxRecDepth 100000 in
theorem c_X3_fault (l : Launch) (D : va_G) (cI cG : ClassId) (q : Nat → Nat) (S : St) (H : Heap) (F : Nat) {r : Int32} (h : m_X3_fault F S = some r) : RoM l yX3_fault cX3_fault 1 (some .int) 3 64 [.ref (q 0)] D cI cG (wX cI cG q S) H r := by
  refine RoM.of (own := RX3) (by decide) rfl (Nat.le_of_ble_eq_true rfl) ?_
  intro p e s m args below meth c ls X hP hS hl0
  have hl : lv_has ls 1 [(0, .ref (q 0))] := hl0 _ (lv_entry [.ref (q 0)] (n := 1) (Nat.le_of_ble_eq_true rfl))
  have hx := X.1
  have hb := X.2.1
  rw [m_X3_fault] at h
  refine lv_aload_n hx hb dX3_fault_0 rfl (lv_at hl 0 rfl) ?_
  refine gf_X3_26 X hP dX3_fault_1 ?_
  obtain ⟨r1, er1, h⟩ := bd_some h
  refine ro_V (As := []) (rest := []) X hP hS hl.1 (c_X2_faultPlace l D cI cG q S _ F er1) lk_X3_77 (rc_X3_X2 X hP) ⟨by decide, by decide⟩ rfl rfl (Nat.le_of_ble_eq_true rfl) dX3_fault_4 ⟨Nat.le_refl _, Nat.le_refl _⟩ (fun locs hS => ?_)
  exact ro_ret X hS h dX3_fault_7
set_option maxHeartbeats 4000000 in
set_option maxRecDepth 100000 in
theorem c_X3_counts (l : Launch) (D : va_G) (cI cG : ClassId) (q : Nat → Nat) (S : St) (H : Heap) (p1 : Int32) {r : Int32} (h : m_X3_counts S p1 = some r) : RoM l yX3_counts cX3_counts 2 (some .int) 4 90 [.ref (q 0), .int p1] D cI cG (wX cI cG q S) H r := by
  refine RoM.of (own := RX3) (by decide) rfl (Nat.le_of_ble_eq_true rfl) ?_
  intro p e s m args below meth c ls X hP hS hl0
  have hl : lv_has ls 2 [(0, .ref (q 0)), (1, .int p1)] := hl0 _ (lv_entry [.ref (q 0), .int p1] (n := 2) (Nat.le_of_ble_eq_true rfl))
  have hx := X.1
  have hb := X.2.1
  rw [m_X3_counts] at h
  refine lv_iload_n hx hb dX3_counts_0 rfl (lv_at hl 1 rfl) ?_
  refine lv_if_lt (tgt := 15) hx hb dX3_counts_1 (by decide) (fun c1 => ?_) (fun c1 => ?_)
  · have h := tt_some h c1
    refine lv_iconst (v := (-1 : Int32)) hx hb dX3_counts_15 (by decide) ?_
    exact ro_ret X hS h dX3_counts_16
  · have h := ff_some h c1
    refine lv_iload_n hx hb dX3_counts_4 rfl (lv_at hl 1 rfl) ?_
    refine lv_aload_n hx hb dX3_counts_5 rfl (lv_at hl 0 rfl) ?_
    refine gf_X3_19 X hP dX3_counts_6 ?_
    refine gf_X3_87 X hP dX3_counts_9 ?_
    refine lv_icmp_lt (tgt := 17) hx hb dX3_counts_12 (by decide) (fun c2 => ?_) (fun c2 => ?_)
    · have h := tt_some h c2
      refine lv_aload_n hx hb dX3_counts_17 rfl (lv_at hl 0 rfl) ?_
      refine gf_X3_19 X hP dX3_counts_18 ?_
      refine lv_iload_n hx hb dX3_counts_21 rfl (lv_at hl 1 rfl) ?_
      refine lv_aload_n hx hb dX3_counts_22 rfl (lv_at hl 0 rfl) ?_
      refine gf_X3_10 X hP dX3_counts_23 ?_
      obtain ⟨r3, er3, h⟩ := bd_some h
      refine ro_V (As := [.int p1, .ref (q 1)]) (rest := []) X hP hS hl.1 (c_X1_isCounted l D cI cG q S _ p1 er3) lk_X3_91 (rc_X3_X1 X hP) ⟨by decide, by decide⟩ rfl rfl (Nat.le_of_ble_eq_true rfl) dX3_counts_26 ⟨Nat.le_refl _, Nat.le_refl _⟩ (fun locs hS => ?_)
      refine lv_if_eq (tgt := 36) hx hb dX3_counts_29 (by decide) (fun c4 => ?_) (fun c4 => ?_)
      · have h := tt_some h c4
        refine lv_iconst (v := 0) hx hb dX3_counts_36 (by decide) ?_
        exact ro_ret X hS h dX3_counts_37
      · have h := ff_some h c4
        refine lv_iconst (v := 1) hx hb dX3_counts_32 (by decide) ?_
        refine lv_goto (tgt := 37) hx hb dX3_counts_33 (by decide) ?_
        exact ro_ret X hS h dX3_counts_37
    · have h := ff_some h c2
      refine lv_iconst (v := (-1 : Int32)) hx hb dX3_counts_15 (by decide) ?_
      exact ro_ret X hS h dX3_counts_16
set_option maxHeartbeats 4000000 in
set_option maxRecDepth 100000 in
theorem c_X3_soundOn (l : Launch) (D : va_G) (cI cG : ClassId) (q : Nat → Nat) (S : St) (H : Heap) (F : Nat) (p1 : Int32) {r : Int32} (h : m_X3_soundOn F S p1 = some r) : RoM l yX3_soundOn cX3_soundOn 2 (some .int) 5 114 [.ref (q 0), .int p1] D cI cG (wX cI cG q S) H r := by
  refine RoM.of (own := RX3) (by decide) rfl (Nat.le_of_ble_eq_true rfl) ?_
  intro p e s m args below meth c ls X hP hS hl0
  have hl : lv_has ls 2 [(0, .ref (q 0)), (1, .int p1)] := hl0 _ (lv_entry [.ref (q 0), .int p1] (n := 2) (Nat.le_of_ble_eq_true rfl))
  have hx := X.1
  have hb := X.2.1
  rw [m_X3_soundOn] at h
  refine lv_aload_n hx hb dX3_soundOn_0 rfl (lv_at hl 0 rfl) ?_
  refine gf_X3_10 X hP dX3_soundOn_1 ?_
  refine lv_iload_n hx hb dX3_soundOn_4 rfl (lv_at hl 1 rfl) ?_
  obtain ⟨r1, er1, h⟩ := bd_some h
  refine ro_V (As := [.int p1]) (rest := []) X hP hS hl.1 (c_X0_unhurtOn l D cI cG q S _ F p1 er1) lk_X3_177 (rc_X3_X0 X hP) ⟨by decide, by decide⟩ rfl rfl (Nat.le_of_ble_eq_true rfl) dX3_soundOn_5 ⟨Nat.le_refl _, Nat.le_refl _⟩ (fun locs hS => ?_)
  refine lv_aload_n hx hb dX3_soundOn_8 rfl (lv_at hl 0 rfl) ?_
  refine gf_X3_19 X hP dX3_soundOn_9 ?_
  refine lv_iload_n hx hb dX3_soundOn_12 rfl (lv_at hl 1 rfl) ?_
  refine lv_aload_n hx hb dX3_soundOn_13 rfl (lv_at hl 0 rfl) ?_
  refine gf_X3_10 X hP dX3_soundOn_14 ?_
  obtain ⟨r2, er2, h⟩ := bd_some h
  refine ro_V (As := [.int p1, .ref (q 1)]) (rest := [.int r1]) X hP hS hl.1 (c_X1_struckBy l D cI cG q S _ F p1 er2) lk_X3_180 (rc_X3_X1 X hP) ⟨by decide, by decide⟩ rfl rfl (Nat.le_of_ble_eq_true rfl) dX3_soundOn_17 ⟨Nat.le_refl _, Nat.le_refl _⟩ (fun locs hS => ?_)
  refine lv_iconst (v := (-1 : Int32)) hx hb dX3_soundOn_20 (by decide) ?_
  refine lv_ixor hx hb dX3_soundOn_21 ?_
  refine lv_iand hx hb dX3_soundOn_22 ?_
  exact ro_ret X hS h dX3_soundOn_23
set_option maxHeartbeats 4000000 in
set_option maxRecDepth 100000 in
theorem c_X3_exempt (l : Launch) (D : va_G) (cI cG : ClassId) (q : Nat → Nat) (S : St) (H : Heap) (F : Nat) {r : Int32} (h : m_X3_exempt F S = some r) : RoM l yX3_exempt cX3_exempt 1 (some .int) 1 22 [.ref (q 0)] D cI cG (wX cI cG q S) H r := by
  refine RoM.of (own := RX3) (by decide) rfl (Nat.le_of_ble_eq_true rfl) ?_
  intro p e s m args below meth c ls X hP hS hl0
  have hl : lv_has ls 1 [(0, .ref (q 0))] := hl0 _ (lv_entry [.ref (q 0)] (n := 1) (Nat.le_of_ble_eq_true rfl))
  have hx := X.1
  have hb := X.2.1
  rw [m_X3_exempt] at h
  refine lv_aload_n hx hb dX3_exempt_0 rfl (lv_at hl 0 rfl) ?_
  refine gf_X3_30 X hP dX3_exempt_1 ?_
  refine lv_aload_n hx hb dX3_exempt_4 rfl (lv_at hl 0 rfl) ?_
  refine gf_X3_10 X hP dX3_exempt_5 ?_
  obtain ⟨r1, er1, h⟩ := bd_some h
  refine ro_V (As := []) (rest := [.int (S 0 0)]) X hP hS hl.1 (c_X0_goodOnes l D cI cG q S _ F er1) lk_X3_162 (rc_X3_X0 X hP) ⟨by decide, by decide⟩ rfl rfl (Nat.le_of_ble_eq_true rfl) dX3_exempt_8 ⟨Nat.le_refl _, Nat.le_refl _⟩ (fun locs hS => ?_)
  obtain ⟨r2, er2, h⟩ := bd_some h
  refine ro_S (As := [.int (S 0 0), .int r1]) (rest := []) X hP hS hl.1 (c_X3_exemptBy l D cI cG _ _ (S 0 0) r1 er2) lk_X3_165 ⟨by decide, by decide⟩ rfl rfl (Nat.le_of_ble_eq_true rfl) dX3_exempt_11 ⟨Nat.le_refl _, Nat.le_refl _⟩ (fun locs hS => ?_)
  exact ro_ret X hS h dX3_exempt_14
set_option maxHeartbeats 4000000 in
set_option maxRecDepth 100000 in
theorem c_X3_all (l : Launch) (D : va_G) (cI cG : ClassId) (q : Nat → Nat) (S : St) (H : Heap) (F : Nat) (p1 p2 : Int32) {r : Int32} (h : m_X3_all F S p1 p2 = some r) : RoM l yX3_all cX3_all 4 (some .int) 6 135 [.ref (q 0), .int p1, .int p2] D cI cG (wX cI cG q S) H r := by
  refine RoM.of (own := RX3) (by decide) rfl (Nat.le_of_ble_eq_true rfl) ?_
  intro p e s m args below meth c ls X hP hS hl0
  have hl : lv_has ls 4 [(0, .ref (q 0)), (1, .int p1), (2, .int p2)] := hl0 _ (lv_entry [.ref (q 0), .int p1, .int p2] (n := 4) (Nat.le_of_ble_eq_true rfl))
  have hx := X.1
  have hb := X.2.1
  rw [m_X3_all] at h
  refine lv_iload_n hx hb dX3_all_0 rfl (lv_at hl 1 rfl) ?_
  obtain ⟨r1, er1, h⟩ := bd_some h
  refine ro_S (As := [.int p1]) (rest := []) X hP hS hl.1 (c_X3_isDay l D cI cG _ _ p1 er1) lk_X3_41 ⟨by decide, by decide⟩ rfl rfl (Nat.le_of_ble_eq_true rfl) dX3_all_1 ⟨Nat.le_refl _, Nat.le_refl _⟩ (fun locs hS => ?_)
  refine lv_if_eq (tgt := 16) hx hb dX3_all_4 (by decide) (fun c2 => ?_) (fun c2 => ?_)
  · have h := tt_some h c2
    refine lv_bipush (v := (-2 : Int32)) hx hb dX3_all_16 (by decide) ?_
    exact ro_ret X hS h dX3_all_18
  · have h := ff_some h c2
    refine lv_iload_n hx hb dX3_all_7 rfl (lv_at hl 2 rfl) ?_
    refine lv_iconst (v := 0) hx hb dX3_all_8 (by decide) ?_
    refine lv_iconst (v := 2) hx hb dX3_all_9 (by decide) ?_
    obtain ⟨r3, er3, h⟩ := bd_some h
    refine ro_S (As := [.int p2, .int 0, .int 2]) (rest := []) X hP hS hl.1 (c_X3_within l D cI cG _ _ p2 0 2 er3) lk_X3_44 ⟨by decide, by decide⟩ rfl rfl (Nat.le_of_ble_eq_true rfl) dX3_all_10 ⟨Nat.le_refl _, Nat.le_refl _⟩ (fun locs hS => ?_)
    refine lv_if_ne (tgt := 19) hx hb dX3_all_13 (by decide) (fun c4 => ?_) (fun c4 => ?_)
    · have h := ff_some h c4
      refine lv_aload_n hx hb dX3_all_19 rfl (lv_at hl 0 rfl) ?_
      refine lv_iload_n hx hb dX3_all_20 rfl (lv_at hl 1 rfl) ?_
      obtain ⟨r5, er5, h⟩ := bd_some h
      refine ro_V (As := [.int p1]) (rest := []) X hP hS hl.1 (c_X3_soundOn l D cI cG q S _ F p1 er5) lk_X3_95 (rc_X3_X3 X hP) ⟨by decide, by decide⟩ rfl rfl (Nat.le_of_ble_eq_true rfl) dX3_all_21 ⟨Nat.le_refl _, Nat.le_refl _⟩ (fun locs hS => ?_)
      refine lv_istore_n (lv' := [(3, .int r5), (0, .ref (q 0)), (1, .int p1), (2, .int p2)]) hx hb dX3_all_24 rfl hl (by decide) rfl (fun ls hl => ?_)
      refine lv_iload_n hx hb dX3_all_25 rfl (lv_at hl 3 rfl) ?_
      refine lv_if_ne (tgt := 31) hx hb dX3_all_26 (by decide) (fun c6 => ?_) (fun c6 => ?_)
      · have h := ff_some h c6
        refine lv_iload_n hx hb dX3_all_31 rfl (lv_at hl 3 rfl) ?_
        refine lv_iconst (v := 1) hx hb dX3_all_32 (by decide) ?_
        refine lv_icmp_ne (tgt := 51) hx hb dX3_all_33 (by decide) (fun c7 => ?_) (fun c7 => ?_)
        · have h := ff_some h c7
          refine lv_aload_n hx hb dX3_all_51 rfl (lv_at hl 1 rfl) ?_
          refine gf_X3_10 X hP dX3_all_52 ?_
          refine lv_iload_n hx hb dX3_all_55 rfl (lv_at hl 0 rfl) ?_
          refine lv_aload_n hx hb dX3_all_56 rfl (lv_at hl 1 rfl) ?_
          obtain ⟨r8, er8, h⟩ := bd_some h
          refine ro_V (As := []) (rest := [.int r5, .ref (q 1)]) X hP hS hl.1 (c_X3_exempt l D cI cG q S _ F er8) lk_X3_98 (rc_X3_X3 X hP) ⟨by decide, by decide⟩ rfl rfl (Nat.le_of_ble_eq_true rfl) dX3_all_57 ⟨Nat.le_refl _, Nat.le_refl _⟩ (fun locs hS => ?_)
          obtain ⟨r9, er9, h⟩ := bd_some h
          refine ro_V (As := [.int r5, .int r8]) (rest := []) X hP hS hl.1 (c_X0_least l D cI cG q S _ F r5 r8 er9) lk_X3_105 (rc_X3_X0 X hP) ⟨by decide, by decide⟩ rfl rfl (Nat.le_of_ble_eq_true rfl) dX3_all_60 ⟨Nat.le_refl _, Nat.le_refl _⟩ (fun locs hS => ?_)
          exact ro_ret X hS h dX3_all_63
        · have h := tt_some h c7
          refine lv_aload_n hx hb dX3_all_36 rfl (lv_at hl 1 rfl) ?_
          refine gf_X3_10 X hP dX3_all_37 ?_
          refine lv_iload_n hx hb dX3_all_40 rfl (lv_at hl 0 rfl) ?_
          refine lv_aload_n hx hb dX3_all_41 rfl (lv_at hl 1 rfl) ?_
          obtain ⟨r10, er10, h⟩ := bd_some h
          refine ro_V (As := []) (rest := [.int r5, .ref (q 1)]) X hP hS hl.1 (c_X3_exempt l D cI cG q S _ F er10) lk_X3_98 (rc_X3_X3 X hP) ⟨by decide, by decide⟩ rfl rfl (Nat.le_of_ble_eq_true rfl) dX3_all_42 ⟨Nat.le_refl _, Nat.le_refl _⟩ (fun locs hS => ?_)
          obtain ⟨r11, er11, h⟩ := bd_some h
          refine ro_V (As := [.int r5, .int r10]) (rest := []) X hP hS hl.1 (c_X0_most l D cI cG q S _ F r5 r10 er11) lk_X3_101 (rc_X3_X0 X hP) ⟨by decide, by decide⟩ rfl rfl (Nat.le_of_ble_eq_true rfl) dX3_all_45 ⟨Nat.le_refl _, Nat.le_refl _⟩ (fun locs hS => ?_)
          refine lv_goto (tgt := 63) hx hb dX3_all_48 (by decide) ?_
          exact ro_ret X hS h dX3_all_63
      · have h := tt_some h c6
        refine lv_iload_n hx hb dX3_all_29 rfl (lv_at hl 0 rfl) ?_
        exact ro_ret X hS h dX3_all_30
    · have h := tt_some h c4
      refine lv_bipush (v := (-2 : Int32)) hx hb dX3_all_16 (by decide) ?_
      exact ro_ret X hS h dX3_all_18
set_option maxHeartbeats 4000000 in
set_option maxRecDepth 100000 in
theorem c_X3_why (l : Launch) (D : va_G) (cI cG : ClassId) (q : Nat → Nat) (S : St) (H : Heap) (F : Nat) (p1 p2 : Int32) {r : Int32} (h : m_X3_why F S p1 p2 = some r) : RoM l yX3_why cX3_why 4 (some .int) 6 135 [.ref (q 0), .int p1, .int p2] D cI cG (wX cI cG q S) H r := by
  refine RoM.of (own := RX3) (by decide) rfl (Nat.le_of_ble_eq_true rfl) ?_
  intro p e s m args below meth c ls X hP hS hl0
  have hl : lv_has ls 4 [(0, .ref (q 0)), (1, .int p1), (2, .int p2)] := hl0 _ (lv_entry [.ref (q 0), .int p1, .int p2] (n := 4) (Nat.le_of_ble_eq_true rfl))
  have hx := X.1
  have hb := X.2.1
  rw [m_X3_why] at h
  refine lv_aload_n hx hb dX3_why_0 rfl (lv_at hl 0 rfl) ?_
  refine gf_X3_10 X hP dX3_why_1 ?_
  refine lv_iload_n hx hb dX3_why_4 rfl (lv_at hl 1 rfl) ?_
  obtain ⟨r1, er1, h⟩ := bd_some h
  refine ro_V (As := [.int p1]) (rest := []) X hP hS hl.1 (c_X0_has l D cI cG q S _ p1 er1) lk_X3_55 (rc_X3_X0 X hP) ⟨by decide, by decide⟩ rfl rfl (Nat.le_of_ble_eq_true rfl) dX3_why_5 ⟨Nat.le_refl _, Nat.le_refl _⟩ (fun locs hS => ?_)
  refine lv_if_ne (tgt := 13) hx hb dX3_why_8 (by decide) (fun c2 => ?_) (fun c2 => ?_)
  · have h := ff_some h c2
    refine lv_iload_n hx hb dX3_why_13 rfl (lv_at hl 2 rfl) ?_
    obtain ⟨r3, er3, h⟩ := bd_some h
    refine ro_S (As := [.int p2]) (rest := []) X hP hS hl.1 (c_X3_isDay l D cI cG _ _ p2 er3) lk_X3_41 ⟨by decide, by decide⟩ rfl rfl (Nat.le_of_ble_eq_true rfl) dX3_why_14 ⟨Nat.le_refl _, Nat.le_refl _⟩ (fun locs hS => ?_)
    refine lv_if_ne (tgt := 23) hx hb dX3_why_17 (by decide) (fun c4 => ?_) (fun c4 => ?_)
    · have h := ff_some h c4
      refine lv_aload_n hx hb dX3_why_23 rfl (lv_at hl 0 rfl) ?_
      refine gf_X3_10 X hP dX3_why_24 ?_
      refine lv_iload_n hx hb dX3_why_27 rfl (lv_at hl 1 rfl) ?_
      refine lv_iload_n hx hb dX3_why_28 rfl (lv_at hl 2 rfl) ?_
      obtain ⟨r5, er5, h⟩ := bd_some h
      refine ro_V (As := [.int p1, .int p2]) (rest := []) X hP hS hl.1 (c_X0_isDone l D cI cG q S _ p1 p2 er5) lk_X3_108 (rc_X3_X0 X hP) ⟨by decide, by decide⟩ rfl rfl (Nat.le_of_ble_eq_true rfl) dX3_why_29 ⟨Nat.le_refl _, Nat.le_refl _⟩ (fun locs hS => ?_)
      refine lv_if_ne (tgt := 37) hx hb dX3_why_32 (by decide) (fun c6 => ?_) (fun c6 => ?_)
      · have h := ff_some h c6
        refine lv_aload_n hx hb dX3_why_37 rfl (lv_at hl 0 rfl) ?_
        refine gf_X3_10 X hP dX3_why_38 ?_
        refine lv_iload_n hx hb dX3_why_41 rfl (lv_at hl 1 rfl) ?_
        refine lv_iload_n hx hb dX3_why_42 rfl (lv_at hl 2 rfl) ?_
        obtain ⟨r7, er7, h⟩ := bd_some h
        refine ro_V (As := [.int p1, .int p2]) (rest := []) X hP hS hl.1 (c_X0_isNought l D cI cG q S _ p1 p2 er7) lk_X3_112 (rc_X3_X0 X hP) ⟨by decide, by decide⟩ rfl rfl (Nat.le_of_ble_eq_true rfl) dX3_why_43 ⟨Nat.le_refl _, Nat.le_refl _⟩ (fun locs hS => ?_)
        refine lv_if_eq (tgt := 51) hx hb dX3_why_46 (by decide) (fun c8 => ?_) (fun c8 => ?_)
        · have h := tt_some h c8
          refine lv_aload_n hx hb dX3_why_51 rfl (lv_at hl 0 rfl) ?_
          refine lv_iload_n hx hb dX3_why_52 rfl (lv_at hl 2 rfl) ?_
          obtain ⟨r9, er9, h⟩ := bd_some h
          refine ro_V (As := [.int p2]) (rest := []) X hP hS hl.1 (c_X3_soundOn l D cI cG q S _ F p2 er9) lk_X3_95 (rc_X3_X3 X hP) ⟨by decide, by decide⟩ rfl rfl (Nat.le_of_ble_eq_true rfl) dX3_why_53 ⟨Nat.le_refl _, Nat.le_refl _⟩ (fun locs hS => ?_)
          refine lv_istore_n (lv' := [(3, .int r9), (0, .ref (q 0)), (1, .int p1), (2, .int p2)]) hx hb dX3_why_56 rfl hl (by decide) rfl (fun ls hl => ?_)
          refine lv_iload_n hx hb dX3_why_57 rfl (lv_at hl 0 rfl) ?_
          refine lv_iload_n hx hb dX3_why_58 rfl (lv_at hl 2 rfl) ?_
          obtain ⟨r10, er10, h⟩ := bd_some h
          refine ro_S (As := [.int r9, .int p1]) (rest := []) X hP hS hl.1 (c_X3_contains l D cI cG _ _ r9 p1 er10) lk_X3_115 ⟨by decide, by decide⟩ rfl rfl (Nat.le_of_ble_eq_true rfl) dX3_why_59 ⟨Nat.le_refl _, Nat.le_refl _⟩ (fun locs hS => ?_)
          refine lv_if_ne (tgt := 67) hx hb dX3_why_62 (by decide) (fun c11 => ?_) (fun c11 => ?_)
          · have h := ff_some h c11
            refine lv_aload_n hx hb dX3_why_67 rfl (lv_at hl 1 rfl) ?_
            refine gf_X3_10 X hP dX3_why_68 ?_
            refine lv_iload_n hx hb dX3_why_71 rfl (lv_at hl 0 rfl) ?_
            refine lv_aload_n hx hb dX3_why_72 rfl (lv_at hl 1 rfl) ?_
            obtain ⟨r12, er12, h⟩ := bd_some h
            refine ro_V (As := []) (rest := [.int r9, .ref (q 1)]) X hP hS hl.1 (c_X3_exempt l D cI cG q S _ F er12) lk_X3_98 (rc_X3_X3 X hP) ⟨by decide, by decide⟩ rfl rfl (Nat.le_of_ble_eq_true rfl) dX3_why_73 ⟨Nat.le_refl _, Nat.le_refl _⟩ (fun locs hS => ?_)
            obtain ⟨r13, er13, h⟩ := bd_some h
            refine ro_V (As := [.int r9, .int r12]) (rest := []) X hP hS hl.1 (c_X0_most l D cI cG q S _ F r9 r12 er13) lk_X3_101 (rc_X3_X0 X hP) ⟨by decide, by decide⟩ rfl rfl (Nat.le_of_ble_eq_true rfl) dX3_why_76 ⟨Nat.le_refl _, Nat.le_refl _⟩ (fun locs hS => ?_)
            refine lv_iload_n hx hb dX3_why_79 rfl (lv_at hl 2 rfl) ?_
            obtain ⟨r14, er14, h⟩ := bd_some h
            refine ro_S (As := [.int r13, .int p1]) (rest := []) X hP hS hl.1 (c_X3_contains l D cI cG _ _ r13 p1 er14) lk_X3_115 ⟨by decide, by decide⟩ rfl rfl (Nat.le_of_ble_eq_true rfl) dX3_why_80 ⟨Nat.le_refl _, Nat.le_refl _⟩ (fun locs hS => ?_)
            refine lv_if_eq (tgt := 90) hx hb dX3_why_83 (by decide) (fun c15 => ?_) (fun c15 => ?_)
            · have h := tt_some h c15
              refine lv_iconst (v := 4) hx hb dX3_why_90 (by decide) ?_
              exact ro_ret X hS h dX3_why_91
            · have h := ff_some h c15
              refine lv_iconst (v := 0) hx hb dX3_why_86 (by decide) ?_
              refine lv_goto (tgt := 91) hx hb dX3_why_87 (by decide) ?_
              exact ro_ret X hS h dX3_why_91
          · have h := tt_some h c11
            refine lv_iconst (v := 3) hx hb dX3_why_65 (by decide) ?_
            exact ro_ret X hS h dX3_why_66
        · have h := ff_some h c8
          refine lv_iconst (v := 2) hx hb dX3_why_49 (by decide) ?_
          exact ro_ret X hS h dX3_why_50
      · have h := tt_some h c6
        refine lv_iconst (v := 1) hx hb dX3_why_35 (by decide) ?_
        exact ro_ret X hS h dX3_why_36
    · have h := tt_some h c4
      refine lv_bipush (v := (-2 : Int32)) hx hb dX3_why_20 (by decide) ?_
      exact ro_ret X hS h dX3_why_22
  · have h := tt_some h c2
    refine lv_iconst (v := (-1 : Int32)) hx hb dX3_why_11 (by decide) ?_
    exact ro_ret X hS h dX3_why_12
set_option maxHeartbeats 4000000 in
set_option maxRecDepth 100000 in
theorem wk_X3_under_24 {p : Program} {l : Launch} {e : Env} {s : State} {m : MethodId} {args : Array Value} {below : List Frame} {meth : Method} {c : Code} {D : va_G} {cI cG : ClassId} {q : Nat → Nat} {S : St} {H : Heap} {r : Int32} {F : Nat} {p1 : Int32}  (X : Cx p s m args meth c cX3_under 5 (some .int) RX3 D cI cG) (hP : va_P D vwCl (wX cI cG q S) H)  : ∀ (n : Nat) (x2 : Int32) (x3 : Int32) (ls : Array Slot) (locs : List Loc), lv_has ls 5 [(0, .ref (q 0)), (2, .int x2), (3, .int x3)] → va_S no s.heap H locs → m_X3_under_24 F S p1 n x2 x3 = some r → W p l e { frames := 3, cells := 0, slots := 0, locals := 66 } s m args below meth c H locs 0 0 (MQ below (roQ H r) args s 0 0 no) (F0 m 24 ls []) := by
  have hx := X.1
  have hb := X.2.1
  intro n
  induction n with
  | zero =>
    intro x2 x3 ls locs hl hS h
    exact no_none (show none = some r from h)
  | succ n ih =>
    intro x2 x3 ls locs hl hS h
    rw [m_X3_under_24] at h
    refine lv_iload_n hx hb dX3_under_24 rfl (lv_at hl 2 rfl) ?_
    refine lv_bipush (v := 12) hx hb dX3_under_25 (by decide) ?_
    refine lv_icmp_ge (tgt := 60) hx hb dX3_under_27 (by decide) (fun c4 => ?_) (fun c4 => ?_)
    · have h := tt_some h c4
      refine lv_iload_n hx hb dX3_under_60 rfl (lv_at hl 1 rfl) ?_
      exact ro_ret X hS h dX3_under_61
    · have h := ff_some h c4
      refine lv_iload_n hx hb dX3_under_30 rfl (lv_at hl 1 rfl) ?_
      refine lv_aload_n hx hb dX3_under_31 rfl (lv_at hl 0 rfl) ?_
      refine gf_X3_10 X hP dX3_under_32 ?_
      refine lv_iload_n hx hb dX3_under_35 rfl (lv_at hl 1 rfl) ?_
      obtain ⟨r5, er5, h⟩ := bd_some h
      refine ro_V (As := [.int x2]) (rest := [.int x2]) X hP hS hl.1 (c_X0_namedByAny l D cI cG q S _ F x2 er5) lk_X3_121 (rc_X3_X0 X hP) ⟨by decide, by decide⟩ rfl rfl (Nat.le_of_ble_eq_true rfl) dX3_under_36 ⟨Nat.le_refl _, Nat.le_refl _⟩ (fun locs hS => ?_)
      refine lv_ior hx hb dX3_under_39 ?_
      refine lv_topi (fun v6 ev6 => ?_)
      have h := nm_some h ev6
      refine lv_istore (lv' := [(4, .int v6), (0, .ref (q 0)), (2, .int x2), (3, .int x3)]) hx hb dX3_under_40 hl (by decide) rfl (fun ls hl => ?_)
      refine lv_iload hx hb dX3_under_42 (lv_at hl 0 rfl) ?_
      refine lv_iload_n hx hb dX3_under_44 rfl (lv_at hl 2 rfl) ?_
      refine lv_icmp_ne (tgt := 51) hx hb dX3_under_45 (by decide) (fun c7 => ?_) (fun c7 => ?_)
      · have h := ff_some h c7
        refine lv_iload hx hb dX3_under_51 (lv_at hl 0 rfl) ?_
        refine lv_istore_n (lv' := [(2, .int v6), (4, .int v6), (0, .ref (q 0)), (3, .int x3)]) hx hb dX3_under_53 rfl hl (by decide) rfl (fun ls hl => ?_)
        obtain ⟨v8, ev8⟩ : ∃ y : Int32, y = x3 + 1 := ⟨_, rfl⟩
        have h := nm_some h ev8
        refine lv_iinc (v := v8) (lv' := [(3, .int v8), (2, .int v6), (4, .int v6), (0, .ref (q 0))]) hx hb dX3_under_54 hl (k := 3) rfl (by rw [ev8]; rfl) (by decide) rfl (fun ls hl => ?_)
        refine lv_goto (tgt := 24) hx hb dX3_under_57 (by decide) ?_
        exact ih v6 v8 ls _ (lv_sub hl [3, 1, 0] rfl) hS h
      · have h := tt_some h c7
        refine lv_goto (tgt := 60) hx hb dX3_under_48 (by decide) ?_
        refine lv_iload_n hx hb dX3_under_60 rfl (lv_at hl 2 rfl) ?_
        exact ro_ret X hS h dX3_under_61
set_option maxHeartbeats 4000000 in
set_option maxRecDepth 100000 in
theorem c_X3_under (l : Launch) (D : va_G) (cI cG : ClassId) (q : Nat → Nat) (S : St) (H : Heap) (F : Nat) (p1 : Int32) {r : Int32} (h : m_X3_under F S p1 = some r) : RoM l yX3_under cX3_under 5 (some .int) 3 66 [.ref (q 0), .int p1] D cI cG (wX cI cG q S) H r := by
  refine RoM.of (own := RX3) (by decide) rfl (Nat.le_of_ble_eq_true rfl) ?_
  intro p e s m args below meth c ls X hP hS hl0
  have hl : lv_has ls 5 [(0, .ref (q 0)), (1, .int p1)] := hl0 _ (lv_entry [.ref (q 0), .int p1] (n := 5) (Nat.le_of_ble_eq_true rfl))
  have hx := X.1
  have hb := X.2.1
  rw [m_X3_under] at h
  refine lv_aload_n hx hb dX3_under_0 rfl (lv_at hl 0 rfl) ?_
  refine gf_X3_10 X hP dX3_under_1 ?_
  refine lv_iload_n hx hb dX3_under_4 rfl (lv_at hl 1 rfl) ?_
  obtain ⟨r1, er1, h⟩ := bd_some h
  refine ro_V (As := [.int p1]) (rest := []) X hP hS hl.1 (c_X0_has l D cI cG q S _ p1 er1) lk_X3_55 (rc_X3_X0 X hP) ⟨by decide, by decide⟩ rfl rfl (Nat.le_of_ble_eq_true rfl) dX3_under_5 ⟨Nat.le_refl _, Nat.le_refl _⟩ (fun locs hS => ?_)
  refine lv_if_ne (tgt := 13) hx hb dX3_under_8 (by decide) (fun c2 => ?_) (fun c2 => ?_)
  · have h := ff_some h c2
    refine lv_aload_n hx hb dX3_under_13 rfl (lv_at hl 0 rfl) ?_
    refine gf_X3_10 X hP dX3_under_14 ?_
    refine lv_iload_n hx hb dX3_under_17 rfl (lv_at hl 1 rfl) ?_
    obtain ⟨r3, er3, h⟩ := bd_some h
    refine ro_V (As := [.int p1]) (rest := []) X hP hS hl.1 (c_X0_named l D cI cG q S _ F p1 er3) lk_X3_118 (rc_X3_X0 X hP) ⟨by decide, by decide⟩ rfl rfl (Nat.le_of_ble_eq_true rfl) dX3_under_18 ⟨Nat.le_refl _, Nat.le_refl _⟩ (fun locs hS => ?_)
    refine lv_istore_n (lv' := [(2, .int r3), (0, .ref (q 0)), (1, .int p1)]) hx hb dX3_under_21 rfl hl (by decide) rfl (fun ls hl => ?_)
    refine lv_iconst (v := 0) hx hb dX3_under_22 (by decide) ?_
    refine lv_istore_n (lv' := [(3, .int 0), (2, .int r3), (0, .ref (q 0)), (1, .int p1)]) hx hb dX3_under_23 rfl hl (by decide) rfl (fun ls hl => ?_)
    exact wk_X3_under_24 X hP F r3 0 ls _ (lv_sub hl [2, 1, 0] rfl) hS h
  · have h := tt_some h c2
    refine lv_iconst (v := (-1 : Int32)) hx hb dX3_under_11 (by decide) ?_
    exact ro_ret X hS h dX3_under_12
set_option maxHeartbeats 4000000 in
set_option maxRecDepth 100000 in
theorem c_X3_fallen (l : Launch) (D : va_G) (cI cG : ClassId) (q : Nat → Nat) (S : St) (H : Heap) (F : Nat) (p1 p2 : Int32) {r : Int32} (h : m_X3_fallen F S p1 p2 = some r) : RoM l yX3_fallen cX3_fallen 5 (some .int) 3 74 [.ref (q 0), .int p1, .int p2] D cI cG (wX cI cG q S) H r := by
  refine RoM.of (own := RX3) (by decide) rfl (Nat.le_of_ble_eq_true rfl) ?_
  intro p e s m args below meth c ls X hP hS hl0
  have hl : lv_has ls 5 [(0, .ref (q 0)), (1, .int p1), (2, .int p2)] := hl0 _ (lv_entry [.ref (q 0), .int p1, .int p2] (n := 5) (Nat.le_of_ble_eq_true rfl))
  have hx := X.1
  have hb := X.2.1
  rw [m_X3_fallen] at h
  refine lv_aload_n hx hb dX3_fallen_0 rfl (lv_at hl 0 rfl) ?_
  obtain ⟨r1, er1, h⟩ := bd_some h
  refine ro_V (As := []) (rest := []) X hP hS hl.1 (c_X3_exempt l D cI cG q S _ F er1) lk_X3_98 (rc_X3_X3 X hP) ⟨by decide, by decide⟩ rfl rfl (Nat.le_of_ble_eq_true rfl) dX3_fallen_1 ⟨Nat.le_refl _, Nat.le_refl _⟩ (fun locs hS => ?_)
  refine lv_istore_n (lv' := [(3, .int r1), (0, .ref (q 0)), (1, .int p1), (2, .int p2)]) hx hb dX3_fallen_4 rfl hl (by decide) rfl (fun ls hl => ?_)
  refine lv_aload_n hx hb dX3_fallen_5 rfl (lv_at hl 1 rfl) ?_
  refine gf_X3_10 X hP dX3_fallen_6 ?_
  refine lv_iload_n hx hb dX3_fallen_9 rfl (lv_at hl 3 rfl) ?_
  refine lv_iload_n hx hb dX3_fallen_10 rfl (lv_at hl 0 rfl) ?_
  obtain ⟨r2, er2, h⟩ := bd_some h
  refine ro_V (As := [.int p2, .int r1]) (rest := []) X hP hS hl.1 (c_X0_most l D cI cG q S _ F p2 r1 er2) lk_X3_101 (rc_X3_X0 X hP) ⟨by decide, by decide⟩ rfl rfl (Nat.le_of_ble_eq_true rfl) dX3_fallen_11 ⟨Nat.le_refl _, Nat.le_refl _⟩ (fun locs hS => ?_)
  refine lv_istore (lv' := [(4, .int r2), (3, .int r1), (0, .ref (q 0)), (1, .int p1), (2, .int p2)]) hx hb dX3_fallen_14 hl (by decide) rfl (fun ls hl => ?_)
  refine lv_iload hx hb dX3_fallen_16 (lv_at hl 0 rfl) ?_
  refine lv_iload_n hx hb dX3_fallen_18 rfl (lv_at hl 3 rfl) ?_
  obtain ⟨r3, er3, h⟩ := bd_some h
  refine ro_S (As := [.int r2, .int p1]) (rest := []) X hP hS hl.1 (c_X3_contains l D cI cG _ _ r2 p1 er3) lk_X3_115 ⟨by decide, by decide⟩ rfl rfl (Nat.le_of_ble_eq_true rfl) dX3_fallen_19 ⟨Nat.le_refl _, Nat.le_refl _⟩ (fun locs hS => ?_)
  refine lv_if_ne (tgt := 27) hx hb dX3_fallen_22 (by decide) (fun c4 => ?_) (fun c4 => ?_)
  · have h := ff_some h c4
    refine lv_iload hx hb dX3_fallen_27 (lv_at hl 0 rfl) ?_
    refine lv_aload_n hx hb dX3_fallen_29 rfl (lv_at hl 2 rfl) ?_
    refine gf_X3_10 X hP dX3_fallen_30 ?_
    refine lv_iload hx hb dX3_fallen_33 (lv_at hl 0 rfl) ?_
    refine lv_iload_n hx hb dX3_fallen_35 rfl (lv_at hl 3 rfl) ?_
    obtain ⟨r5, er5, h⟩ := bd_some h
    refine ro_S (As := [.int r2, .int p1]) (rest := [.ref (q 1), .int r2]) X hP hS hl.1 (c_X3_without l D cI cG _ _ r2 p1 er5) lk_X3_148 ⟨by decide, by decide⟩ rfl rfl (Nat.le_of_ble_eq_true rfl) dX3_fallen_36 ⟨Nat.le_refl _, Nat.le_refl _⟩ (fun locs hS => ?_)
    refine lv_iload_n hx hb dX3_fallen_39 rfl (lv_at hl 1 rfl) ?_
    obtain ⟨r6, er6, h⟩ := bd_some h
    refine ro_V (As := [.int r5, .int r1]) (rest := [.int r2]) X hP hS hl.1 (c_X0_most l D cI cG q S _ F r5 r1 er6) lk_X3_101 (rc_X3_X0 X hP) ⟨by decide, by decide⟩ rfl rfl (Nat.le_of_ble_eq_true rfl) dX3_fallen_40 ⟨Nat.le_refl _, Nat.le_refl _⟩ (fun locs hS => ?_)
    refine lv_iconst (v := (-1 : Int32)) hx hb dX3_fallen_43 (by decide) ?_
    refine lv_ixor hx hb dX3_fallen_44 ?_
    refine lv_iand hx hb dX3_fallen_45 ?_
    exact ro_ret X hS h dX3_fallen_46
  · have h := tt_some h c4
    refine lv_iconst (v := 0) hx hb dX3_fallen_25 (by decide) ?_
    exact ro_ret X hS h dX3_fallen_26
set_option maxHeartbeats 4000000 in
set_option maxRecDepth 100000 in
theorem wk_X3_stepAt_48 {p : Program} {l : Launch} {e : Env} {s : State} {m : MethodId} {args : Array Value} {below : List Frame} {meth : Method} {c : Code} {D : va_G} {cI cG : ClassId} {q : Nat → Nat} {S : St} {H : Heap} {r : Int32} {F : Nat} {p1 p2 p3 : Int32}  (X : Cx p s m args meth c cX3_stepAt 8 (some .int) RX3 D cI cG) (hP : va_P D vwCl (wX cI cG q S) H)  : ∀ (n : Nat) (x4 : Int32) (x5 : Int32) (x6 : Int32) (x7 : Int32) (ls : Array Slot) (locs : List Loc), lv_has ls 8 [(0, .ref (q 0)), (3, .int p3), (4, .int x4), (5, .int x5), (6, .int x6), (7, .int x7)] → va_S no s.heap H locs → m_X3_stepAt_48 F S p1 p2 p3 n x4 x5 x6 x7 = some r → W p l e { frames := 3, cells := 0, slots := 0, locals := 74 } s m args below meth c H locs 0 0 (MQ below (roQ H r) args s 0 0 no) (F0 m 48 ls []) := by
  have hx := X.1
  have hb := X.2.1
  intro n
  induction n with
  | zero =>
    intro x4 x5 x6 x7 ls locs hl hS h
    exact no_none (show none = some r from h)
  | succ n ih =>
    intro x4 x5 x6 x7 ls locs hl hS h
    rw [m_X3_stepAt_48] at h
    refine lv_iload hx hb dX3_stepAt_48 (lv_at hl 5 rfl) ?_
    refine lv_iload_n hx hb dX3_stepAt_50 rfl (lv_at hl 1 rfl) ?_
    refine lv_icmp_ge (tgt := 82) hx hb dX3_stepAt_51 (by decide) (fun c8 => ?_) (fun c8 => ?_)
    · have h := tt_some h c8
      refine lv_iload hx hb dX3_stepAt_82 (lv_at hl 4 rfl) ?_
      refine lv_if_ne (tgt := 92) hx hb dX3_stepAt_84 (by decide) (fun c9 => ?_) (fun c9 => ?_)
      · have h := ff_some h c9
        refine lv_iload hx hb dX3_stepAt_92 (lv_at hl 4 rfl) ?_
        exact ro_ret X hS h dX3_stepAt_94
      · have h := tt_some h c9
        refine lv_bipush (v := (-6 : Int32)) hx hb dX3_stepAt_87 (by decide) ?_
        refine lv_goto (tgt := 94) hx hb dX3_stepAt_89 (by decide) ?_
        exact ro_ret X hS h dX3_stepAt_94
    · have h := ff_some h c8
      refine lv_iload hx hb dX3_stepAt_54 (lv_at hl 3 rfl) ?_
      refine lv_iload hx hb dX3_stepAt_56 (lv_at hl 4 rfl) ?_
      refine lv_iconst (v := (-1 : Int32)) hx hb dX3_stepAt_58 (by decide) ?_
      refine lv_ixor hx hb dX3_stepAt_59 ?_
      refine lv_iand hx hb dX3_stepAt_60 ?_
      refine lv_topi (fun v10 ev10 => ?_)
      have h := nm_some h ev10
      refine lv_istore (lv' := [(5, .int v10), (0, .ref (q 0)), (3, .int p3), (4, .int x4), (6, .int x6), (7, .int x7)]) hx hb dX3_stepAt_61 hl (by decide) rfl (fun ls hl => ?_)
      refine lv_aload_n hx hb dX3_stepAt_63 rfl (lv_at hl 1 rfl) ?_
      refine gf_X3_10 X hP dX3_stepAt_64 ?_
      refine lv_iload hx hb dX3_stepAt_67 (lv_at hl 0 rfl) ?_
      refine lv_iload hx hb dX3_stepAt_69 (lv_at hl 3 rfl) ?_
      obtain ⟨r11, er11, h⟩ := bd_some h
      refine ro_V (As := [.int v10, .int x4]) (rest := []) X hP hS hl.1 (c_X0_unheld l D cI cG q S _ F v10 x4 er11) lk_X3_184 (rc_X3_X0 X hP) ⟨by decide, by decide⟩ rfl rfl (Nat.le_of_ble_eq_true rfl) dX3_stepAt_71 ⟨Nat.le_refl _, Nat.le_refl _⟩ (fun locs hS => ?_)
      refine lv_istore (lv' := [(6, .int r11), (5, .int v10), (0, .ref (q 0)), (3, .int p3), (4, .int x4), (7, .int x7)]) hx hb dX3_stepAt_74 hl (by decide) rfl (fun ls hl => ?_)
      obtain ⟨v12, ev12⟩ : ∃ y : Int32, y = x7 + 1 := ⟨_, rfl⟩
      have h := nm_some h ev12
      refine lv_iinc (v := v12) (lv' := [(7, .int v12), (6, .int r11), (5, .int v10), (0, .ref (q 0)), (3, .int p3), (4, .int x4)]) hx hb dX3_stepAt_76 hl (k := 5) rfl (by rw [ev12]; rfl) (by decide) rfl (fun ls hl => ?_)
      refine lv_goto (tgt := 48) hx hb dX3_stepAt_79 (by decide) ?_
      exact ih x4 v10 r11 v12 ls _ (lv_sub hl [3, 4, 5, 2, 1, 0] rfl) hS h
set_option maxHeartbeats 4000000 in
set_option maxRecDepth 100000 in
theorem c_X3_stepAt (l : Launch) (D : va_G) (cI cG : ClassId) (q : Nat → Nat) (S : St) (H : Heap) (F : Nat) (p1 p2 p3 : Int32) {r : Int32} (h : m_X3_stepAt F S p1 p2 p3 = some r) : RoM l yX3_stepAt cX3_stepAt 8 (some .int) 3 74 [.ref (q 0), .int p1, .int p2, .int p3] D cI cG (wX cI cG q S) H r := by
  refine RoM.of (own := RX3) (by decide) rfl (Nat.le_of_ble_eq_true rfl) ?_
  intro p e s m args below meth c ls X hP hS hl0
  have hl : lv_has ls 8 [(0, .ref (q 0)), (1, .int p1), (2, .int p2), (3, .int p3)] := hl0 _ (lv_entry [.ref (q 0), .int p1, .int p2, .int p3] (n := 8) (Nat.le_of_ble_eq_true rfl))
  have hx := X.1
  have hb := X.2.1
  rw [m_X3_stepAt] at h
  refine lv_aload_n hx hb dX3_stepAt_0 rfl (lv_at hl 0 rfl) ?_
  obtain ⟨r1, er1, h⟩ := bd_some h
  refine ro_V (As := []) (rest := []) X hP hS hl.1 (c_X3_exempt l D cI cG q S _ F er1) lk_X3_98 (rc_X3_X3 X hP) ⟨by decide, by decide⟩ rfl rfl (Nat.le_of_ble_eq_true rfl) dX3_stepAt_1 ⟨Nat.le_refl _, Nat.le_refl _⟩ (fun locs hS => ?_)
  refine lv_istore (lv' := [(4, .int r1), (0, .ref (q 0)), (1, .int p1), (2, .int p2), (3, .int p3)]) hx hb dX3_stepAt_4 hl (by decide) rfl (fun ls hl => ?_)
  refine lv_aload_n hx hb dX3_stepAt_6 rfl (lv_at hl 1 rfl) ?_
  refine gf_X3_10 X hP dX3_stepAt_7 ?_
  refine lv_iload_n hx hb dX3_stepAt_10 rfl (lv_at hl 3 rfl) ?_
  refine lv_iload hx hb dX3_stepAt_11 (lv_at hl 0 rfl) ?_
  obtain ⟨r2, er2, h⟩ := bd_some h
  refine ro_V (As := [.int p2, .int r1]) (rest := []) X hP hS hl.1 (c_X0_most l D cI cG q S _ F p2 r1 er2) lk_X3_101 (rc_X3_X0 X hP) ⟨by decide, by decide⟩ rfl rfl (Nat.le_of_ble_eq_true rfl) dX3_stepAt_13 ⟨Nat.le_refl _, Nat.le_refl _⟩ (fun locs hS => ?_)
  refine lv_istore (lv' := [(5, .int r2), (4, .int r1), (0, .ref (q 0)), (1, .int p1), (2, .int p2), (3, .int p3)]) hx hb dX3_stepAt_16 hl (by decide) rfl (fun ls hl => ?_)
  refine lv_iload hx hb dX3_stepAt_18 (lv_at hl 0 rfl) ?_
  refine lv_iload_n hx hb dX3_stepAt_20 rfl (lv_at hl 3 rfl) ?_
  obtain ⟨r3, er3, h⟩ := bd_some h
  refine ro_S (As := [.int r2, .int p1]) (rest := []) X hP hS hl.1 (c_X3_contains l D cI cG _ _ r2 p1 er3) lk_X3_115 ⟨by decide, by decide⟩ rfl rfl (Nat.le_of_ble_eq_true rfl) dX3_stepAt_21 ⟨Nat.le_refl _, Nat.le_refl _⟩ (fun locs hS => ?_)
  refine lv_if_eq (tgt := 37) hx hb dX3_stepAt_24 (by decide) (fun c4 => ?_) (fun c4 => ?_)
  · have h := tt_some h c4
    refine lv_bipush (v := (-6 : Int32)) hx hb dX3_stepAt_37 (by decide) ?_
    exact ro_ret X hS h dX3_stepAt_39
  · have h := ff_some h c4
    refine lv_iload_n hx hb dX3_stepAt_27 rfl (lv_at hl 5 rfl) ?_
    refine lv_iconst (v := 0) hx hb dX3_stepAt_28 (by decide) ?_
    refine lv_bipush (v := 11) hx hb dX3_stepAt_29 (by decide) ?_
    obtain ⟨r5, er5, h⟩ := bd_some h
    refine ro_S (As := [.int p3, .int 0, .int 11]) (rest := []) X hP hS hl.1 (c_X3_within l D cI cG _ _ p3 0 11 er5) lk_X3_44 ⟨by decide, by decide⟩ rfl rfl (Nat.le_of_ble_eq_true rfl) dX3_stepAt_31 ⟨Nat.le_refl _, Nat.le_refl _⟩ (fun locs hS => ?_)
    refine lv_if_ne (tgt := 40) hx hb dX3_stepAt_34 (by decide) (fun c6 => ?_) (fun c6 => ?_)
    · have h := ff_some h c6
      refine lv_iconst (v := 1) hx hb dX3_stepAt_40 (by decide) ?_
      refine lv_iload_n hx hb dX3_stepAt_41 rfl (lv_at hl 3 rfl) ?_
      refine lv_ishl hx hb dX3_stepAt_42 ?_
      refine lv_topi (fun v7 ev7 => ?_)
      have h := nm_some h ev7
      refine lv_istore (lv' := [(6, .int v7), (5, .int r2), (4, .int r1), (0, .ref (q 0)), (1, .int p1), (2, .int p2), (3, .int p3)]) hx hb dX3_stepAt_43 hl (by decide) rfl (fun ls hl => ?_)
      refine lv_iconst (v := 0) hx hb dX3_stepAt_45 (by decide) ?_
      refine lv_istore (lv' := [(7, .int 0), (6, .int v7), (5, .int r2), (4, .int r1), (0, .ref (q 0)), (1, .int p1), (2, .int p2), (3, .int p3)]) hx hb dX3_stepAt_46 hl (by decide) rfl (fun ls hl => ?_)
      exact wk_X3_stepAt_48 X hP F r1 r2 v7 0 ls _ (lv_sub hl [4, 7, 3, 2, 1, 0] rfl) hS h
    · have h := tt_some h c6
      refine lv_bipush (v := (-6 : Int32)) hx hb dX3_stepAt_37 (by decide) ?_
      exact ro_ret X hS h dX3_stepAt_39
set_option maxHeartbeats 4000000 in
set_option maxRecDepth 100000 in
theorem wk_X3_stepCount_2 {p : Program} {l : Launch} {e : Env} {s : State} {m : MethodId} {args : Array Value} {below : List Frame} {meth : Method} {c : Code} {D : va_G} {cI cG : ClassId} {q : Nat → Nat} {S : St} {H : Heap} {r : Int32} {F : Nat} {p1 p2 : Int32}  (X : Cx p s m args meth c cX3_stepCount 4 (some .int) RX3 D cI cG) (hP : va_P D vwCl (wX cI cG q S) H)  : ∀ (n : Nat) (x3 : Int32) (ls : Array Slot) (locs : List Loc), lv_has ls 4 [(0, .ref (q 0)), (1, .int p1), (2, .int p2), (3, .int x3)] → va_S no s.heap H locs → m_X3_stepCount_2 F S p1 p2 n x3 = some r → W p l e { frames := 4, cells := 0, slots := 0, locals := 101 } s m args below meth c H locs 0 0 (MQ below (roQ H r) args s 0 0 no) (F0 m 2 ls []) := by
  have hx := X.1
  have hb := X.2.1
  intro n
  induction n with
  | zero =>
    intro x3 ls locs hl hS h
    exact no_none (show none = some r from h)
  | succ n ih =>
    intro x3 ls locs hl hS h
    rw [m_X3_stepCount_2] at h
    refine lv_iload_n hx hb dX3_stepCount_2 rfl (lv_at hl 3 rfl) ?_
    refine lv_bipush (v := 12) hx hb dX3_stepCount_3 (by decide) ?_
    refine lv_icmp_ge (tgt := 26) hx hb dX3_stepCount_5 (by decide) (fun c1 => ?_) (fun c1 => ?_)
    · have h := tt_some h c1
      refine lv_iload_n hx hb dX3_stepCount_26 rfl (lv_at hl 3 rfl) ?_
      exact ro_ret X hS h dX3_stepCount_27
    · have h := ff_some h c1
      refine lv_aload_n hx hb dX3_stepCount_8 rfl (lv_at hl 0 rfl) ?_
      refine lv_iload_n hx hb dX3_stepCount_9 rfl (lv_at hl 1 rfl) ?_
      refine lv_iload_n hx hb dX3_stepCount_10 rfl (lv_at hl 2 rfl) ?_
      refine lv_iload_n hx hb dX3_stepCount_11 rfl (lv_at hl 3 rfl) ?_
      obtain ⟨r2, er2, h⟩ := bd_some h
      refine ro_V (As := [.int p1, .int p2, .int x3]) (rest := []) X hP hS hl.1 (c_X3_stepAt l D cI cG q S _ F p1 p2 x3 er2) lk_X3_133 (rc_X3_X3 X hP) ⟨by decide, by decide⟩ rfl rfl (Nat.le_of_ble_eq_true rfl) dX3_stepCount_12 ⟨Nat.le_refl _, Nat.le_refl _⟩ (fun locs hS => ?_)
      refine lv_bipush (v := (-6 : Int32)) hx hb dX3_stepCount_15 (by decide) ?_
      refine lv_icmp_eq (tgt := 26) hx hb dX3_stepCount_17 (by decide) (fun c3 => ?_) (fun c3 => ?_)
      · have h := tt_some h c3
        refine lv_iload_n hx hb dX3_stepCount_26 rfl (lv_at hl 3 rfl) ?_
        exact ro_ret X hS h dX3_stepCount_27
      · have h := ff_some h c3
        obtain ⟨v4, ev4⟩ : ∃ y : Int32, y = x3 + 1 := ⟨_, rfl⟩
        have h := nm_some h ev4
        refine lv_iinc (v := v4) (lv' := [(3, .int v4), (0, .ref (q 0)), (1, .int p1), (2, .int p2)]) hx hb dX3_stepCount_20 hl (k := 3) rfl (by rw [ev4]; rfl) (by decide) rfl (fun ls hl => ?_)
        refine lv_goto (tgt := 2) hx hb dX3_stepCount_23 (by decide) ?_
        exact ih v4 ls _ (lv_sub hl [1, 2, 3, 0] rfl) hS h
set_option maxHeartbeats 4000000 in
set_option maxRecDepth 100000 in
theorem c_X3_stepCount (l : Launch) (D : va_G) (cI cG : ClassId) (q : Nat → Nat) (S : St) (H : Heap) (F : Nat) (p1 p2 : Int32) {r : Int32} (h : m_X3_stepCount F S p1 p2 = some r) : RoM l yX3_stepCount cX3_stepCount 4 (some .int) 4 101 [.ref (q 0), .int p1, .int p2] D cI cG (wX cI cG q S) H r := by
  refine RoM.of (own := RX3) (by decide) rfl (Nat.le_of_ble_eq_true rfl) ?_
  intro p e s m args below meth c ls X hP hS hl0
  have hl : lv_has ls 4 [(0, .ref (q 0)), (1, .int p1), (2, .int p2)] := hl0 _ (lv_entry [.ref (q 0), .int p1, .int p2] (n := 4) (Nat.le_of_ble_eq_true rfl))
  have hx := X.1
  have hb := X.2.1
  rw [m_X3_stepCount] at h
  refine lv_iconst (v := 0) hx hb dX3_stepCount_0 (by decide) ?_
  refine lv_istore_n (lv' := [(3, .int 0), (0, .ref (q 0)), (1, .int p1), (2, .int p2)]) hx hb dX3_stepCount_1 rfl hl (by decide) rfl (fun ls hl => ?_)
  exact wk_X3_stepCount_2 X hP F 0 ls _ (lv_sub hl [1, 2, 3, 0] rfl) hS h
set_option maxHeartbeats 4000000 in
set_option maxRecDepth 100000 in
theorem c_X3_fall (l : Launch) (D : va_G) (cI cG : ClassId) (q : Nat → Nat) (S : St) (H : Heap) (F : Nat) (p1 p2 p3 p4 : Int32) {r : Int32} (h : m_X3_fall F S p1 p2 p3 p4 = some r) : RoM l yX3_fall cX3_fall 6 (some .int) 6 135 [.ref (q 0), .int p1, .int p2, .int p3, .int p4] D cI cG (wX cI cG q S) H r := by
  refine RoM.of (own := RX3) (by decide) rfl (Nat.le_of_ble_eq_true rfl) ?_
  intro p e s m args below meth c ls X hP hS hl0
  have hl : lv_has ls 6 [(0, .ref (q 0)), (1, .int p1), (2, .int p2), (3, .int p3), (4, .int p4)] := hl0 _ (lv_entry [.ref (q 0), .int p1, .int p2, .int p3, .int p4] (n := 6) (Nat.le_of_ble_eq_true rfl))
  have hx := X.1
  have hb := X.2.1
  rw [m_X3_fall] at h
  refine lv_aload_n hx hb dX3_fall_0 rfl (lv_at hl 0 rfl) ?_
  refine gf_X3_10 X hP dX3_fall_1 ?_
  refine lv_iload_n hx hb dX3_fall_4 rfl (lv_at hl 1 rfl) ?_
  obtain ⟨r1, er1, h⟩ := bd_some h
  refine ro_V (As := [.int p1]) (rest := []) X hP hS hl.1 (c_X0_has l D cI cG q S _ p1 er1) lk_X3_55 (rc_X3_X0 X hP) ⟨by decide, by decide⟩ rfl rfl (Nat.le_of_ble_eq_true rfl) dX3_fall_5 ⟨Nat.le_refl _, Nat.le_refl _⟩ (fun locs hS => ?_)
  refine lv_if_eq (tgt := 18) hx hb dX3_fall_8 (by decide) (fun c2 => ?_) (fun c2 => ?_)
  · have h := tt_some h c2
    refine lv_iconst (v := (-1 : Int32)) hx hb dX3_fall_18 (by decide) ?_
    exact ro_ret X hS h dX3_fall_19
  · have h := ff_some h c2
    refine lv_iload_n hx hb dX3_fall_11 rfl (lv_at hl 2 rfl) ?_
    obtain ⟨r3, er3, h⟩ := bd_some h
    refine ro_S (As := [.int p2]) (rest := []) X hP hS hl.1 (c_X3_isWho l D cI cG _ _ p2 er3) lk_X3_37 ⟨by decide, by decide⟩ rfl rfl (Nat.le_of_ble_eq_true rfl) dX3_fall_12 ⟨Nat.le_refl _, Nat.le_refl _⟩ (fun locs hS => ?_)
    refine lv_if_ne (tgt := 20) hx hb dX3_fall_15 (by decide) (fun c4 => ?_) (fun c4 => ?_)
    · have h := ff_some h c4
      refine lv_iload_n hx hb dX3_fall_20 rfl (lv_at hl 3 rfl) ?_
      obtain ⟨r5, er5, h⟩ := bd_some h
      refine ro_S (As := [.int p3]) (rest := []) X hP hS hl.1 (c_X3_isDay l D cI cG _ _ p3 er5) lk_X3_41 ⟨by decide, by decide⟩ rfl rfl (Nat.le_of_ble_eq_true rfl) dX3_fall_21 ⟨Nat.le_refl _, Nat.le_refl _⟩ (fun locs hS => ?_)
      refine lv_if_ne (tgt := 30) hx hb dX3_fall_24 (by decide) (fun c6 => ?_) (fun c6 => ?_)
      · have h := ff_some h c6
        refine lv_aload_n hx hb dX3_fall_30 rfl (lv_at hl 0 rfl) ?_
        refine gf_X3_10 X hP dX3_fall_31 ?_
        refine lv_iload_n hx hb dX3_fall_34 rfl (lv_at hl 1 rfl) ?_
        refine lv_iload_n hx hb dX3_fall_35 rfl (lv_at hl 2 rfl) ?_
        refine lv_iload_n hx hb dX3_fall_36 rfl (lv_at hl 3 rfl) ?_
        obtain ⟨r7, er7, h⟩ := bd_some h
        refine ro_V (As := [.int p1, .int p2, .int p3]) (rest := []) X hP hS hl.1 (c_X0_wouldCount l D cI cG q S _ p1 p2 p3 er7) lk_X3_124 (rc_X3_X0 X hP) ⟨by decide, by decide⟩ rfl rfl (Nat.le_of_ble_eq_true rfl) dX3_fall_37 ⟨Nat.le_refl _, Nat.le_refl _⟩ (fun locs hS => ?_)
        refine lv_if_ne (tgt := 46) hx hb dX3_fall_40 (by decide) (fun c8 => ?_) (fun c8 => ?_)
        · have h := ff_some h c8
          refine lv_aload_n hx hb dX3_fall_46 rfl (lv_at hl 0 rfl) ?_
          refine lv_iload_n hx hb dX3_fall_47 rfl (lv_at hl 3 rfl) ?_
          obtain ⟨r9, er9, h⟩ := bd_some h
          refine ro_V (As := [.int p3]) (rest := []) X hP hS hl.1 (c_X3_soundOn l D cI cG q S _ F p3 er9) lk_X3_95 (rc_X3_X3 X hP) ⟨by decide, by decide⟩ rfl rfl (Nat.le_of_ble_eq_true rfl) dX3_fall_48 ⟨Nat.le_refl _, Nat.le_refl _⟩ (fun locs hS => ?_)
          refine lv_istore (lv' := [(5, .int r9), (0, .ref (q 0)), (1, .int p1), (2, .int p2), (3, .int p3), (4, .int p4)]) hx hb dX3_fall_51 hl (by decide) rfl (fun ls hl => ?_)
          refine lv_iload hx hb dX3_fall_53 (lv_at hl 5 rfl) ?_
          refine lv_bipush (v := (-2 : Int32)) hx hb dX3_fall_55 (by decide) ?_
          refine lv_icmp_ne (tgt := 68) hx hb dX3_fall_57 (by decide) (fun c10 => ?_) (fun c10 => ?_)
          · have h := ff_some h c10
            refine lv_iload hx hb dX3_fall_68 (lv_at hl 5 rfl) ?_
            refine lv_iconst (v := (-1 : Int32)) hx hb dX3_fall_70 (by decide) ?_
            refine lv_icmp_ne (tgt := 84) hx hb dX3_fall_71 (by decide) (fun c11 => ?_) (fun c11 => ?_)
            · have h := ff_some h c11
              refine lv_aload_n hx hb dX3_fall_84 rfl (lv_at hl 1 rfl) ?_
              refine lv_iload_n hx hb dX3_fall_85 rfl (lv_at hl 2 rfl) ?_
              refine lv_iload hx hb dX3_fall_86 (lv_at hl 0 rfl) ?_
              refine lv_iload hx hb dX3_fall_88 (lv_at hl 5 rfl) ?_
              obtain ⟨r12, er12, h⟩ := bd_some h
              refine ro_V (As := [.int p1, .int r9, .int p4]) (rest := []) X hP hS hl.1 (c_X3_stepAt l D cI cG q S _ F p1 r9 p4 er12) lk_X3_133 (rc_X3_X3 X hP) ⟨by decide, by decide⟩ rfl rfl (Nat.le_of_ble_eq_true rfl) dX3_fall_90 ⟨Nat.le_refl _, Nat.le_refl _⟩ (fun locs hS => ?_)
              exact ro_ret X hS h dX3_fall_93
            · have h := tt_some h c11
              refine lv_aload_n hx hb dX3_fall_74 rfl (lv_at hl 1 rfl) ?_
              refine lv_iload_n hx hb dX3_fall_75 rfl (lv_at hl 2 rfl) ?_
              refine lv_iload hx hb dX3_fall_76 (lv_at hl 0 rfl) ?_
              obtain ⟨r13, er13, h⟩ := bd_some h
              refine ro_V (As := [.int p1, .int r9]) (rest := []) X hP hS hl.1 (c_X3_stepCount l D cI cG q S _ F p1 r9 er13) lk_X3_130 (rc_X3_X3 X hP) ⟨by decide, by decide⟩ rfl rfl (Nat.le_of_ble_eq_true rfl) dX3_fall_78 ⟨Nat.le_refl _, Nat.le_refl _⟩ (fun locs hS => ?_)
              refine lv_goto (tgt := 93) hx hb dX3_fall_81 (by decide) ?_
              exact ro_ret X hS h dX3_fall_93
          · have h := tt_some h c10
            refine lv_aload_n hx hb dX3_fall_60 rfl (lv_at hl 1 rfl) ?_
            refine lv_iload_n hx hb dX3_fall_61 rfl (lv_at hl 2 rfl) ?_
            refine lv_iload hx hb dX3_fall_62 (lv_at hl 0 rfl) ?_
            obtain ⟨r14, er14, h⟩ := bd_some h
            refine ro_V (As := [.int p1, .int r9]) (rest := []) X hP hS hl.1 (c_X3_fallen l D cI cG q S _ F p1 r9 er14) lk_X3_127 (rc_X3_X3 X hP) ⟨by decide, by decide⟩ rfl rfl (Nat.le_of_ble_eq_true rfl) dX3_fall_64 ⟨Nat.le_refl _, Nat.le_refl _⟩ (fun locs hS => ?_)
            exact ro_ret X hS h dX3_fall_67
        · have h := tt_some h c8
          refine lv_bipush (v := (-5 : Int32)) hx hb dX3_fall_43 (by decide) ?_
          exact ro_ret X hS h dX3_fall_45
      · have h := tt_some h c6
        refine lv_bipush (v := (-2 : Int32)) hx hb dX3_fall_27 (by decide) ?_
        exact ro_ret X hS h dX3_fall_29
    · have h := tt_some h c4
      refine lv_iconst (v := (-1 : Int32)) hx hb dX3_fall_18 (by decide) ?_
      exact ro_ret X hS h dX3_fall_19
set_option maxHeartbeats 4000000 in
set_option maxRecDepth 100000 in
theorem c_X3_back (l : Launch) (D : va_G) (cI cG : ClassId) (q : Nat → Nat) (S : St) (H : Heap) (F : Nat) (p1 p2 p3 p4 : Int32) {r : Int32} (h : m_X3_back F S p1 p2 p3 p4 = some r) : RoM l yX3_back cX3_back 5 (some .int) 6 135 [.ref (q 0), .int p1, .int p2, .int p3, .int p4] D cI cG (wX cI cG q S) H r := by
  refine RoM.of (own := RX3) (by decide) rfl (Nat.le_of_ble_eq_true rfl) ?_
  intro p e s m args below meth c ls X hP hS hl0
  have hl : lv_has ls 5 [(0, .ref (q 0)), (1, .int p1), (2, .int p2), (3, .int p3), (4, .int p4)] := hl0 _ (lv_entry [.ref (q 0), .int p1, .int p2, .int p3, .int p4] (n := 5) (Nat.le_of_ble_eq_true rfl))
  have hx := X.1
  have hb := X.2.1
  rw [m_X3_back] at h
  refine lv_aload_n hx hb dX3_back_0 rfl (lv_at hl 0 rfl) ?_
  refine gf_X3_10 X hP dX3_back_1 ?_
  refine lv_iload_n hx hb dX3_back_4 rfl (lv_at hl 1 rfl) ?_
  obtain ⟨r1, er1, h⟩ := bd_some h
  refine ro_V (As := [.int p1]) (rest := []) X hP hS hl.1 (c_X0_has l D cI cG q S _ p1 er1) lk_X3_55 (rc_X3_X0 X hP) ⟨by decide, by decide⟩ rfl rfl (Nat.le_of_ble_eq_true rfl) dX3_back_5 ⟨Nat.le_refl _, Nat.le_refl _⟩ (fun locs hS => ?_)
  refine lv_if_eq (tgt := 26) hx hb dX3_back_8 (by decide) (fun c2 => ?_) (fun c2 => ?_)
  · have h := tt_some h c2
    refine lv_ldc (v := (-1000000001 : Int32)) hx hb X.2.2.2.2.2.1 (X.2.2.2.2.2.2.1 _ w_k_X3_136) dX3_back_26 ?_
    exact ro_ret X hS h dX3_back_28
  · have h := ff_some h c2
    refine lv_iload_n hx hb dX3_back_11 rfl (lv_at hl 2 rfl) ?_
    obtain ⟨r3, er3, h⟩ := bd_some h
    refine ro_S (As := [.int p2]) (rest := []) X hP hS hl.1 (c_X3_isWho l D cI cG _ _ p2 er3) lk_X3_37 ⟨by decide, by decide⟩ rfl rfl (Nat.le_of_ble_eq_true rfl) dX3_back_12 ⟨Nat.le_refl _, Nat.le_refl _⟩ (fun locs hS => ?_)
    refine lv_if_eq (tgt := 26) hx hb dX3_back_15 (by decide) (fun c4 => ?_) (fun c4 => ?_)
    · have h := tt_some h c4
      refine lv_ldc (v := (-1000000001 : Int32)) hx hb X.2.2.2.2.2.1 (X.2.2.2.2.2.2.1 _ w_k_X3_136) dX3_back_26 ?_
      exact ro_ret X hS h dX3_back_28
    · have h := ff_some h c4
      refine lv_iload hx hb dX3_back_18 (lv_at hl 4 rfl) ?_
      obtain ⟨r5, er5, h⟩ := bd_some h
      refine ro_S (As := [.int p4]) (rest := []) X hP hS hl.1 (c_X3_isWho l D cI cG _ _ p4 er5) lk_X3_37 ⟨by decide, by decide⟩ rfl rfl (Nat.le_of_ble_eq_true rfl) dX3_back_20 ⟨Nat.le_refl _, Nat.le_refl _⟩ (fun locs hS => ?_)
      refine lv_if_ne (tgt := 29) hx hb dX3_back_23 (by decide) (fun c6 => ?_) (fun c6 => ?_)
      · have h := ff_some h c6
        refine lv_iload_n hx hb dX3_back_29 rfl (lv_at hl 3 rfl) ?_
        obtain ⟨r7, er7, h⟩ := bd_some h
        refine ro_S (As := [.int p3]) (rest := []) X hP hS hl.1 (c_X3_isDay l D cI cG _ _ p3 er7) lk_X3_41 ⟨by decide, by decide⟩ rfl rfl (Nat.le_of_ble_eq_true rfl) dX3_back_30 ⟨Nat.le_refl _, Nat.le_refl _⟩ (fun locs hS => ?_)
        refine lv_if_ne (tgt := 39) hx hb dX3_back_33 (by decide) (fun c8 => ?_) (fun c8 => ?_)
        · have h := ff_some h c8
          refine lv_aload_n hx hb dX3_back_39 rfl (lv_at hl 0 rfl) ?_
          refine gf_X3_10 X hP dX3_back_40 ?_
          refine lv_iload_n hx hb dX3_back_43 rfl (lv_at hl 1 rfl) ?_
          refine lv_iload_n hx hb dX3_back_44 rfl (lv_at hl 2 rfl) ?_
          refine lv_iload_n hx hb dX3_back_45 rfl (lv_at hl 3 rfl) ?_
          obtain ⟨r9, er9, h⟩ := bd_some h
          refine ro_V (As := [.int p1, .int p2, .int p3]) (rest := []) X hP hS hl.1 (c_X0_wouldCount l D cI cG q S _ p1 p2 p3 er9) lk_X3_124 (rc_X3_X0 X hP) ⟨by decide, by decide⟩ rfl rfl (Nat.le_of_ble_eq_true rfl) dX3_back_46 ⟨Nat.le_refl _, Nat.le_refl _⟩ (fun locs hS => ?_)
          refine lv_if_ne (tgt := 55) hx hb dX3_back_49 (by decide) (fun c10 => ?_) (fun c10 => ?_)
          · have h := ff_some h c10
            refine lv_aload_n hx hb dX3_back_55 rfl (lv_at hl 0 rfl) ?_
            refine gf_X3_10 X hP dX3_back_56 ?_
            refine lv_aload_n hx hb dX3_back_59 rfl (lv_at hl 0 rfl) ?_
            refine lv_iload_n hx hb dX3_back_60 rfl (lv_at hl 1 rfl) ?_
            refine lv_aload_n hx hb dX3_back_61 rfl (lv_at hl 0 rfl) ?_
            refine lv_iload_n hx hb dX3_back_62 rfl (lv_at hl 3 rfl) ?_
            obtain ⟨r11, er11, h⟩ := bd_some h
            refine ro_V (As := [.int p3]) (rest := [.int p1, .ref (q 0), .ref (q 1)]) X hP hS hl.1 (c_X3_soundOn l D cI cG q S _ F p3 er11) lk_X3_95 (rc_X3_X3 X hP) ⟨by decide, by decide⟩ rfl rfl (Nat.le_of_ble_eq_true rfl) dX3_back_63 ⟨Nat.le_refl _, Nat.le_refl _⟩ (fun locs hS => ?_)
            obtain ⟨r12, er12, h⟩ := bd_some h
            refine ro_V (As := [.int p1, .int r11]) (rest := [.ref (q 1)]) X hP hS hl.1 (c_X3_fallen l D cI cG q S _ F p1 r11 er12) lk_X3_127 (rc_X3_X3 X hP) ⟨by decide, by decide⟩ rfl rfl (Nat.le_of_ble_eq_true rfl) dX3_back_66 ⟨Nat.le_refl _, Nat.le_refl _⟩ (fun locs hS => ?_)
            refine lv_iload_n hx hb dX3_back_69 rfl (lv_at hl 3 rfl) ?_
            refine lv_iload hx hb dX3_back_70 (lv_at hl 4 rfl) ?_
            refine lv_aload_n hx hb dX3_back_72 rfl (lv_at hl 0 rfl) ?_
            refine gf_X3_34 X hP dX3_back_73 ?_
            obtain ⟨r13, er13, h⟩ := bd_some h
            refine ro_V (As := [.int r12, .int p3, .int p4, .int (S 0 1)]) (rest := []) X hP hS hl.1 (c_X0_gain l D cI cG q S _ F r12 p3 p4 (S 0 1) er13) lk_X3_139 (rc_X3_X0 X hP) ⟨by decide, by decide⟩ rfl rfl (Nat.le_of_ble_eq_true rfl) dX3_back_76 ⟨Nat.le_refl _, Nat.le_refl _⟩ (fun locs hS => ?_)
            exact ro_ret X hS h dX3_back_79
          · have h := tt_some h c10
            refine lv_ldc (v := (-1000000005 : Int32)) hx hb X.2.2.2.2.2.1 (X.2.2.2.2.2.2.1 _ w_k_X3_138) dX3_back_52 ?_
            exact ro_ret X hS h dX3_back_54
        · have h := tt_some h c8
          refine lv_ldc (v := (-1000000002 : Int32)) hx hb X.2.2.2.2.2.1 (X.2.2.2.2.2.2.1 _ w_k_X3_137) dX3_back_36 ?_
          exact ro_ret X hS h dX3_back_38
      · have h := tt_some h c6
        refine lv_ldc (v := (-1000000001 : Int32)) hx hb X.2.2.2.2.2.1 (X.2.2.2.2.2.2.1 _ w_k_X3_136) dX3_back_26 ?_
        exact ro_ret X hS h dX3_back_28
set_option maxHeartbeats 4000000 in
set_option maxRecDepth 100000 in
theorem wk_X3_wiseWho_11 {p : Program} {l : Launch} {e : Env} {s : State} {m : MethodId} {args : Array Value} {below : List Frame} {meth : Method} {c : Code} {D : va_G} {cI cG : ClassId} {q : Nat → Nat} {S : St} {H : Heap} {r : Int32} {F : Nat} {p1 p2 p3 : Int32}  (X : Cx p s m args meth c cX3_wiseWho 6 (some .int) RX3 D cI cG) (hP : va_P D vwCl (wX cI cG q S) H)  : ∀ (n : Nat) (x4 : Int32) (x5 : Int32) (ls : Array Slot) (locs : List Loc), lv_has ls 6 [(0, .ref (q 0)), (1, .int p1), (2, .int p2), (4, .int x4), (5, .int x5)] → va_S no s.heap H locs → m_X3_wiseWho_11 F S p1 p2 p3 n x4 x5 = some r → W p l e { frames := 4, cells := 0, slots := 0, locals := 98 } s m args below meth c H locs 0 0 (MQ below (roQ H r) args s 0 0 no) (F0 m 11 ls []) := by
  have hx := X.1
  have hb := X.2.1
  intro n
  induction n with
  | zero =>
    intro x4 x5 ls locs hl hS h
    exact no_none (show none = some r from h)
  | succ n ih =>
    intro x4 x5 ls locs hl hS h
    rw [m_X3_wiseWho_11] at h
    refine lv_iload hx hb dX3_wiseWho_11 (lv_at hl 4 rfl) ?_
    refine lv_iconst (v := 4) hx hb dX3_wiseWho_13 (by decide) ?_
    refine lv_icmp_ge (tgt := 59) hx hb dX3_wiseWho_14 (by decide) (fun c2 => ?_) (fun c2 => ?_)
    · have h := tt_some h c2
      refine lv_bipush (v := (-6 : Int32)) hx hb dX3_wiseWho_59 (by decide) ?_
      exact ro_ret X hS h dX3_wiseWho_61
    · have h := ff_some h c2
      refine lv_aload_n hx hb dX3_wiseWho_17 rfl (lv_at hl 0 rfl) ?_
      refine gf_X3_10 X hP dX3_wiseWho_18 ?_
      refine lv_iload_n hx hb dX3_wiseWho_21 rfl (lv_at hl 1 rfl) ?_
      refine lv_iload hx hb dX3_wiseWho_22 (lv_at hl 4 rfl) ?_
      refine lv_iload_n hx hb dX3_wiseWho_24 rfl (lv_at hl 2 rfl) ?_
      obtain ⟨r3, er3, h⟩ := bd_some h
      refine ro_V (As := [.int p1, .int x5, .int p2]) (rest := []) X hP hS hl.1 (c_X0_wouldCount l D cI cG q S _ p1 x5 p2 er3) lk_X3_124 (rc_X3_X0 X hP) ⟨by decide, by decide⟩ rfl rfl (Nat.le_of_ble_eq_true rfl) dX3_wiseWho_25 ⟨Nat.le_refl _, Nat.le_refl _⟩ (fun locs hS => ?_)
      refine lv_if_eq (tgt := 53) hx hb dX3_wiseWho_28 (by decide) (fun c4 => ?_) (fun c4 => ?_)
      · have h := tt_some h c4
        obtain ⟨v5, ev5⟩ : ∃ y : Int32, y = x5 + 1 := ⟨_, rfl⟩
        have h := nm_some h ev5
        refine lv_iinc (v := v5) (lv' := [(5, .int v5), (0, .ref (q 0)), (1, .int p1), (2, .int p2), (4, .int x4)]) hx hb dX3_wiseWho_53 hl (k := 4) rfl (by rw [ev5]; rfl) (by decide) rfl (fun ls hl => ?_)
        refine lv_goto (tgt := 11) hx hb dX3_wiseWho_56 (by decide) ?_
        exact ih x4 v5 ls _ (lv_sub hl [1, 2, 3, 4, 0] rfl) hS h
      · have h := ff_some h c4
        refine lv_aload_n hx hb dX3_wiseWho_31 rfl (lv_at hl 0 rfl) ?_
        refine gf_X3_10 X hP dX3_wiseWho_32 ?_
        refine lv_iload hx hb dX3_wiseWho_35 (lv_at hl 3 rfl) ?_
        refine lv_iload_n hx hb dX3_wiseWho_37 rfl (lv_at hl 2 rfl) ?_
        refine lv_iload hx hb dX3_wiseWho_38 (lv_at hl 4 rfl) ?_
        refine lv_aload_n hx hb dX3_wiseWho_40 rfl (lv_at hl 0 rfl) ?_
        refine gf_X3_34 X hP dX3_wiseWho_41 ?_
        obtain ⟨r6, er6, h⟩ := bd_some h
        refine ro_V (As := [.int x4, .int p2, .int x5, .int (S 0 1)]) (rest := []) X hP hS hl.1 (c_X0_gain l D cI cG q S _ F x4 p2 x5 (S 0 1) er6) lk_X3_139 (rc_X3_X0 X hP) ⟨by decide, by decide⟩ rfl rfl (Nat.le_of_ble_eq_true rfl) dX3_wiseWho_44 ⟨Nat.le_refl _, Nat.le_refl _⟩ (fun locs hS => ?_)
        refine lv_if_le (tgt := 53) hx hb dX3_wiseWho_47 (by decide) (fun c7 => ?_) (fun c7 => ?_)
        · have h := tt_some h c7
          obtain ⟨v8, ev8⟩ : ∃ y : Int32, y = x5 + 1 := ⟨_, rfl⟩
          have h := nm_some h ev8
          refine lv_iinc (v := v8) (lv' := [(5, .int v8), (0, .ref (q 0)), (1, .int p1), (2, .int p2), (4, .int x4)]) hx hb dX3_wiseWho_53 hl (k := 4) rfl (by rw [ev8]; rfl) (by decide) rfl (fun ls hl => ?_)
          refine lv_goto (tgt := 11) hx hb dX3_wiseWho_56 (by decide) ?_
          exact ih x4 v8 ls _ (lv_sub hl [1, 2, 3, 4, 0] rfl) hS h
        · have h := ff_some h c7
          refine lv_iload hx hb dX3_wiseWho_50 (lv_at hl 4 rfl) ?_
          exact ro_ret X hS h dX3_wiseWho_52
set_option maxHeartbeats 4000000 in
set_option maxRecDepth 100000 in
theorem c_X3_wiseWho (l : Launch) (D : va_G) (cI cG : ClassId) (q : Nat → Nat) (S : St) (H : Heap) (F : Nat) (p1 p2 p3 : Int32) {r : Int32} (h : m_X3_wiseWho F S p1 p2 p3 = some r) : RoM l yX3_wiseWho cX3_wiseWho 6 (some .int) 4 98 [.ref (q 0), .int p1, .int p2, .int p3] D cI cG (wX cI cG q S) H r := by
  refine RoM.of (own := RX3) (by decide) rfl (Nat.le_of_ble_eq_true rfl) ?_
  intro p e s m args below meth c ls X hP hS hl0
  have hl : lv_has ls 6 [(0, .ref (q 0)), (1, .int p1), (2, .int p2), (3, .int p3)] := hl0 _ (lv_entry [.ref (q 0), .int p1, .int p2, .int p3] (n := 6) (Nat.le_of_ble_eq_true rfl))
  have hx := X.1
  have hb := X.2.1
  rw [m_X3_wiseWho] at h
  refine lv_aload_n hx hb dX3_wiseWho_0 rfl (lv_at hl 0 rfl) ?_
  refine lv_iload_n hx hb dX3_wiseWho_1 rfl (lv_at hl 1 rfl) ?_
  refine lv_iload_n hx hb dX3_wiseWho_2 rfl (lv_at hl 3 rfl) ?_
  obtain ⟨r1, er1, h⟩ := bd_some h
  refine ro_V (As := [.int p1, .int p3]) (rest := []) X hP hS hl.1 (c_X3_fallen l D cI cG q S _ F p1 p3 er1) lk_X3_127 (rc_X3_X3 X hP) ⟨by decide, by decide⟩ rfl rfl (Nat.le_of_ble_eq_true rfl) dX3_wiseWho_3 ⟨Nat.le_refl _, Nat.le_refl _⟩ (fun locs hS => ?_)
  refine lv_istore (lv' := [(4, .int r1), (0, .ref (q 0)), (1, .int p1), (2, .int p2), (3, .int p3)]) hx hb dX3_wiseWho_6 hl (by decide) rfl (fun ls hl => ?_)
  refine lv_iconst (v := 0) hx hb dX3_wiseWho_8 (by decide) ?_
  refine lv_istore (lv' := [(5, .int 0), (4, .int r1), (0, .ref (q 0)), (1, .int p1), (2, .int p2), (3, .int p3)]) hx hb dX3_wiseWho_9 hl (by decide) rfl (fun ls hl => ?_)
  exact wk_X3_wiseWho_11 X hP F r1 0 ls _ (lv_sub hl [2, 3, 4, 1, 0] rfl) hS h
set_option maxHeartbeats 4000000 in
set_option maxRecDepth 100000 in
theorem c_X3_wise (l : Launch) (D : va_G) (cI cG : ClassId) (q : Nat → Nat) (S : St) (H : Heap) (F : Nat) (p1 p2 : Int32) {r : Int32} (h : m_X3_wise F S p1 p2 = some r) : RoM l yX3_wise cX3_wise 3 (some .int) 6 135 [.ref (q 0), .int p1, .int p2] D cI cG (wX cI cG q S) H r := by
  refine RoM.of (own := RX3) (by decide) rfl (Nat.le_of_ble_eq_true rfl) ?_
  intro p e s m args below meth c ls X hP hS hl0
  have hl : lv_has ls 3 [(0, .ref (q 0)), (1, .int p1), (2, .int p2)] := hl0 _ (lv_entry [.ref (q 0), .int p1, .int p2] (n := 3) (Nat.le_of_ble_eq_true rfl))
  have hx := X.1
  have hb := X.2.1
  rw [m_X3_wise] at h
  refine lv_aload_n hx hb dX3_wise_0 rfl (lv_at hl 0 rfl) ?_
  refine gf_X3_10 X hP dX3_wise_1 ?_
  refine lv_iload_n hx hb dX3_wise_4 rfl (lv_at hl 1 rfl) ?_
  obtain ⟨r1, er1, h⟩ := bd_some h
  refine ro_V (As := [.int p1]) (rest := []) X hP hS hl.1 (c_X0_has l D cI cG q S _ p1 er1) lk_X3_55 (rc_X3_X0 X hP) ⟨by decide, by decide⟩ rfl rfl (Nat.le_of_ble_eq_true rfl) dX3_wise_5 ⟨Nat.le_refl _, Nat.le_refl _⟩ (fun locs hS => ?_)
  refine lv_if_ne (tgt := 13) hx hb dX3_wise_8 (by decide) (fun c2 => ?_) (fun c2 => ?_)
  · have h := ff_some h c2
    refine lv_iload_n hx hb dX3_wise_13 rfl (lv_at hl 2 rfl) ?_
    obtain ⟨r3, er3, h⟩ := bd_some h
    refine ro_S (As := [.int p2]) (rest := []) X hP hS hl.1 (c_X3_isDay l D cI cG _ _ p2 er3) lk_X3_41 ⟨by decide, by decide⟩ rfl rfl (Nat.le_of_ble_eq_true rfl) dX3_wise_14 ⟨Nat.le_refl _, Nat.le_refl _⟩ (fun locs hS => ?_)
    refine lv_if_ne (tgt := 23) hx hb dX3_wise_17 (by decide) (fun c4 => ?_) (fun c4 => ?_)
    · have h := ff_some h c4
      refine lv_aload_n hx hb dX3_wise_23 rfl (lv_at hl 0 rfl) ?_
      refine lv_iload_n hx hb dX3_wise_24 rfl (lv_at hl 1 rfl) ?_
      refine lv_iload_n hx hb dX3_wise_25 rfl (lv_at hl 2 rfl) ?_
      refine lv_aload_n hx hb dX3_wise_26 rfl (lv_at hl 0 rfl) ?_
      refine lv_iload_n hx hb dX3_wise_27 rfl (lv_at hl 2 rfl) ?_
      obtain ⟨r5, er5, h⟩ := bd_some h
      refine ro_V (As := [.int p2]) (rest := [.int p2, .int p1, .ref (q 0)]) X hP hS hl.1 (c_X3_soundOn l D cI cG q S _ F p2 er5) lk_X3_95 (rc_X3_X3 X hP) ⟨by decide, by decide⟩ rfl rfl (Nat.le_of_ble_eq_true rfl) dX3_wise_28 ⟨Nat.le_refl _, Nat.le_refl _⟩ (fun locs hS => ?_)
      obtain ⟨r6, er6, h⟩ := bd_some h
      refine ro_V (As := [.int p1, .int p2, .int r5]) (rest := []) X hP hS hl.1 (c_X3_wiseWho l D cI cG q S _ F p1 p2 r5 er6) lk_X3_142 (rc_X3_X3 X hP) ⟨by decide, by decide⟩ rfl rfl (Nat.le_of_ble_eq_true rfl) dX3_wise_31 ⟨Nat.le_refl _, Nat.le_refl _⟩ (fun locs hS => ?_)
      exact ro_ret X hS h dX3_wise_34
    · have h := tt_some h c4
      refine lv_bipush (v := (-2 : Int32)) hx hb dX3_wise_20 (by decide) ?_
      exact ro_ret X hS h dX3_wise_22
  · have h := tt_some h c2
    refine lv_iconst (v := (-1 : Int32)) hx hb dX3_wise_11 (by decide) ?_
    exact ro_ret X hS h dX3_wise_12
set_option maxHeartbeats 4000000 in
set_option maxRecDepth 100000 in
theorem wk_X3_firstWiseAct_2 {p : Program} {l : Launch} {e : Env} {s : State} {m : MethodId} {args : Array Value} {below : List Frame} {meth : Method} {c : Code} {D : va_G} {cI cG : ClassId} {q : Nat → Nat} {S : St} {H : Heap} {r : Int32} {F : Nat} {p1 p2 : Int32}  (X : Cx p s m args meth c cX3_firstWiseAct 4 (some .int) RX3 D cI cG) (hP : va_P D vwCl (wX cI cG q S) H)  : ∀ (n : Nat) (x3 : Int32) (ls : Array Slot) (locs : List Loc), lv_has ls 4 [(0, .ref (q 0)), (1, .int p1), (2, .int p2), (3, .int x3)] → va_S no s.heap H locs → m_X3_firstWiseAct_2 F S p1 p2 n x3 = some r → W p l e { frames := 5, cells := 0, slots := 0, locals := 123 } s m args below meth c H locs 0 0 (MQ below (roQ H r) args s 0 0 no) (F0 m 2 ls []) := by
  have hx := X.1
  have hb := X.2.1
  intro n
  induction n with
  | zero =>
    intro x3 ls locs hl hS h
    exact no_none (show none = some r from h)
  | succ n ih =>
    intro x3 ls locs hl hS h
    rw [m_X3_firstWiseAct_2] at h
    refine lv_iload_n hx hb dX3_firstWiseAct_2 rfl (lv_at hl 3 rfl) ?_
    refine lv_aload_n hx hb dX3_firstWiseAct_3 rfl (lv_at hl 0 rfl) ?_
    refine gf_X3_10 X hP dX3_firstWiseAct_4 ?_
    refine gf_X3_48 X hP dX3_firstWiseAct_7 ?_
    refine lv_icmp_ge (tgt := 33) hx hb dX3_firstWiseAct_10 (by decide) (fun c1 => ?_) (fun c1 => ?_)
    · have h := tt_some h c1
      refine lv_bipush (v := (-6 : Int32)) hx hb dX3_firstWiseAct_33 (by decide) ?_
      exact ro_ret X hS h dX3_firstWiseAct_35
    · have h := ff_some h c1
      refine lv_aload_n hx hb dX3_firstWiseAct_13 rfl (lv_at hl 0 rfl) ?_
      refine lv_iload_n hx hb dX3_firstWiseAct_14 rfl (lv_at hl 3 rfl) ?_
      refine lv_iload_n hx hb dX3_firstWiseAct_15 rfl (lv_at hl 1 rfl) ?_
      refine lv_iload_n hx hb dX3_firstWiseAct_16 rfl (lv_at hl 2 rfl) ?_
      obtain ⟨r2, er2, h⟩ := bd_some h
      refine ro_V (As := [.int x3, .int p1, .int p2]) (rest := []) X hP hS hl.1 (c_X3_wiseWho l D cI cG q S _ F x3 p1 p2 er2) lk_X3_142 (rc_X3_X3 X hP) ⟨by decide, by decide⟩ rfl rfl (Nat.le_of_ble_eq_true rfl) dX3_firstWiseAct_17 ⟨Nat.le_refl _, Nat.le_refl _⟩ (fun locs hS => ?_)
      refine lv_bipush (v := (-6 : Int32)) hx hb dX3_firstWiseAct_20 (by decide) ?_
      refine lv_icmp_eq (tgt := 27) hx hb dX3_firstWiseAct_22 (by decide) (fun c3 => ?_) (fun c3 => ?_)
      · have h := tt_some h c3
        obtain ⟨v4, ev4⟩ : ∃ y : Int32, y = x3 + 1 := ⟨_, rfl⟩
        have h := nm_some h ev4
        refine lv_iinc (v := v4) (lv' := [(3, .int v4), (0, .ref (q 0)), (1, .int p1), (2, .int p2)]) hx hb dX3_firstWiseAct_27 hl (k := 3) rfl (by rw [ev4]; rfl) (by decide) rfl (fun ls hl => ?_)
        refine lv_goto (tgt := 2) hx hb dX3_firstWiseAct_30 (by decide) ?_
        exact ih v4 ls _ (lv_sub hl [1, 2, 3, 0] rfl) hS h
      · have h := ff_some h c3
        refine lv_iload_n hx hb dX3_firstWiseAct_25 rfl (lv_at hl 3 rfl) ?_
        exact ro_ret X hS h dX3_firstWiseAct_26
set_option maxHeartbeats 4000000 in
set_option maxRecDepth 100000 in
theorem c_X3_firstWiseAct (l : Launch) (D : va_G) (cI cG : ClassId) (q : Nat → Nat) (S : St) (H : Heap) (F : Nat) (p1 p2 : Int32) {r : Int32} (h : m_X3_firstWiseAct F S p1 p2 = some r) : RoM l yX3_firstWiseAct cX3_firstWiseAct 4 (some .int) 5 123 [.ref (q 0), .int p1, .int p2] D cI cG (wX cI cG q S) H r := by
  refine RoM.of (own := RX3) (by decide) rfl (Nat.le_of_ble_eq_true rfl) ?_
  intro p e s m args below meth c ls X hP hS hl0
  have hl : lv_has ls 4 [(0, .ref (q 0)), (1, .int p1), (2, .int p2)] := hl0 _ (lv_entry [.ref (q 0), .int p1, .int p2] (n := 4) (Nat.le_of_ble_eq_true rfl))
  have hx := X.1
  have hb := X.2.1
  rw [m_X3_firstWiseAct] at h
  refine lv_iconst (v := 0) hx hb dX3_firstWiseAct_0 (by decide) ?_
  refine lv_istore_n (lv' := [(3, .int 0), (0, .ref (q 0)), (1, .int p1), (2, .int p2)]) hx hb dX3_firstWiseAct_1 rfl hl (by decide) rfl (fun ls hl => ?_)
  exact wk_X3_firstWiseAct_2 X hP F 0 ls _ (lv_sub hl [1, 2, 3, 0] rfl) hS h
set_option maxHeartbeats 4000000 in
set_option maxRecDepth 100000 in
theorem wk_X3_rest_66 {p : Program} {l : Launch} {e : Env} {s : State} {m : MethodId} {args : Array Value} {below : List Frame} {meth : Method} {c : Code} {D : va_G} {cI cG : ClassId} {q : Nat → Nat} {S : St} {H : Heap} {r : Int32} {F : Nat} {p1 p2 : Int32}  (X : Cx p s m args meth c cX3_rest 6 (some .int) RX3 D cI cG) (hP : va_P D vwCl (wX cI cG q S) H)  : ∀ (x3 : Int32) (x4 : Int32) (ls : Array Slot) (locs : List Loc), lv_has ls 6 [(0, .ref (q 0)), (2, .int p2), (3, .int x3), (4, .int x4)] → va_S no s.heap H locs → m_X3_rest_66 F S p1 p2 x3 x4 = some r → W p l e { frames := 6, cells := 0, slots := 0, locals := 146 } s m args below meth c H locs 0 0 (MQ below (roQ H r) args s 0 0 no) (F0 m 66 ls []) := by
  have hx := X.1
  have hb := X.2.1
  intro x3 x4 ls locs hl hS h
  rw [m_X3_rest_66] at h
  refine lv_iload_n hx hb dX3_rest_66 rfl (lv_at hl 1 rfl) ?_
  refine lv_if_ne (tgt := 75) hx hb dX3_rest_67 (by decide) (fun c11 => ?_) (fun c11 => ?_)
  · have h := ff_some h c11
    refine lv_aload_n hx hb dX3_rest_75 rfl (lv_at hl 0 rfl) ?_
    refine gf_X3_10 X hP dX3_rest_76 ?_
    refine lv_iload_n hx hb dX3_rest_79 rfl (lv_at hl 2 rfl) ?_
    refine lv_aload_n hx hb dX3_rest_80 rfl (lv_at hl 0 rfl) ?_
    obtain ⟨r12, er12, h⟩ := bd_some h
    refine ro_V (As := []) (rest := [.int x3, .ref (q 1)]) X hP hS hl.1 (c_X3_exempt l D cI cG q S _ F er12) lk_X3_98 (rc_X3_X3 X hP) ⟨by decide, by decide⟩ rfl rfl (Nat.le_of_ble_eq_true rfl) dX3_rest_81 ⟨Nat.le_refl _, Nat.le_refl _⟩ (fun locs hS => ?_)
    obtain ⟨r13, er13, h⟩ := bd_some h
    refine ro_V (As := [.int x3, .int r12]) (rest := []) X hP hS hl.1 (c_X0_most l D cI cG q S _ F x3 r12 er13) lk_X3_101 (rc_X3_X0 X hP) ⟨by decide, by decide⟩ rfl rfl (Nat.le_of_ble_eq_true rfl) dX3_rest_84 ⟨Nat.le_refl _, Nat.le_refl _⟩ (fun locs hS => ?_)
    exact ro_ret X hS h dX3_rest_87
  · have h := tt_some h c11
    refine lv_iload hx hb dX3_rest_70 (lv_at hl 3 rfl) ?_
    refine lv_goto (tgt := 87) hx hb dX3_rest_72 (by decide) ?_
    exact ro_ret X hS h dX3_rest_87
set_option maxHeartbeats 4000000 in
set_option maxRecDepth 100000 in
theorem wk_X3_rest_28 {p : Program} {l : Launch} {e : Env} {s : State} {m : MethodId} {args : Array Value} {below : List Frame} {meth : Method} {c : Code} {D : va_G} {cI cG : ClassId} {q : Nat → Nat} {S : St} {H : Heap} {r : Int32} {F : Nat} {p1 p2 : Int32}  (X : Cx p s m args meth c cX3_rest 6 (some .int) RX3 D cI cG) (hP : va_P D vwCl (wX cI cG q S) H)  : ∀ (n : Nat) (x3 : Int32) (x4 : Int32) (ls : Array Slot) (locs : List Loc), lv_has ls 6 [(0, .ref (q 0)), (1, .int p1), (2, .int p2), (3, .int x3), (4, .int x4)] → va_S no s.heap H locs → m_X3_rest_28 F S p1 p2 n x3 x4 = some r → W p l e { frames := 6, cells := 0, slots := 0, locals := 146 } s m args below meth c H locs 0 0 (MQ below (roQ H r) args s 0 0 no) (F0 m 28 ls []) := by
  have hx := X.1
  have hb := X.2.1
  intro n
  induction n with
  | zero =>
    intro x3 x4 ls locs hl hS h
    exact no_none (show none = some r from h)
  | succ n ih =>
    intro x3 x4 ls locs hl hS h
    rw [m_X3_rest_28] at h
    refine lv_iload hx hb dX3_rest_28 (lv_at hl 4 rfl) ?_
    refine lv_bipush (v := 12) hx hb dX3_rest_30 (by decide) ?_
    refine lv_icmp_ge (tgt := 66) hx hb dX3_rest_32 (by decide) (fun c6 => ?_) (fun c6 => ?_)
    · have h := tt_some h c6
      exact wk_X3_rest_66 X hP x3 x4 ls _ (lv_sub hl [0, 2, 3, 4] rfl) hS h
    · have h := ff_some h c6
      refine lv_aload_n hx hb dX3_rest_35 rfl (lv_at hl 0 rfl) ?_
      refine lv_iload_n hx hb dX3_rest_36 rfl (lv_at hl 1 rfl) ?_
      refine lv_iload_n hx hb dX3_rest_37 rfl (lv_at hl 3 rfl) ?_
      obtain ⟨r7, er7, h⟩ := bd_some h
      refine ro_V (As := [.int p1, .int x3]) (rest := []) X hP hS hl.1 (c_X3_firstWiseAct l D cI cG q S _ F p1 x3 er7) lk_X3_145 (rc_X3_X3 X hP) ⟨by decide, by decide⟩ rfl rfl (Nat.le_of_ble_eq_true rfl) dX3_rest_38 ⟨Nat.le_refl _, Nat.le_refl _⟩ (fun locs hS => ?_)
      refine lv_istore (lv' := [(5, .int r7), (0, .ref (q 0)), (1, .int p1), (2, .int p2), (3, .int x3), (4, .int x4)]) hx hb dX3_rest_41 hl (by decide) rfl (fun ls hl => ?_)
      refine lv_iload hx hb dX3_rest_43 (lv_at hl 0 rfl) ?_
      refine lv_bipush (v := (-6 : Int32)) hx hb dX3_rest_45 (by decide) ?_
      refine lv_icmp_ne (tgt := 53) hx hb dX3_rest_47 (by decide) (fun c8 => ?_) (fun c8 => ?_)
      · have h := ff_some h c8
        refine lv_iload_n hx hb dX3_rest_53 rfl (lv_at hl 4 rfl) ?_
        refine lv_iload hx hb dX3_rest_54 (lv_at hl 0 rfl) ?_
        obtain ⟨r9, er9, h⟩ := bd_some h
        refine ro_S (As := [.int x3, .int r7]) (rest := []) X hP hS hl.1 (c_X3_without l D cI cG _ _ x3 r7 er9) lk_X3_148 ⟨by decide, by decide⟩ rfl rfl (Nat.le_of_ble_eq_true rfl) dX3_rest_56 ⟨Nat.le_refl _, Nat.le_refl _⟩ (fun locs hS => ?_)
        refine lv_istore_n (lv' := [(3, .int r9), (5, .int r7), (0, .ref (q 0)), (1, .int p1), (2, .int p2), (4, .int x4)]) hx hb dX3_rest_59 rfl hl (by decide) rfl (fun ls hl => ?_)
        obtain ⟨v10, ev10⟩ : ∃ y : Int32, y = x4 + 1 := ⟨_, rfl⟩
        have h := nm_some h ev10
        refine lv_iinc (v := v10) (lv' := [(4, .int v10), (3, .int r9), (5, .int r7), (0, .ref (q 0)), (1, .int p1), (2, .int p2)]) hx hb dX3_rest_60 hl (k := 5) rfl (by rw [ev10]; rfl) (by decide) rfl (fun ls hl => ?_)
        refine lv_goto (tgt := 28) hx hb dX3_rest_63 (by decide) ?_
        exact ih r9 v10 ls _ (lv_sub hl [3, 4, 5, 1, 0] rfl) hS h
      · have h := tt_some h c8
        refine lv_goto (tgt := 66) hx hb dX3_rest_50 (by decide) ?_
        exact wk_X3_rest_66 X hP x3 x4 ls _ (lv_sub hl [1, 3, 4, 5] rfl) hS h
set_option maxHeartbeats 4000000 in
set_option maxRecDepth 100000 in
theorem c_X3_rest (l : Launch) (D : va_G) (cI cG : ClassId) (q : Nat → Nat) (S : St) (H : Heap) (F : Nat) (p1 p2 : Int32) {r : Int32} (h : m_X3_rest F S p1 p2 = some r) : RoM l yX3_rest cX3_rest 6 (some .int) 6 146 [.ref (q 0), .int p1, .int p2] D cI cG (wX cI cG q S) H r := by
  refine RoM.of (own := RX3) (by decide) rfl (Nat.le_of_ble_eq_true rfl) ?_
  intro p e s m args below meth c ls X hP hS hl0
  have hl : lv_has ls 6 [(0, .ref (q 0)), (1, .int p1), (2, .int p2)] := hl0 _ (lv_entry [.ref (q 0), .int p1, .int p2] (n := 6) (Nat.le_of_ble_eq_true rfl))
  have hx := X.1
  have hb := X.2.1
  rw [m_X3_rest] at h
  refine lv_iload_n hx hb dX3_rest_0 rfl (lv_at hl 1 rfl) ?_
  obtain ⟨r1, er1, h⟩ := bd_some h
  refine ro_S (As := [.int p1]) (rest := []) X hP hS hl.1 (c_X3_isDay l D cI cG _ _ p1 er1) lk_X3_41 ⟨by decide, by decide⟩ rfl rfl (Nat.le_of_ble_eq_true rfl) dX3_rest_1 ⟨Nat.le_refl _, Nat.le_refl _⟩ (fun locs hS => ?_)
  refine lv_if_eq (tgt := 16) hx hb dX3_rest_4 (by decide) (fun c2 => ?_) (fun c2 => ?_)
  · have h := tt_some h c2
    refine lv_bipush (v := (-2 : Int32)) hx hb dX3_rest_16 (by decide) ?_
    exact ro_ret X hS h dX3_rest_18
  · have h := ff_some h c2
    refine lv_iload_n hx hb dX3_rest_7 rfl (lv_at hl 2 rfl) ?_
    refine lv_iconst (v := 0) hx hb dX3_rest_8 (by decide) ?_
    refine lv_iconst (v := 1) hx hb dX3_rest_9 (by decide) ?_
    obtain ⟨r3, er3, h⟩ := bd_some h
    refine ro_S (As := [.int p2, .int 0, .int 1]) (rest := []) X hP hS hl.1 (c_X3_within l D cI cG _ _ p2 0 1 er3) lk_X3_44 ⟨by decide, by decide⟩ rfl rfl (Nat.le_of_ble_eq_true rfl) dX3_rest_10 ⟨Nat.le_refl _, Nat.le_refl _⟩ (fun locs hS => ?_)
    refine lv_if_ne (tgt := 19) hx hb dX3_rest_13 (by decide) (fun c4 => ?_) (fun c4 => ?_)
    · have h := ff_some h c4
      refine lv_aload_n hx hb dX3_rest_19 rfl (lv_at hl 0 rfl) ?_
      refine lv_iload_n hx hb dX3_rest_20 rfl (lv_at hl 1 rfl) ?_
      obtain ⟨r5, er5, h⟩ := bd_some h
      refine ro_V (As := [.int p1]) (rest := []) X hP hS hl.1 (c_X3_soundOn l D cI cG q S _ F p1 er5) lk_X3_95 (rc_X3_X3 X hP) ⟨by decide, by decide⟩ rfl rfl (Nat.le_of_ble_eq_true rfl) dX3_rest_21 ⟨Nat.le_refl _, Nat.le_refl _⟩ (fun locs hS => ?_)
      refine lv_istore_n (lv' := [(3, .int r5), (0, .ref (q 0)), (1, .int p1), (2, .int p2)]) hx hb dX3_rest_24 rfl hl (by decide) rfl (fun ls hl => ?_)
      refine lv_iconst (v := 0) hx hb dX3_rest_25 (by decide) ?_
      refine lv_istore (lv' := [(4, .int 0), (3, .int r5), (0, .ref (q 0)), (1, .int p1), (2, .int p2)]) hx hb dX3_rest_26 hl (by decide) rfl (fun ls hl => ?_)
      exact wk_X3_rest_28 X hP F r5 0 ls _ (lv_sub hl [2, 3, 4, 1, 0] rfl) hS h
    · have h := tt_some h c4
      refine lv_bipush (v := (-2 : Int32)) hx hb dX3_rest_16 (by decide) ?_
      exact ro_ret X hS h dX3_rest_18
set_option maxHeartbeats 4000000 in
set_option maxRecDepth 100000 in
theorem c_X3_allStand (l : Launch) (D : va_G) (cI cG : ClassId) (q : Nat → Nat) (S : St) (H : Heap) (F : Nat) (p1 p2 p3 : Int32) {r : Int32} (h : m_X3_allStand F S p1 p2 p3 = some r) : RoM l yX3_allStand cX3_allStand 4 (some .boolean) 3 74 [.ref (q 0), .int p1, .int p2, .int p3] D cI cG (wX cI cG q S) H r := by
  refine RoM.of (own := RX3) (by decide) rfl (Nat.le_of_ble_eq_true rfl) ?_
  intro p e s m args below meth c ls X hP hS hl0
  have hl : lv_has ls 4 [(0, .ref (q 0)), (1, .int p1), (2, .int p2), (3, .int p3)] := hl0 _ (lv_entry [.ref (q 0), .int p1, .int p2, .int p3] (n := 4) (Nat.le_of_ble_eq_true rfl))
  have hx := X.1
  have hb := X.2.1
  rw [m_X3_allStand] at h
  refine lv_iload_n hx hb dX3_allStand_0 rfl (lv_at hl 1 rfl) ?_
  refine lv_aload_n hx hb dX3_allStand_1 rfl (lv_at hl 0 rfl) ?_
  refine gf_X3_10 X hP dX3_allStand_2 ?_
  refine lv_iload_n hx hb dX3_allStand_5 rfl (lv_at hl 2 rfl) ?_
  refine lv_iload_n hx hb dX3_allStand_6 rfl (lv_at hl 3 rfl) ?_
  obtain ⟨r1, er1, h⟩ := bd_some h
  refine ro_V (As := [.int p2, .int p3]) (rest := [.int p1]) X hP hS hl.1 (c_X0_most l D cI cG q S _ F p2 p3 er1) lk_X3_101 (rc_X3_X0 X hP) ⟨by decide, by decide⟩ rfl rfl (Nat.le_of_ble_eq_true rfl) dX3_allStand_7 ⟨Nat.le_refl _, Nat.le_refl _⟩ (fun locs hS => ?_)
  refine lv_iconst (v := (-1 : Int32)) hx hb dX3_allStand_10 (by decide) ?_
  refine lv_ixor hx hb dX3_allStand_11 ?_
  refine lv_iand hx hb dX3_allStand_12 ?_
  refine lv_if_ne (tgt := 20) hx hb dX3_allStand_13 (by decide) (fun c2 => ?_) (fun c2 => ?_)
  · have h := ff_some h c2
    refine lv_iconst (v := 0) hx hb dX3_allStand_20 (by decide) ?_
    exact ro_retz X hS h rfl dX3_allStand_21
  · have h := tt_some h c2
    refine lv_iconst (v := 1) hx hb dX3_allStand_16 (by decide) ?_
    refine lv_goto (tgt := 21) hx hb dX3_allStand_17 (by decide) ?_
    exact ro_retz X hS h rfl dX3_allStand_21
set_option maxHeartbeats 4000000 in
set_option maxRecDepth 100000 in
theorem wk_X3_indispensable_6 {p : Program} {l : Launch} {e : Env} {s : State} {m : MethodId} {args : Array Value} {below : List Frame} {meth : Method} {c : Code} {D : va_G} {cI cG : ClassId} {q : Nat → Nat} {S : St} {H : Heap} {r : Int32} {F : Nat} {p1 p2 p3 p4 : Int32}  (X : Cx p s m args meth c cX3_indispensable 7 (some .int) RX3 D cI cG) (hP : va_P D vwCl (wX cI cG q S) H)  : ∀ (n : Nat) (x5 : Int32) (x6 : Int32) (ls : Array Slot) (locs : List Loc), lv_has ls 7 [(0, .ref (q 0)), (1, .int p1), (2, .int p2), (3, .int p3), (4, .int p4), (5, .int x5), (6, .int x6)] → va_S no s.heap H locs → m_X3_indispensable_6 F S p1 p2 p3 p4 n x5 x6 = some r → W p l e { frames := 4, cells := 0, slots := 0, locals := 97 } s m args below meth c H locs 0 0 (MQ below (roQ H r) args s 0 0 no) (F0 m 6 ls []) := by
  have hx := X.1
  have hb := X.2.1
  intro n
  induction n with
  | zero =>
    intro x5 x6 ls locs hl hS h
    exact no_none (show none = some r from h)
  | succ n ih =>
    intro x5 x6 ls locs hl hS h
    rw [m_X3_indispensable_6] at h
    refine lv_iload hx hb dX3_indispensable_6 (lv_at hl 6 rfl) ?_
    refine lv_aload_n hx hb dX3_indispensable_8 rfl (lv_at hl 0 rfl) ?_
    refine gf_X3_10 X hP dX3_indispensable_9 ?_
    refine gf_X3_48 X hP dX3_indispensable_12 ?_
    refine lv_icmp_ge (tgt := 58) hx hb dX3_indispensable_15 (by decide) (fun c1 => ?_) (fun c1 => ?_)
    · have h := tt_some h c1
      refine lv_iload hx hb dX3_indispensable_58 (lv_at hl 5 rfl) ?_
      exact ro_ret X hS h dX3_indispensable_60
    · have h := ff_some h c1
      refine lv_iload_n hx hb dX3_indispensable_18 rfl (lv_at hl 3 rfl) ?_
      refine lv_iload hx hb dX3_indispensable_19 (lv_at hl 6 rfl) ?_
      obtain ⟨r2, er2, h⟩ := bd_some h
      refine ro_S (As := [.int p3, .int x6]) (rest := []) X hP hS hl.1 (c_X3_contains l D cI cG _ _ p3 x6 er2) lk_X3_115 ⟨by decide, by decide⟩ rfl rfl (Nat.le_of_ble_eq_true rfl) dX3_indispensable_21 ⟨Nat.le_refl _, Nat.le_refl _⟩ (fun locs hS => ?_)
      refine lv_if_eq (tgt := 52) hx hb dX3_indispensable_24 (by decide) (fun c3 => ?_) (fun c3 => ?_)
      · have h := tt_some h c3
        obtain ⟨v4, ev4⟩ : ∃ y : Int32, y = x6 + 1 := ⟨_, rfl⟩
        have h := nm_some h ev4
        refine lv_iinc (v := v4) (lv' := [(6, .int v4), (0, .ref (q 0)), (1, .int p1), (2, .int p2), (3, .int p3), (4, .int p4), (5, .int x5)]) hx hb dX3_indispensable_52 hl (k := 6) rfl (by rw [ev4]; rfl) (by decide) rfl (fun ls hl => ?_)
        refine lv_goto (tgt := 6) hx hb dX3_indispensable_55 (by decide) ?_
        exact ih x5 v4 ls _ (lv_sub hl [1, 2, 3, 4, 5, 6, 0] rfl) hS h
      · have h := ff_some h c3
        refine lv_aload_n hx hb dX3_indispensable_27 rfl (lv_at hl 0 rfl) ?_
        refine lv_iload_n hx hb dX3_indispensable_28 rfl (lv_at hl 1 rfl) ?_
        refine lv_iload_n hx hb dX3_indispensable_29 rfl (lv_at hl 2 rfl) ?_
        refine lv_iload hx hb dX3_indispensable_30 (lv_at hl 6 rfl) ?_
        obtain ⟨r5, er5, h⟩ := bd_some h
        refine ro_S (As := [.int p2, .int x6]) (rest := [.int p1, .ref (q 0)]) X hP hS hl.1 (c_X3_without l D cI cG _ _ p2 x6 er5) lk_X3_148 ⟨by decide, by decide⟩ rfl rfl (Nat.le_of_ble_eq_true rfl) dX3_indispensable_32 ⟨Nat.le_refl _, Nat.le_refl _⟩ (fun locs hS => ?_)
        refine lv_iload hx hb dX3_indispensable_35 (lv_at hl 4 rfl) ?_
        obtain ⟨r6, er6, h⟩ := bd_some h
        refine ro_V (As := [.int p1, .int r5, .int p4]) (rest := []) X hP hS hl.1 (c_X3_allStand l D cI cG q S _ F p1 r5 p4 er6) lk_X3_193 (rc_X3_X3 X hP) ⟨by decide, by decide⟩ rfl rfl (Nat.le_of_ble_eq_true rfl) dX3_indispensable_37 ⟨Nat.le_refl _, Nat.le_refl _⟩ (fun locs hS => ?_)
        refine lv_if_ne (tgt := 52) hx hb dX3_indispensable_40 (by decide) (fun c7 => ?_) (fun c7 => ?_)
        · have h := ff_some h c7
          obtain ⟨v8, ev8⟩ : ∃ y : Int32, y = x6 + 1 := ⟨_, rfl⟩
          have h := nm_some h ev8
          refine lv_iinc (v := v8) (lv' := [(6, .int v8), (0, .ref (q 0)), (1, .int p1), (2, .int p2), (3, .int p3), (4, .int p4), (5, .int x5)]) hx hb dX3_indispensable_52 hl (k := 6) rfl (by rw [ev8]; rfl) (by decide) rfl (fun ls hl => ?_)
          refine lv_goto (tgt := 6) hx hb dX3_indispensable_55 (by decide) ?_
          exact ih x5 v8 ls _ (lv_sub hl [1, 2, 3, 4, 5, 6, 0] rfl) hS h
        · have h := tt_some h c7
          refine lv_iload hx hb dX3_indispensable_43 (lv_at hl 5 rfl) ?_
          refine lv_iconst (v := 1) hx hb dX3_indispensable_45 (by decide) ?_
          refine lv_iload hx hb dX3_indispensable_46 (lv_at hl 6 rfl) ?_
          refine lv_ishl hx hb dX3_indispensable_48 ?_
          refine lv_ior hx hb dX3_indispensable_49 ?_
          refine lv_topi (fun v9 ev9 => ?_)
          have h := nm_some h ev9
          refine lv_istore (lv' := [(5, .int v9), (0, .ref (q 0)), (1, .int p1), (2, .int p2), (3, .int p3), (4, .int p4), (6, .int x6)]) hx hb dX3_indispensable_50 hl (by decide) rfl (fun ls hl => ?_)
          obtain ⟨v10, ev10⟩ : ∃ y : Int32, y = x6 + 1 := ⟨_, rfl⟩
          have h := nm_some h ev10
          refine lv_iinc (v := v10) (lv' := [(6, .int v10), (5, .int v9), (0, .ref (q 0)), (1, .int p1), (2, .int p2), (3, .int p3), (4, .int p4)]) hx hb dX3_indispensable_52 hl (k := 6) rfl (by rw [ev10]; rfl) (by decide) rfl (fun ls hl => ?_)
          refine lv_goto (tgt := 6) hx hb dX3_indispensable_55 (by decide) ?_
          exact ih v9 v10 ls _ (lv_sub hl [2, 3, 4, 5, 6, 1, 0] rfl) hS h
set_option maxHeartbeats 4000000 in
set_option maxRecDepth 100000 in
theorem c_X3_indispensable (l : Launch) (D : va_G) (cI cG : ClassId) (q : Nat → Nat) (S : St) (H : Heap) (F : Nat) (p1 p2 p3 p4 : Int32) {r : Int32} (h : m_X3_indispensable F S p1 p2 p3 p4 = some r) : RoM l yX3_indispensable cX3_indispensable 7 (some .int) 4 97 [.ref (q 0), .int p1, .int p2, .int p3, .int p4] D cI cG (wX cI cG q S) H r := by
  refine RoM.of (own := RX3) (by decide) rfl (Nat.le_of_ble_eq_true rfl) ?_
  intro p e s m args below meth c ls X hP hS hl0
  have hl : lv_has ls 7 [(0, .ref (q 0)), (1, .int p1), (2, .int p2), (3, .int p3), (4, .int p4)] := hl0 _ (lv_entry [.ref (q 0), .int p1, .int p2, .int p3, .int p4] (n := 7) (Nat.le_of_ble_eq_true rfl))
  have hx := X.1
  have hb := X.2.1
  rw [m_X3_indispensable] at h
  refine lv_iconst (v := 0) hx hb dX3_indispensable_0 (by decide) ?_
  refine lv_istore (lv' := [(5, .int 0), (0, .ref (q 0)), (1, .int p1), (2, .int p2), (3, .int p3), (4, .int p4)]) hx hb dX3_indispensable_1 hl (by decide) rfl (fun ls hl => ?_)
  refine lv_iconst (v := 0) hx hb dX3_indispensable_3 (by decide) ?_
  refine lv_istore (lv' := [(6, .int 0), (5, .int 0), (0, .ref (q 0)), (1, .int p1), (2, .int p2), (3, .int p3), (4, .int p4)]) hx hb dX3_indispensable_4 hl (by decide) rfl (fun ls hl => ?_)
  exact wk_X3_indispensable_6 X hP F 0 0 ls _ (lv_sub hl [2, 3, 4, 5, 6, 1, 0] rfl) hS h
set_option maxHeartbeats 4000000 in
set_option maxRecDepth 100000 in
theorem wk_X3_fewestHealed_141 {p : Program} {l : Launch} {e : Env} {s : State} {m : MethodId} {args : Array Value} {below : List Frame} {meth : Method} {c : Code} {D : va_G} {cI cG : ClassId} {q : Nat → Nat} {S : St} {H : Heap} {r : Int32} {F : Nat} {p1 p2 : Int32} {K88 : Int32 → Int32 → Int32 → Int32 → Int32 → Int32 → Int32 → Option Int32} (X : Cx p s m args meth c cX3_fewestHealed 13 (some .int) RX3 D cI cG) (hP : va_P D vwCl (wX cI cG q S) H) (hK88 : ∀ (x3 : Int32) (x4 : Int32) (x7 : Int32) (x8 : Int32) (x9 : Int32) (x10 : Int32) (x11 : Int32) (ls : Array Slot) (locs : List Loc), lv_has ls 13 [(0, .ref (q 0)), (1, .int p1), (3, .int x3), (4, .int x4), (7, .int x7), (8, .int x8), (9, .int x9), (10, .int x10), (11, .int x11)] → va_S no s.heap H locs → K88 x3 x4 x7 x8 x9 x10 x11 = some r → W p l e { frames := 6, cells := 0, slots := 0, locals := 135 } s m args below meth c H locs 0 0 (MQ below (roQ H r) args s 0 0 no) (F0 m 88 ls [])) : ∀ (x3 : Int32) (x4 : Int32) (x7 : Int32) (x8 : Int32) (x9 : Int32) (x10 : Int32) (x11 : Int32) (ls : Array Slot) (locs : List Loc), lv_has ls 13 [(0, .ref (q 0)), (1, .int p1), (3, .int x3), (4, .int x4), (7, .int x7), (8, .int x8), (9, .int x9), (10, .int x10), (11, .int x11)] → va_S no s.heap H locs → m_X3_fewestHealed_141 F S p1 p2 K88 x3 x4 x7 x8 x9 x10 x11 = some r → W p l e { frames := 6, cells := 0, slots := 0, locals := 135 } s m args below meth c H locs 0 0 (MQ below (roQ H r) args s 0 0 no) (F0 m 141 ls []) := by
  have hx := X.1
  have hb := X.2.1
  intro x3 x4 x7 x8 x9 x10 x11 ls locs hl hS h
  rw [m_X3_fewestHealed_141] at h
  refine lv_iload hx hb dX3_fewestHealed_141 (lv_at hl 7 rfl) ?_
  refine lv_iload hx hb dX3_fewestHealed_143 (lv_at hl 6 rfl) ?_
  refine lv_isub hx hb dX3_fewestHealed_145 ?_
  refine lv_iload hx hb dX3_fewestHealed_146 (lv_at hl 6 rfl) ?_
  refine lv_iand hx hb dX3_fewestHealed_148 ?_
  refine lv_topi (fun v18 ev18 => ?_)
  have h := nm_some h ev18
  refine lv_istore (lv' := [(10, .int v18), (0, .ref (q 0)), (1, .int p1), (3, .int x3), (4, .int x4), (7, .int x7), (8, .int x8), (9, .int x9), (11, .int x11)]) hx hb dX3_fewestHealed_149 hl (by decide) rfl (fun ls hl => ?_)
  refine lv_iload hx hb dX3_fewestHealed_151 (lv_at hl 0 rfl) ?_
  refine lv_if_ne (tgt := 159) hx hb dX3_fewestHealed_153 (by decide) (fun c19 => ?_) (fun c19 => ?_)
  · have h := ff_some h c19
    obtain ⟨v20, ev20⟩ : ∃ y : Int32, y = x11 + 1 := ⟨_, rfl⟩
    have h := nm_some h ev20
    refine lv_iinc (v := v20) (lv' := [(11, .int v20), (10, .int v18), (0, .ref (q 0)), (1, .int p1), (3, .int x3), (4, .int x4), (7, .int x7), (8, .int x8), (9, .int x9)]) hx hb dX3_fewestHealed_159 hl (k := 8) rfl (by rw [ev20]; rfl) (by decide) rfl (fun ls hl => ?_)
    refine lv_goto (tgt := 88) hx hb dX3_fewestHealed_162 (by decide) ?_
    exact hK88 x3 x4 x7 x8 x9 v18 v20 ls _ (lv_sub hl [2, 3, 4, 5, 6, 7, 8, 1, 0] rfl) hS h
  · have h := tt_some h c19
    refine lv_goto (tgt := 165) hx hb dX3_fewestHealed_156 (by decide) ?_
    refine lv_iload hx hb dX3_fewestHealed_165 (lv_at hl 5 rfl) ?_
    exact ro_ret X hS h dX3_fewestHealed_167
set_option maxHeartbeats 4000000 in
set_option maxRecDepth 100000 in
theorem wk_X3_fewestHealed_88 {p : Program} {l : Launch} {e : Env} {s : State} {m : MethodId} {args : Array Value} {below : List Frame} {meth : Method} {c : Code} {D : va_G} {cI cG : ClassId} {q : Nat → Nat} {S : St} {H : Heap} {r : Int32} {F : Nat} {p1 p2 : Int32}  (X : Cx p s m args meth c cX3_fewestHealed 13 (some .int) RX3 D cI cG) (hP : va_P D vwCl (wX cI cG q S) H)  : ∀ (n : Nat) (x3 : Int32) (x4 : Int32) (x7 : Int32) (x8 : Int32) (x9 : Int32) (x10 : Int32) (x11 : Int32) (ls : Array Slot) (locs : List Loc), lv_has ls 13 [(0, .ref (q 0)), (1, .int p1), (3, .int x3), (4, .int x4), (7, .int x7), (8, .int x8), (9, .int x9), (10, .int x10), (11, .int x11)] → va_S no s.heap H locs → m_X3_fewestHealed_88 F S p1 p2 n x3 x4 x7 x8 x9 x10 x11 = some r → W p l e { frames := 6, cells := 0, slots := 0, locals := 135 } s m args below meth c H locs 0 0 (MQ below (roQ H r) args s 0 0 no) (F0 m 88 ls []) := by
  have hx := X.1
  have hb := X.2.1
  intro n
  induction n with
  | zero =>
    intro x3 x4 x7 x8 x9 x10 x11 ls locs hl hS h
    exact no_none (show none = some r from h)
  | succ n ih =>
    intro x3 x4 x7 x8 x9 x10 x11 ls locs hl hS h
    rw [m_X3_fewestHealed_88] at h
    refine lv_iload hx hb dX3_fewestHealed_88 (lv_at hl 8 rfl) ?_
    refine lv_sipush (v := 4096) hx hb dX3_fewestHealed_90 (by decide) ?_
    refine lv_icmp_ge (tgt := 165) hx hb dX3_fewestHealed_93 (by decide) (fun c10 => ?_) (fun c10 => ?_)
    · have h := tt_some h c10
      refine lv_iload hx hb dX3_fewestHealed_165 (lv_at hl 4 rfl) ?_
      exact ro_ret X hS h dX3_fewestHealed_167
    · have h := ff_some h c10
      refine lv_iload hx hb dX3_fewestHealed_96 (lv_at hl 4 rfl) ?_
      refine lv_iload hx hb dX3_fewestHealed_98 (lv_at hl 5 rfl) ?_
      refine lv_icmp_eq (tgt := 165) hx hb dX3_fewestHealed_100 (by decide) (fun c11 => ?_) (fun c11 => ?_)
      · have h := tt_some h c11
        refine lv_iload hx hb dX3_fewestHealed_165 (lv_at hl 4 rfl) ?_
        exact ro_ret X hS h dX3_fewestHealed_167
      · have h := ff_some h c11
        refine lv_iload hx hb dX3_fewestHealed_103 (lv_at hl 5 rfl) ?_
        refine lv_iload hx hb dX3_fewestHealed_105 (lv_at hl 7 rfl) ?_
        refine lv_ior hx hb dX3_fewestHealed_107 ?_
        refine lv_topi (fun v12 ev12 => ?_)
        have h := nm_some h ev12
        refine lv_istore (lv' := [(12, .int v12), (0, .ref (q 0)), (1, .int p1), (3, .int x3), (4, .int x4), (7, .int x7), (8, .int x8), (9, .int x9), (10, .int x10), (11, .int x11)]) hx hb dX3_fewestHealed_108 hl (by decide) rfl (fun ls hl => ?_)
        refine lv_iload hx hb dX3_fewestHealed_110 (lv_at hl 0 rfl) ?_
        obtain ⟨r13, er13, h⟩ := bd_some h
        refine ro_S (As := [.int v12]) (rest := []) X hP hS hl.1 (c_J6_bitCount_0f7a4 l D cI cG _ _ v12 er13) lk_X3_157 ⟨by decide, by decide⟩ rfl rfl (Nat.le_of_ble_eq_true rfl) dX3_fewestHealed_112 ⟨Nat.le_refl _, Nat.le_refl _⟩ (fun locs hS => ?_)
        refine lv_iload hx hb dX3_fewestHealed_115 (lv_at hl 5 rfl) ?_
        obtain ⟨r14, er14, h⟩ := bd_some h
        refine ro_S (As := [.int x7]) (rest := [.int r13]) X hP hS hl.1 (c_J6_bitCount_0f7a4 l D cI cG _ _ x7 er14) lk_X3_157 ⟨by decide, by decide⟩ rfl rfl (Nat.le_of_ble_eq_true rfl) dX3_fewestHealed_117 ⟨Nat.le_refl _, Nat.le_refl _⟩ (fun locs hS => ?_)
        refine lv_icmp_ge (tgt := 141) hx hb dX3_fewestHealed_120 (by decide) (fun c15 => ?_) (fun c15 => ?_)
        · have h := tt_some h c15
          exact wk_X3_fewestHealed_141 X hP ih x3 x4 x7 x8 x9 x10 x11 ls _ (lv_sub hl [1, 2, 3, 4, 5, 6, 7, 8, 9] rfl) hS h
        · have h := ff_some h c15
          refine lv_aload_n hx hb dX3_fewestHealed_123 rfl (lv_at hl 1 rfl) ?_
          refine lv_iload_n hx hb dX3_fewestHealed_124 rfl (lv_at hl 2 rfl) ?_
          refine lv_iload_n hx hb dX3_fewestHealed_125 rfl (lv_at hl 3 rfl) ?_
          refine lv_iload hx hb dX3_fewestHealed_126 (lv_at hl 0 rfl) ?_
          refine lv_ior hx hb dX3_fewestHealed_128 ?_
          refine lv_iload hx hb dX3_fewestHealed_129 (lv_at hl 4 rfl) ?_
          obtain ⟨r16, er16, h⟩ := bd_some h
          refine ro_V (As := [.int p1, .int (x3 ||| v12), .int x4]) (rest := []) X hP hS hl.1 (c_X3_allStand l D cI cG q S _ F p1 (x3 ||| v12) x4 er16) lk_X3_193 (rc_X3_X3 X hP) ⟨by decide, by decide⟩ rfl rfl (Nat.le_of_ble_eq_true rfl) dX3_fewestHealed_131 ⟨Nat.le_refl _, Nat.le_refl _⟩ (fun locs hS => ?_)
          refine lv_if_eq (tgt := 141) hx hb dX3_fewestHealed_134 (by decide) (fun c17 => ?_) (fun c17 => ?_)
          · have h := tt_some h c17
            exact wk_X3_fewestHealed_141 X hP ih x3 x4 x7 x8 x9 x10 x11 ls _ (lv_sub hl [1, 2, 3, 4, 5, 6, 7, 8, 9] rfl) hS h
          · have h := ff_some h c17
            refine lv_iload hx hb dX3_fewestHealed_137 (lv_at hl 0 rfl) ?_
            refine lv_istore (lv' := [(7, .int v12), (12, .int v12), (0, .ref (q 0)), (1, .int p1), (3, .int x3), (4, .int x4), (8, .int x8), (9, .int x9), (10, .int x10), (11, .int x11)]) hx hb dX3_fewestHealed_139 hl (by decide) rfl (fun ls hl => ?_)
            exact wk_X3_fewestHealed_141 X hP ih x3 x4 v12 x8 x9 x10 x11 ls _ (lv_sub hl [2, 3, 4, 5, 0, 6, 7, 8, 9] rfl) hS h
set_option maxHeartbeats 4000000 in
set_option maxRecDepth 100000 in
theorem c_X3_fewestHealed (l : Launch) (D : va_G) (cI cG : ClassId) (q : Nat → Nat) (S : St) (H : Heap) (F : Nat) (p1 p2 : Int32) {r : Int32} (h : m_X3_fewestHealed F S p1 p2 = some r) : RoM l yX3_fewestHealed cX3_fewestHealed 13 (some .int) 6 135 [.ref (q 0), .int p1, .int p2] D cI cG (wX cI cG q S) H r := by
  refine RoM.of (own := RX3) (by decide) rfl (Nat.le_of_ble_eq_true rfl) ?_
  intro p e s m args below meth c ls X hP hS hl0
  have hl : lv_has ls 13 [(0, .ref (q 0)), (1, .int p1), (2, .int p2)] := hl0 _ (lv_entry [.ref (q 0), .int p1, .int p2] (n := 13) (Nat.le_of_ble_eq_true rfl))
  have hx := X.1
  have hb := X.2.1
  rw [m_X3_fewestHealed] at h
  refine lv_aload_n hx hb dX3_fewestHealed_0 rfl (lv_at hl 0 rfl) ?_
  refine lv_iload_n hx hb dX3_fewestHealed_1 rfl (lv_at hl 2 rfl) ?_
  obtain ⟨r1, er1, h⟩ := bd_some h
  refine ro_V (As := [.int p2]) (rest := []) X hP hS hl.1 (c_X3_soundOn l D cI cG q S _ F p2 er1) lk_X3_95 (rc_X3_X3 X hP) ⟨by decide, by decide⟩ rfl rfl (Nat.le_of_ble_eq_true rfl) dX3_fewestHealed_2 ⟨Nat.le_refl _, Nat.le_refl _⟩ (fun locs hS => ?_)
  refine lv_istore_n (lv' := [(3, .int r1), (0, .ref (q 0)), (1, .int p1), (2, .int p2)]) hx hb dX3_fewestHealed_5 rfl hl (by decide) rfl (fun ls hl => ?_)
  refine lv_aload_n hx hb dX3_fewestHealed_6 rfl (lv_at hl 1 rfl) ?_
  obtain ⟨r2, er2, h⟩ := bd_some h
  refine ro_V (As := []) (rest := []) X hP hS hl.1 (c_X3_exempt l D cI cG q S _ F er2) lk_X3_98 (rc_X3_X3 X hP) ⟨by decide, by decide⟩ rfl rfl (Nat.le_of_ble_eq_true rfl) dX3_fewestHealed_7 ⟨Nat.le_refl _, Nat.le_refl _⟩ (fun locs hS => ?_)
  refine lv_istore (lv' := [(4, .int r2), (3, .int r1), (0, .ref (q 0)), (1, .int p1), (2, .int p2)]) hx hb dX3_fewestHealed_10 hl (by decide) rfl (fun ls hl => ?_)
  refine lv_aload_n hx hb dX3_fewestHealed_12 rfl (lv_at hl 2 rfl) ?_
  refine gf_X3_10 X hP dX3_fewestHealed_13 ?_
  refine lv_iload_n hx hb dX3_fewestHealed_16 rfl (lv_at hl 4 rfl) ?_
  obtain ⟨r3, er3, h⟩ := bd_some h
  refine ro_V (As := [.int p2]) (rest := []) X hP hS hl.1 (c_X0_doneBy l D cI cG q S _ F p2 er3) lk_X3_187 (rc_X3_X0 X hP) ⟨by decide, by decide⟩ rfl rfl (Nat.le_of_ble_eq_true rfl) dX3_fewestHealed_17 ⟨Nat.le_refl _, Nat.le_refl _⟩ (fun locs hS => ?_)
  refine lv_iload_n hx hb dX3_fewestHealed_20 rfl (lv_at hl 1 rfl) ?_
  refine lv_iconst (v := (-1 : Int32)) hx hb dX3_fewestHealed_21 (by decide) ?_
  refine lv_ixor hx hb dX3_fewestHealed_22 ?_
  refine lv_iand hx hb dX3_fewestHealed_23 ?_
  refine lv_topi (fun v4 ev4 => ?_)
  have h := nm_some h ev4
  refine lv_istore (lv' := [(5, .int v4), (4, .int r2), (3, .int r1), (0, .ref (q 0)), (1, .int p1), (2, .int p2)]) hx hb dX3_fewestHealed_24 hl (by decide) rfl (fun ls hl => ?_)
  refine lv_aload_n hx hb dX3_fewestHealed_26 rfl (lv_at hl 3 rfl) ?_
  refine gf_X3_10 X hP dX3_fewestHealed_27 ?_
  refine lv_iload_n hx hb dX3_fewestHealed_30 rfl (lv_at hl 2 rfl) ?_
  refine lv_iload hx hb dX3_fewestHealed_31 (lv_at hl 0 rfl) ?_
  refine lv_ior hx hb dX3_fewestHealed_33 ?_
  refine lv_iload hx hb dX3_fewestHealed_34 (lv_at hl 1 rfl) ?_
  obtain ⟨r5, er5, h⟩ := bd_some h
  refine ro_V (As := [.int (r1 ||| v4), .int r2]) (rest := []) X hP hS hl.1 (c_X0_most l D cI cG q S _ F (r1 ||| v4) r2 er5) lk_X3_101 (rc_X3_X0 X hP) ⟨by decide, by decide⟩ rfl rfl (Nat.le_of_ble_eq_true rfl) dX3_fewestHealed_36 ⟨Nat.le_refl _, Nat.le_refl _⟩ (fun locs hS => ?_)
  refine lv_istore (lv' := [(6, .int r5), (5, .int v4), (4, .int r2), (3, .int r1), (0, .ref (q 0)), (1, .int p1), (2, .int p2)]) hx hb dX3_fewestHealed_39 hl (by decide) rfl (fun ls hl => ?_)
  refine lv_iload_n hx hb dX3_fewestHealed_41 rfl (lv_at hl 5 rfl) ?_
  refine lv_iload hx hb dX3_fewestHealed_42 (lv_at hl 0 rfl) ?_
  refine lv_iconst (v := (-1 : Int32)) hx hb dX3_fewestHealed_44 (by decide) ?_
  refine lv_ixor hx hb dX3_fewestHealed_45 ?_
  refine lv_iand hx hb dX3_fewestHealed_46 ?_
  refine lv_if_eq (tgt := 53) hx hb dX3_fewestHealed_47 (by decide) (fun c6 => ?_) (fun c6 => ?_)
  · have h := tt_some h c6
    refine lv_iload hx hb dX3_fewestHealed_53 (lv_at hl 1 rfl) ?_
    refine lv_iload hx hb dX3_fewestHealed_55 (lv_at hl 0 rfl) ?_
    refine lv_iand hx hb dX3_fewestHealed_57 ?_
    refine lv_topi (fun v7 ev7 => ?_)
    have h := nm_some h ev7
    refine lv_istore (lv' := [(7, .int v7), (6, .int r5), (5, .int v4), (4, .int r2), (3, .int r1), (0, .ref (q 0)), (1, .int p1), (2, .int p2)]) hx hb dX3_fewestHealed_58 hl (by decide) rfl (fun ls hl => ?_)
    refine lv_aload_n hx hb dX3_fewestHealed_60 rfl (lv_at hl 5 rfl) ?_
    refine lv_iload_n hx hb dX3_fewestHealed_61 rfl (lv_at hl 6 rfl) ?_
    refine lv_iload hx hb dX3_fewestHealed_62 (lv_at hl 1 rfl) ?_
    refine lv_iload hx hb dX3_fewestHealed_64 (lv_at hl 0 rfl) ?_
    refine lv_iload hx hb dX3_fewestHealed_66 (lv_at hl 3 rfl) ?_
    obtain ⟨r8, er8, h⟩ := bd_some h
    refine ro_V (As := [.int p1, .int r5, .int v7, .int r2]) (rest := []) X hP hS hl.1 (c_X3_indispensable l D cI cG q S _ F p1 r5 v7 r2 er8) lk_X3_190 (rc_X3_X3 X hP) ⟨by decide, by decide⟩ rfl rfl (Nat.le_of_ble_eq_true rfl) dX3_fewestHealed_68 ⟨Nat.le_refl _, Nat.le_refl _⟩ (fun locs hS => ?_)
    refine lv_istore (lv' := [(8, .int r8), (7, .int v7), (6, .int r5), (5, .int v4), (4, .int r2), (3, .int r1), (0, .ref (q 0)), (1, .int p1), (2, .int p2)]) hx hb dX3_fewestHealed_71 hl (by decide) rfl (fun ls hl => ?_)
    refine lv_iload hx hb dX3_fewestHealed_73 (lv_at hl 1 rfl) ?_
    refine lv_iload hx hb dX3_fewestHealed_75 (lv_at hl 0 rfl) ?_
    refine lv_iconst (v := (-1 : Int32)) hx hb dX3_fewestHealed_77 (by decide) ?_
    refine lv_ixor hx hb dX3_fewestHealed_78 ?_
    refine lv_iand hx hb dX3_fewestHealed_79 ?_
    refine lv_topi (fun v9 ev9 => ?_)
    have h := nm_some h ev9
    refine lv_istore (lv' := [(9, .int v9), (8, .int r8), (7, .int v7), (6, .int r5), (5, .int v4), (4, .int r2), (3, .int r1), (0, .ref (q 0)), (1, .int p1), (2, .int p2)]) hx hb dX3_fewestHealed_80 hl (by decide) rfl (fun ls hl => ?_)
    refine lv_iconst (v := 0) hx hb dX3_fewestHealed_82 (by decide) ?_
    refine lv_istore (lv' := [(10, .int 0), (9, .int v9), (8, .int r8), (7, .int v7), (6, .int r5), (5, .int v4), (4, .int r2), (3, .int r1), (0, .ref (q 0)), (1, .int p1), (2, .int p2)]) hx hb dX3_fewestHealed_83 hl (by decide) rfl (fun ls hl => ?_)
    refine lv_iconst (v := 0) hx hb dX3_fewestHealed_85 (by decide) ?_
    refine lv_istore (lv' := [(11, .int 0), (10, .int 0), (9, .int v9), (8, .int r8), (7, .int v7), (6, .int r5), (5, .int v4), (4, .int r2), (3, .int r1), (0, .ref (q 0)), (1, .int p1), (2, .int p2)]) hx hb dX3_fewestHealed_86 hl (by decide) rfl (fun ls hl => ?_)
    exact wk_X3_fewestHealed_88 X hP F r1 r2 v7 r8 v9 0 0 ls _ (lv_sub hl [9, 10, 8, 7, 4, 3, 2, 1, 0] rfl) hS h
  · have h := ff_some h c6
    refine lv_bipush (v := (-6 : Int32)) hx hb dX3_fewestHealed_50 (by decide) ?_
    exact ro_ret X hS h dX3_fewestHealed_52
set_option maxHeartbeats 4000000 in
set_option maxRecDepth 100000 in
theorem c_X3_heal (l : Launch) (D : va_G) (cI cG : ClassId) (q : Nat → Nat) (S : St) (H : Heap) (F : Nat) (p1 p2 p3 : Int32) {r : Int32} (h : m_X3_heal F S p1 p2 p3 = some r) : RoM l yX3_heal cX3_heal 5 (some .int) 7 167 [.ref (q 0), .int p1, .int p2, .int p3] D cI cG (wX cI cG q S) H r := by
  refine RoM.of (own := RX3) (by decide) rfl (Nat.le_of_ble_eq_true rfl) ?_
  intro p e s m args below meth c ls X hP hS hl0
  have hl : lv_has ls 5 [(0, .ref (q 0)), (1, .int p1), (2, .int p2), (3, .int p3)] := hl0 _ (lv_entry [.ref (q 0), .int p1, .int p2, .int p3] (n := 5) (Nat.le_of_ble_eq_true rfl))
  have hx := X.1
  have hb := X.2.1
  rw [m_X3_heal] at h
  refine lv_aload_n hx hb dX3_heal_0 rfl (lv_at hl 0 rfl) ?_
  refine gf_X3_10 X hP dX3_heal_1 ?_
  refine lv_iload_n hx hb dX3_heal_4 rfl (lv_at hl 1 rfl) ?_
  obtain ⟨r1, er1, h⟩ := bd_some h
  refine ro_V (As := [.int p1]) (rest := []) X hP hS hl.1 (c_X0_hasAll l D cI cG q S _ p1 er1) lk_X3_151 (rc_X3_X0 X hP) ⟨by decide, by decide⟩ rfl rfl (Nat.le_of_ble_eq_true rfl) dX3_heal_5 ⟨Nat.le_refl _, Nat.le_refl _⟩ (fun locs hS => ?_)
  refine lv_if_eq (tgt := 27) hx hb dX3_heal_8 (by decide) (fun c2 => ?_) (fun c2 => ?_)
  · have h := tt_some h c2
    refine lv_bipush (v := (-2 : Int32)) hx hb dX3_heal_27 (by decide) ?_
    exact ro_ret X hS h dX3_heal_29
  · have h := ff_some h c2
    refine lv_iload_n hx hb dX3_heal_11 rfl (lv_at hl 2 rfl) ?_
    obtain ⟨r3, er3, h⟩ := bd_some h
    refine ro_S (As := [.int p2]) (rest := []) X hP hS hl.1 (c_X3_isDay l D cI cG _ _ p2 er3) lk_X3_41 ⟨by decide, by decide⟩ rfl rfl (Nat.le_of_ble_eq_true rfl) dX3_heal_12 ⟨Nat.le_refl _, Nat.le_refl _⟩ (fun locs hS => ?_)
    refine lv_if_eq (tgt := 27) hx hb dX3_heal_15 (by decide) (fun c4 => ?_) (fun c4 => ?_)
    · have h := tt_some h c4
      refine lv_bipush (v := (-2 : Int32)) hx hb dX3_heal_27 (by decide) ?_
      exact ro_ret X hS h dX3_heal_29
    · have h := ff_some h c4
      refine lv_iload_n hx hb dX3_heal_18 rfl (lv_at hl 3 rfl) ?_
      refine lv_iconst (v := 0) hx hb dX3_heal_19 (by decide) ?_
      refine lv_iconst (v := 1) hx hb dX3_heal_20 (by decide) ?_
      obtain ⟨r5, er5, h⟩ := bd_some h
      refine ro_S (As := [.int p3, .int 0, .int 1]) (rest := []) X hP hS hl.1 (c_X3_within l D cI cG _ _ p3 0 1 er5) lk_X3_44 ⟨by decide, by decide⟩ rfl rfl (Nat.le_of_ble_eq_true rfl) dX3_heal_21 ⟨Nat.le_refl _, Nat.le_refl _⟩ (fun locs hS => ?_)
      refine lv_if_ne (tgt := 30) hx hb dX3_heal_24 (by decide) (fun c6 => ?_) (fun c6 => ?_)
      · have h := ff_some h c6
        refine lv_aload_n hx hb dX3_heal_30 rfl (lv_at hl 0 rfl) ?_
        refine lv_iload_n hx hb dX3_heal_31 rfl (lv_at hl 1 rfl) ?_
        refine lv_iload_n hx hb dX3_heal_32 rfl (lv_at hl 2 rfl) ?_
        obtain ⟨r7, er7, h⟩ := bd_some h
        refine ro_V (As := [.int p1, .int p2]) (rest := []) X hP hS hl.1 (c_X3_fewestHealed l D cI cG q S _ F p1 p2 er7) lk_X3_154 (rc_X3_X3 X hP) ⟨by decide, by decide⟩ rfl rfl (Nat.le_of_ble_eq_true rfl) dX3_heal_33 ⟨Nat.le_refl _, Nat.le_refl _⟩ (fun locs hS => ?_)
        refine lv_istore (lv' := [(4, .int r7), (0, .ref (q 0)), (1, .int p1), (2, .int p2), (3, .int p3)]) hx hb dX3_heal_36 hl (by decide) rfl (fun ls hl => ?_)
        refine lv_iload hx hb dX3_heal_38 (lv_at hl 0 rfl) ?_
        refine lv_bipush (v := (-6 : Int32)) hx hb dX3_heal_40 (by decide) ?_
        refine lv_icmp_ne (tgt := 48) hx hb dX3_heal_42 (by decide) (fun c8 => ?_) (fun c8 => ?_)
        · have h := ff_some h c8
          refine lv_iload_n hx hb dX3_heal_48 rfl (lv_at hl 4 rfl) ?_
          refine lv_if_ne (tgt := 57) hx hb dX3_heal_49 (by decide) (fun c9 => ?_) (fun c9 => ?_)
          · have h := ff_some h c9
            refine lv_iload hx hb dX3_heal_57 (lv_at hl 0 rfl) ?_
            obtain ⟨r10, er10, h⟩ := bd_some h
            refine ro_S (As := [.int r7]) (rest := []) X hP hS hl.1 (c_J6_bitCount_0f7a4 l D cI cG _ _ r7 er10) lk_X3_157 ⟨by decide, by decide⟩ rfl rfl (Nat.le_of_ble_eq_true rfl) dX3_heal_59 ⟨Nat.le_refl _, Nat.le_refl _⟩ (fun locs hS => ?_)
            exact ro_ret X hS h dX3_heal_62
          · have h := tt_some h c9
            refine lv_iload hx hb dX3_heal_52 (lv_at hl 0 rfl) ?_
            refine lv_goto (tgt := 62) hx hb dX3_heal_54 (by decide) ?_
            exact ro_ret X hS h dX3_heal_62
        · have h := tt_some h c8
          refine lv_bipush (v := (-5 : Int32)) hx hb dX3_heal_45 (by decide) ?_
          exact ro_ret X hS h dX3_heal_47
      · have h := tt_some h c6
        refine lv_bipush (v := (-2 : Int32)) hx hb dX3_heal_27 (by decide) ?_
        exact ro_ret X hS h dX3_heal_29
set_option maxHeartbeats 4000000 in
set_option maxRecDepth 100000 in
theorem wk_X3_pillar_49 {p : Program} {l : Launch} {e : Env} {s : State} {m : MethodId} {args : Array Value} {below : List Frame} {meth : Method} {c : Code} {D : va_G} {cI cG : ClassId} {q : Nat → Nat} {S : St} {H : Heap} {r : Int32} {F : Nat} {p1 p2 : Int32}  (X : Cx p s m args meth c cX3_pillar 9 (some .int) RX3 D cI cG) (hP : va_P D vwCl (wX cI cG q S) H)  : ∀ (n : Nat) (x3 : Int32) (x4 : Int32) (x5 : Int32) (x6 : Int32) (x7 : Int32) (ls : Array Slot) (locs : List Loc), lv_has ls 9 [(0, .ref (q 0)), (2, .int p2), (3, .int x3), (4, .int x4), (5, .int x5), (6, .int x6), (7, .int x7)] → va_S no s.heap H locs → m_X3_pillar_49 F S p1 p2 n x3 x4 x5 x6 x7 = some r → W p l e { frames := 6, cells := 0, slots := 0, locals := 135 } s m args below meth c H locs 0 0 (MQ below (roQ H r) args s 0 0 no) (F0 m 49 ls []) := by
  have hx := X.1
  have hb := X.2.1
  intro n
  induction n with
  | zero =>
    intro x3 x4 x5 x6 x7 ls locs hl hS h
    exact no_none (show none = some r from h)
  | succ n ih =>
    intro x3 x4 x5 x6 x7 ls locs hl hS h
    rw [m_X3_pillar_49] at h
    refine lv_iload hx hb dX3_pillar_49 (lv_at hl 6 rfl) ?_
    refine lv_aload_n hx hb dX3_pillar_51 rfl (lv_at hl 0 rfl) ?_
    refine gf_X3_10 X hP dX3_pillar_52 ?_
    refine gf_X3_48 X hP dX3_pillar_55 ?_
    refine lv_icmp_ge (tgt := 113) hx hb dX3_pillar_58 (by decide) (fun c8 => ?_) (fun c8 => ?_)
    · have h := tt_some h c8
      refine lv_iload_n hx hb dX3_pillar_113 rfl (lv_at hl 1 rfl) ?_
      refine lv_if_ne (tgt := 122) hx hb dX3_pillar_114 (by decide) (fun c9 => ?_) (fun c9 => ?_)
      · have h := ff_some h c9
        refine lv_iload hx hb dX3_pillar_122 (lv_at hl 5 rfl) ?_
        exact ro_ret X hS h dX3_pillar_124
      · have h := tt_some h c9
        refine lv_iload hx hb dX3_pillar_117 (lv_at hl 4 rfl) ?_
        refine lv_goto (tgt := 124) hx hb dX3_pillar_119 (by decide) ?_
        exact ro_ret X hS h dX3_pillar_124
    · have h := ff_some h c8
      refine lv_iload hx hb dX3_pillar_61 (lv_at hl 3 rfl) ?_
      refine lv_iload hx hb dX3_pillar_63 (lv_at hl 6 rfl) ?_
      obtain ⟨r10, er10, h⟩ := bd_some h
      refine ro_S (As := [.int x4, .int x7]) (rest := []) X hP hS hl.1 (c_X3_contains l D cI cG _ _ x4 x7 er10) lk_X3_115 ⟨by decide, by decide⟩ rfl rfl (Nat.le_of_ble_eq_true rfl) dX3_pillar_65 ⟨Nat.le_refl _, Nat.le_refl _⟩ (fun locs hS => ?_)
      refine lv_if_eq (tgt := 107) hx hb dX3_pillar_68 (by decide) (fun c11 => ?_) (fun c11 => ?_)
      · have h := tt_some h c11
        obtain ⟨v12, ev12⟩ : ∃ y : Int32, y = x7 + 1 := ⟨_, rfl⟩
        have h := nm_some h ev12
        refine lv_iinc (v := v12) (lv' := [(7, .int v12), (0, .ref (q 0)), (2, .int p2), (3, .int x3), (4, .int x4), (5, .int x5), (6, .int x6)]) hx hb dX3_pillar_107 hl (k := 6) rfl (by rw [ev12]; rfl) (by decide) rfl (fun ls hl => ?_)
        refine lv_goto (tgt := 49) hx hb dX3_pillar_110 (by decide) ?_
        exact ih x3 x4 x5 x6 v12 ls _ (lv_sub hl [1, 2, 3, 4, 5, 6, 0] rfl) hS h
      · have h := ff_some h c11
        refine lv_aload_n hx hb dX3_pillar_71 rfl (lv_at hl 0 rfl) ?_
        refine lv_iload hx hb dX3_pillar_72 (lv_at hl 6 rfl) ?_
        refine lv_iload_n hx hb dX3_pillar_74 rfl (lv_at hl 2 rfl) ?_
        obtain ⟨r13, er13, h⟩ := bd_some h
        refine ro_V (As := [.int x7, .int x3]) (rest := []) X hP hS hl.1 (c_X3_fallen l D cI cG q S _ F x7 x3 er13) lk_X3_127 (rc_X3_X3 X hP) ⟨by decide, by decide⟩ rfl rfl (Nat.le_of_ble_eq_true rfl) dX3_pillar_75 ⟨Nat.le_refl _, Nat.le_refl _⟩ (fun locs hS => ?_)
        obtain ⟨r14, er14, h⟩ := bd_some h
        refine ro_S (As := [.int r13]) (rest := []) X hP hS hl.1 (c_J6_bitCount_0f7a4 l D cI cG _ _ r13 er14) lk_X3_157 ⟨by decide, by decide⟩ rfl rfl (Nat.le_of_ble_eq_true rfl) dX3_pillar_78 ⟨Nat.le_refl _, Nat.le_refl _⟩ (fun locs hS => ?_)
        refine lv_iconst (v := 1) hx hb dX3_pillar_81 (by decide) ?_
        refine lv_isub hx hb dX3_pillar_82 ?_
        refine lv_topi (fun v15 ev15 => ?_)
        have h := nm_some h ev15
        refine lv_istore (lv' := [(8, .int v15), (0, .ref (q 0)), (2, .int p2), (3, .int x3), (4, .int x4), (5, .int x5), (6, .int x6), (7, .int x7)]) hx hb dX3_pillar_83 hl (by decide) rfl (fun ls hl => ?_)
        refine lv_iload hx hb dX3_pillar_85 (lv_at hl 5 rfl) ?_
        refine lv_bipush (v := (-6 : Int32)) hx hb dX3_pillar_87 (by decide) ?_
        refine lv_icmp_eq (tgt := 99) hx hb dX3_pillar_89 (by decide) (fun c16 => ?_) (fun c16 => ?_)
        · have h := tt_some h c16
          refine lv_iload hx hb dX3_pillar_99 (lv_at hl 7 rfl) ?_
          refine lv_istore (lv' := [(5, .int x7), (8, .int v15), (0, .ref (q 0)), (2, .int p2), (3, .int x3), (4, .int x4), (6, .int x6), (7, .int x7)]) hx hb dX3_pillar_101 hl (by decide) rfl (fun ls hl => ?_)
          refine lv_iload hx hb dX3_pillar_103 (lv_at hl 1 rfl) ?_
          refine lv_istore (lv' := [(6, .int v15), (5, .int x7), (8, .int v15), (0, .ref (q 0)), (2, .int p2), (3, .int x3), (4, .int x4), (7, .int x7)]) hx hb dX3_pillar_105 hl (by decide) rfl (fun ls hl => ?_)
          obtain ⟨v17, ev17⟩ : ∃ y : Int32, y = x7 + 1 := ⟨_, rfl⟩
          have h := nm_some h ev17
          refine lv_iinc (v := v17) (lv' := [(7, .int v17), (6, .int v15), (5, .int x7), (8, .int v15), (0, .ref (q 0)), (2, .int p2), (3, .int x3), (4, .int x4)]) hx hb dX3_pillar_107 hl (k := 7) rfl (by rw [ev17]; rfl) (by decide) rfl (fun ls hl => ?_)
          refine lv_goto (tgt := 49) hx hb dX3_pillar_110 (by decide) ?_
          exact ih x3 x4 x7 v15 v17 ls _ (lv_sub hl [4, 5, 6, 7, 2, 1, 0] rfl) hS h
        · have h := ff_some h c16
          refine lv_iload hx hb dX3_pillar_92 (lv_at hl 0 rfl) ?_
          refine lv_iload hx hb dX3_pillar_94 (lv_at hl 6 rfl) ?_
          refine lv_icmp_le (tgt := 107) hx hb dX3_pillar_96 (by decide) (fun c18 => ?_) (fun c18 => ?_)
          · have h := tt_some h c18
            obtain ⟨v19, ev19⟩ : ∃ y : Int32, y = x7 + 1 := ⟨_, rfl⟩
            have h := nm_some h ev19
            refine lv_iinc (v := v19) (lv' := [(7, .int v19), (8, .int v15), (0, .ref (q 0)), (2, .int p2), (3, .int x3), (4, .int x4), (5, .int x5), (6, .int x6)]) hx hb dX3_pillar_107 hl (k := 7) rfl (by rw [ev19]; rfl) (by decide) rfl (fun ls hl => ?_)
            refine lv_goto (tgt := 49) hx hb dX3_pillar_110 (by decide) ?_
            exact ih x3 x4 x5 x6 v19 ls _ (lv_sub hl [2, 3, 4, 5, 6, 7, 0] rfl) hS h
          · have h := ff_some h c18
            refine lv_iload hx hb dX3_pillar_99 (lv_at hl 7 rfl) ?_
            refine lv_istore (lv' := [(5, .int x7), (8, .int v15), (0, .ref (q 0)), (2, .int p2), (3, .int x3), (4, .int x4), (6, .int x6), (7, .int x7)]) hx hb dX3_pillar_101 hl (by decide) rfl (fun ls hl => ?_)
            refine lv_iload hx hb dX3_pillar_103 (lv_at hl 1 rfl) ?_
            refine lv_istore (lv' := [(6, .int v15), (5, .int x7), (8, .int v15), (0, .ref (q 0)), (2, .int p2), (3, .int x3), (4, .int x4), (7, .int x7)]) hx hb dX3_pillar_105 hl (by decide) rfl (fun ls hl => ?_)
            obtain ⟨v20, ev20⟩ : ∃ y : Int32, y = x7 + 1 := ⟨_, rfl⟩
            have h := nm_some h ev20
            refine lv_iinc (v := v20) (lv' := [(7, .int v20), (6, .int v15), (5, .int x7), (8, .int v15), (0, .ref (q 0)), (2, .int p2), (3, .int x3), (4, .int x4)]) hx hb dX3_pillar_107 hl (k := 7) rfl (by rw [ev20]; rfl) (by decide) rfl (fun ls hl => ?_)
            refine lv_goto (tgt := 49) hx hb dX3_pillar_110 (by decide) ?_
            exact ih x3 x4 x7 v15 v20 ls _ (lv_sub hl [4, 5, 6, 7, 2, 1, 0] rfl) hS h
set_option maxHeartbeats 4000000 in
set_option maxRecDepth 100000 in
theorem c_X3_pillar (l : Launch) (D : va_G) (cI cG : ClassId) (q : Nat → Nat) (S : St) (H : Heap) (F : Nat) (p1 p2 : Int32) {r : Int32} (h : m_X3_pillar F S p1 p2 = some r) : RoM l yX3_pillar cX3_pillar 9 (some .int) 6 135 [.ref (q 0), .int p1, .int p2] D cI cG (wX cI cG q S) H r := by
  refine RoM.of (own := RX3) (by decide) rfl (Nat.le_of_ble_eq_true rfl) ?_
  intro p e s m args below meth c ls X hP hS hl0
  have hl : lv_has ls 9 [(0, .ref (q 0)), (1, .int p1), (2, .int p2)] := hl0 _ (lv_entry [.ref (q 0), .int p1, .int p2] (n := 9) (Nat.le_of_ble_eq_true rfl))
  have hx := X.1
  have hb := X.2.1
  rw [m_X3_pillar] at h
  refine lv_iload_n hx hb dX3_pillar_0 rfl (lv_at hl 1 rfl) ?_
  obtain ⟨r1, er1, h⟩ := bd_some h
  refine ro_S (As := [.int p1]) (rest := []) X hP hS hl.1 (c_X3_isDay l D cI cG _ _ p1 er1) lk_X3_41 ⟨by decide, by decide⟩ rfl rfl (Nat.le_of_ble_eq_true rfl) dX3_pillar_1 ⟨Nat.le_refl _, Nat.le_refl _⟩ (fun locs hS => ?_)
  refine lv_if_eq (tgt := 16) hx hb dX3_pillar_4 (by decide) (fun c2 => ?_) (fun c2 => ?_)
  · have h := tt_some h c2
    refine lv_bipush (v := (-2 : Int32)) hx hb dX3_pillar_16 (by decide) ?_
    exact ro_ret X hS h dX3_pillar_18
  · have h := ff_some h c2
    refine lv_iload_n hx hb dX3_pillar_7 rfl (lv_at hl 2 rfl) ?_
    refine lv_iconst (v := 0) hx hb dX3_pillar_8 (by decide) ?_
    refine lv_iconst (v := 1) hx hb dX3_pillar_9 (by decide) ?_
    obtain ⟨r3, er3, h⟩ := bd_some h
    refine ro_S (As := [.int p2, .int 0, .int 1]) (rest := []) X hP hS hl.1 (c_X3_within l D cI cG _ _ p2 0 1 er3) lk_X3_44 ⟨by decide, by decide⟩ rfl rfl (Nat.le_of_ble_eq_true rfl) dX3_pillar_10 ⟨Nat.le_refl _, Nat.le_refl _⟩ (fun locs hS => ?_)
    refine lv_if_ne (tgt := 19) hx hb dX3_pillar_13 (by decide) (fun c4 => ?_) (fun c4 => ?_)
    · have h := ff_some h c4
      refine lv_aload_n hx hb dX3_pillar_19 rfl (lv_at hl 0 rfl) ?_
      refine lv_iload_n hx hb dX3_pillar_20 rfl (lv_at hl 1 rfl) ?_
      obtain ⟨r5, er5, h⟩ := bd_some h
      refine ro_V (As := [.int p1]) (rest := []) X hP hS hl.1 (c_X3_soundOn l D cI cG q S _ F p1 er5) lk_X3_95 (rc_X3_X3 X hP) ⟨by decide, by decide⟩ rfl rfl (Nat.le_of_ble_eq_true rfl) dX3_pillar_21 ⟨Nat.le_refl _, Nat.le_refl _⟩ (fun locs hS => ?_)
      refine lv_istore_n (lv' := [(3, .int r5), (0, .ref (q 0)), (1, .int p1), (2, .int p2)]) hx hb dX3_pillar_24 rfl hl (by decide) rfl (fun ls hl => ?_)
      refine lv_aload_n hx hb dX3_pillar_25 rfl (lv_at hl 1 rfl) ?_
      refine gf_X3_10 X hP dX3_pillar_26 ?_
      refine lv_iload_n hx hb dX3_pillar_29 rfl (lv_at hl 0 rfl) ?_
      refine lv_aload_n hx hb dX3_pillar_30 rfl (lv_at hl 1 rfl) ?_
      obtain ⟨r6, er6, h⟩ := bd_some h
      refine ro_V (As := []) (rest := [.int r5, .ref (q 1)]) X hP hS hl.1 (c_X3_exempt l D cI cG q S _ F er6) lk_X3_98 (rc_X3_X3 X hP) ⟨by decide, by decide⟩ rfl rfl (Nat.le_of_ble_eq_true rfl) dX3_pillar_31 ⟨Nat.le_refl _, Nat.le_refl _⟩ (fun locs hS => ?_)
      obtain ⟨r7, er7, h⟩ := bd_some h
      refine ro_V (As := [.int r5, .int r6]) (rest := []) X hP hS hl.1 (c_X0_most l D cI cG q S _ F r5 r6 er7) lk_X3_101 (rc_X3_X0 X hP) ⟨by decide, by decide⟩ rfl rfl (Nat.le_of_ble_eq_true rfl) dX3_pillar_34 ⟨Nat.le_refl _, Nat.le_refl _⟩ (fun locs hS => ?_)
      refine lv_istore (lv' := [(4, .int r7), (3, .int r5), (0, .ref (q 0)), (1, .int p1), (2, .int p2)]) hx hb dX3_pillar_37 hl (by decide) rfl (fun ls hl => ?_)
      refine lv_bipush (v := (-6 : Int32)) hx hb dX3_pillar_39 (by decide) ?_
      refine lv_istore (lv' := [(5, .int (-6)), (4, .int r7), (3, .int r5), (0, .ref (q 0)), (1, .int p1), (2, .int p2)]) hx hb dX3_pillar_41 hl (by decide) rfl (fun ls hl => ?_)
      refine lv_iconst (v := 0) hx hb dX3_pillar_43 (by decide) ?_
      refine lv_istore (lv' := [(6, .int 0), (5, .int (-6)), (4, .int r7), (3, .int r5), (0, .ref (q 0)), (1, .int p1), (2, .int p2)]) hx hb dX3_pillar_44 hl (by decide) rfl (fun ls hl => ?_)
      refine lv_iconst (v := 0) hx hb dX3_pillar_46 (by decide) ?_
      refine lv_istore (lv' := [(7, .int 0), (6, .int 0), (5, .int (-6)), (4, .int r7), (3, .int r5), (0, .ref (q 0)), (1, .int p1), (2, .int p2)]) hx hb dX3_pillar_47 hl (by decide) rfl (fun ls hl => ?_)
      exact wk_X3_pillar_49 X hP F r5 r7 (-6) 0 0 ls _ (lv_sub hl [5, 7, 4, 3, 2, 1, 0] rfl) hS h
    · have h := tt_some h c4
      refine lv_bipush (v := (-2 : Int32)) hx hb dX3_pillar_16 (by decide) ?_
      exact ro_ret X hS h dX3_pillar_18
set_option maxHeartbeats 4000000 in
set_option maxRecDepth 100000 in
theorem c_X3_hangs (l : Launch) (D : va_G) (cI cG : ClassId) (q : Nat → Nat) (S : St) (H : Heap) (F : Nat) (p1 p2 p3 : Int32) {r : Int32} (h : m_X3_hangs F S p1 p2 p3 = some r) : RoM l yX3_hangs cX3_hangs 6 (some .int) 6 135 [.ref (q 0), .int p1, .int p2, .int p3] D cI cG (wX cI cG q S) H r := by
  refine RoM.of (own := RX3) (by decide) rfl (Nat.le_of_ble_eq_true rfl) ?_
  intro p e s m args below meth c ls X hP hS hl0
  have hl : lv_has ls 6 [(0, .ref (q 0)), (1, .int p1), (2, .int p2), (3, .int p3)] := hl0 _ (lv_entry [.ref (q 0), .int p1, .int p2, .int p3] (n := 6) (Nat.le_of_ble_eq_true rfl))
  have hx := X.1
  have hb := X.2.1
  rw [m_X3_hangs] at h
  refine lv_aload_n hx hb dX3_hangs_0 rfl (lv_at hl 0 rfl) ?_
  refine gf_X3_10 X hP dX3_hangs_1 ?_
  refine lv_iload_n hx hb dX3_hangs_4 rfl (lv_at hl 1 rfl) ?_
  obtain ⟨r1, er1, h⟩ := bd_some h
  refine ro_V (As := [.int p1]) (rest := []) X hP hS hl.1 (c_X0_has l D cI cG q S _ p1 er1) lk_X3_55 (rc_X3_X0 X hP) ⟨by decide, by decide⟩ rfl rfl (Nat.le_of_ble_eq_true rfl) dX3_hangs_5 ⟨Nat.le_refl _, Nat.le_refl _⟩ (fun locs hS => ?_)
  refine lv_if_ne (tgt := 13) hx hb dX3_hangs_8 (by decide) (fun c2 => ?_) (fun c2 => ?_)
  · have h := ff_some h c2
    refine lv_iload_n hx hb dX3_hangs_13 rfl (lv_at hl 2 rfl) ?_
    obtain ⟨r3, er3, h⟩ := bd_some h
    refine ro_S (As := [.int p2]) (rest := []) X hP hS hl.1 (c_X3_isDay l D cI cG _ _ p2 er3) lk_X3_41 ⟨by decide, by decide⟩ rfl rfl (Nat.le_of_ble_eq_true rfl) dX3_hangs_14 ⟨Nat.le_refl _, Nat.le_refl _⟩ (fun locs hS => ?_)
    refine lv_if_eq (tgt := 31) hx hb dX3_hangs_17 (by decide) (fun c4 => ?_) (fun c4 => ?_)
    · have h := tt_some h c4
      refine lv_bipush (v := (-2 : Int32)) hx hb dX3_hangs_31 (by decide) ?_
      exact ro_ret X hS h dX3_hangs_33
    · have h := ff_some h c4
      refine lv_aload_n hx hb dX3_hangs_20 rfl (lv_at hl 0 rfl) ?_
      refine gf_X3_10 X hP dX3_hangs_21 ?_
      refine lv_iload_n hx hb dX3_hangs_24 rfl (lv_at hl 3 rfl) ?_
      obtain ⟨r5, er5, h⟩ := bd_some h
      refine ro_V (As := [.int p3]) (rest := []) X hP hS hl.1 (c_X0_hasAll l D cI cG q S _ p3 er5) lk_X3_151 (rc_X3_X0 X hP) ⟨by decide, by decide⟩ rfl rfl (Nat.le_of_ble_eq_true rfl) dX3_hangs_25 ⟨Nat.le_refl _, Nat.le_refl _⟩ (fun locs hS => ?_)
      refine lv_if_ne (tgt := 34) hx hb dX3_hangs_28 (by decide) (fun c6 => ?_) (fun c6 => ?_)
      · have h := ff_some h c6
        refine lv_aload_n hx hb dX3_hangs_34 rfl (lv_at hl 0 rfl) ?_
        refine lv_iload_n hx hb dX3_hangs_35 rfl (lv_at hl 2 rfl) ?_
        obtain ⟨r7, er7, h⟩ := bd_some h
        refine ro_V (As := [.int p2]) (rest := []) X hP hS hl.1 (c_X3_soundOn l D cI cG q S _ F p2 er7) lk_X3_95 (rc_X3_X3 X hP) ⟨by decide, by decide⟩ rfl rfl (Nat.le_of_ble_eq_true rfl) dX3_hangs_36 ⟨Nat.le_refl _, Nat.le_refl _⟩ (fun locs hS => ?_)
        refine lv_istore (lv' := [(4, .int r7), (0, .ref (q 0)), (1, .int p1), (2, .int p2), (3, .int p3)]) hx hb dX3_hangs_39 hl (by decide) rfl (fun ls hl => ?_)
        refine lv_aload_n hx hb dX3_hangs_41 rfl (lv_at hl 1 rfl) ?_
        refine gf_X3_10 X hP dX3_hangs_42 ?_
        obtain ⟨r8, er8, h⟩ := bd_some h
        refine ro_V (As := []) (rest := []) X hP hS hl.1 (c_X0_goodOnes l D cI cG q S _ F er8) lk_X3_162 (rc_X3_X0 X hP) ⟨by decide, by decide⟩ rfl rfl (Nat.le_of_ble_eq_true rfl) dX3_hangs_45 ⟨Nat.le_refl _, Nat.le_refl _⟩ (fun locs hS => ?_)
        refine lv_istore (lv' := [(5, .int r8), (4, .int r7), (0, .ref (q 0)), (1, .int p1), (2, .int p2), (3, .int p3)]) hx hb dX3_hangs_48 hl (by decide) rfl (fun ls hl => ?_)
        refine lv_aload_n hx hb dX3_hangs_50 rfl (lv_at hl 2 rfl) ?_
        refine gf_X3_10 X hP dX3_hangs_51 ?_
        refine lv_iload hx hb dX3_hangs_54 (lv_at hl 1 rfl) ?_
        refine lv_aload_n hx hb dX3_hangs_56 rfl (lv_at hl 2 rfl) ?_
        refine gf_X3_30 X hP dX3_hangs_57 ?_
        refine lv_iload hx hb dX3_hangs_60 (lv_at hl 0 rfl) ?_
        refine lv_iload_n hx hb dX3_hangs_62 rfl (lv_at hl 5 rfl) ?_
        refine lv_iconst (v := (-1 : Int32)) hx hb dX3_hangs_63 (by decide) ?_
        refine lv_ixor hx hb dX3_hangs_64 ?_
        refine lv_iand hx hb dX3_hangs_65 ?_
        obtain ⟨r9, er9, h⟩ := bd_some h
        refine ro_S (As := [.int (S 0 0), .int (r8 &&& (p3 ^^^ (-1)))]) (rest := [.int r7, .ref (q 1)]) X hP hS hl.1 (c_X3_exemptBy l D cI cG _ _ (S 0 0) (r8 &&& (p3 ^^^ (-1))) er9) lk_X3_165 ⟨by decide, by decide⟩ rfl rfl (Nat.le_of_ble_eq_true rfl) dX3_hangs_66 ⟨Nat.le_refl _, Nat.le_refl _⟩ (fun locs hS => ?_)
        obtain ⟨r10, er10, h⟩ := bd_some h
        refine ro_V (As := [.int r7, .int r9]) (rest := []) X hP hS hl.1 (c_X0_most l D cI cG q S _ F r7 r9 er10) lk_X3_101 (rc_X3_X0 X hP) ⟨by decide, by decide⟩ rfl rfl (Nat.le_of_ble_eq_true rfl) dX3_hangs_69 ⟨Nat.le_refl _, Nat.le_refl _⟩ (fun locs hS => ?_)
        refine lv_iload_n hx hb dX3_hangs_72 rfl (lv_at hl 3 rfl) ?_
        obtain ⟨r11, er11, h⟩ := bd_some h
        refine ro_S (As := [.int r10, .int p1]) (rest := []) X hP hS hl.1 (c_X3_contains l D cI cG _ _ r10 p1 er11) lk_X3_115 ⟨by decide, by decide⟩ rfl rfl (Nat.le_of_ble_eq_true rfl) dX3_hangs_73 ⟨Nat.le_refl _, Nat.le_refl _⟩ (fun locs hS => ?_)
        refine lv_if_eq (tgt := 81) hx hb dX3_hangs_76 (by decide) (fun c12 => ?_) (fun c12 => ?_)
        · have h := tt_some h c12
          refine lv_aload_n hx hb dX3_hangs_81 rfl (lv_at hl 2 rfl) ?_
          refine gf_X3_10 X hP dX3_hangs_82 ?_
          refine lv_iload hx hb dX3_hangs_85 (lv_at hl 1 rfl) ?_
          refine lv_aload_n hx hb dX3_hangs_87 rfl (lv_at hl 2 rfl) ?_
          refine gf_X3_30 X hP dX3_hangs_88 ?_
          refine lv_iload hx hb dX3_hangs_91 (lv_at hl 0 rfl) ?_
          refine lv_iload_n hx hb dX3_hangs_93 rfl (lv_at hl 5 rfl) ?_
          refine lv_ior hx hb dX3_hangs_94 ?_
          obtain ⟨r13, er13, h⟩ := bd_some h
          refine ro_S (As := [.int (S 0 0), .int (r8 ||| p3)]) (rest := [.int r7, .ref (q 1)]) X hP hS hl.1 (c_X3_exemptBy l D cI cG _ _ (S 0 0) (r8 ||| p3) er13) lk_X3_165 ⟨by decide, by decide⟩ rfl rfl (Nat.le_of_ble_eq_true rfl) dX3_hangs_95 ⟨Nat.le_refl _, Nat.le_refl _⟩ (fun locs hS => ?_)
          obtain ⟨r14, er14, h⟩ := bd_some h
          refine ro_V (As := [.int r7, .int r13]) (rest := []) X hP hS hl.1 (c_X0_most l D cI cG q S _ F r7 r13 er14) lk_X3_101 (rc_X3_X0 X hP) ⟨by decide, by decide⟩ rfl rfl (Nat.le_of_ble_eq_true rfl) dX3_hangs_98 ⟨Nat.le_refl _, Nat.le_refl _⟩ (fun locs hS => ?_)
          refine lv_iload_n hx hb dX3_hangs_101 rfl (lv_at hl 3 rfl) ?_
          obtain ⟨r15, er15, h⟩ := bd_some h
          refine ro_S (As := [.int r14, .int p1]) (rest := []) X hP hS hl.1 (c_X3_contains l D cI cG _ _ r14 p1 er15) lk_X3_115 ⟨by decide, by decide⟩ rfl rfl (Nat.le_of_ble_eq_true rfl) dX3_hangs_102 ⟨Nat.le_refl _, Nat.le_refl _⟩ (fun locs hS => ?_)
          refine lv_if_eq (tgt := 112) hx hb dX3_hangs_105 (by decide) (fun c16 => ?_) (fun c16 => ?_)
          · have h := tt_some h c16
            refine lv_iconst (v := 0) hx hb dX3_hangs_112 (by decide) ?_
            exact ro_ret X hS h dX3_hangs_113
          · have h := ff_some h c16
            refine lv_iconst (v := 1) hx hb dX3_hangs_108 (by decide) ?_
            refine lv_goto (tgt := 113) hx hb dX3_hangs_109 (by decide) ?_
            exact ro_ret X hS h dX3_hangs_113
        · have h := ff_some h c12
          refine lv_iconst (v := 2) hx hb dX3_hangs_79 (by decide) ?_
          exact ro_ret X hS h dX3_hangs_80
      · have h := tt_some h c6
        refine lv_bipush (v := (-2 : Int32)) hx hb dX3_hangs_31 (by decide) ?_
        exact ro_ret X hS h dX3_hangs_33
  · have h := tt_some h c2
    refine lv_iconst (v := (-1 : Int32)) hx hb dX3_hangs_11 (by decide) ?_
    exact ro_ret X hS h dX3_hangs_12
set_option maxHeartbeats 4000000 in
set_option maxRecDepth 100000 in
theorem wk_X3_withstands_32 {p : Program} {l : Launch} {e : Env} {s : State} {m : MethodId} {args : Array Value} {below : List Frame} {meth : Method} {c : Code} {D : va_G} {cI cG : ClassId} {q : Nat → Nat} {S : St} {H : Heap} {r : Int32} {F : Nat} {p1 p2 p3 : Int32}  (X : Cx p s m args meth c cX3_withstands 7 (some .boolean) RX3 D cI cG) (hP : va_P D vwCl (wX cI cG q S) H)  : ∀ (n : Nat) (x4 : Int32) (x5 : Int32) (x6 : Int32) (ls : Array Slot) (locs : List Loc), lv_has ls 7 [(0, .ref (q 0)), (1, .int p1), (3, .int p3), (4, .int x4), (5, .int x5), (6, .int x6)] → va_S no s.heap H locs → m_X3_withstands_32 F S p1 p2 p3 n x4 x5 x6 = some r → W p l e { frames := 3, cells := 0, slots := 0, locals := 74 } s m args below meth c H locs 0 0 (MQ below (roQ H r) args s 0 0 no) (F0 m 32 ls []) := by
  have hx := X.1
  have hb := X.2.1
  intro n
  induction n with
  | zero =>
    intro x4 x5 x6 ls locs hl hS h
    exact no_none (show none = some r from h)
  | succ n ih =>
    intro x4 x5 x6 ls locs hl hS h
    rw [m_X3_withstands_32] at h
    refine lv_iload hx hb dX3_withstands_32 (lv_at hl 5 rfl) ?_
    refine lv_aload_n hx hb dX3_withstands_34 rfl (lv_at hl 0 rfl) ?_
    refine gf_X3_10 X hP dX3_withstands_35 ?_
    refine gf_X3_48 X hP dX3_withstands_38 ?_
    refine lv_icmp_ge (tgt := 87) hx hb dX3_withstands_41 (by decide) (fun c5 => ?_) (fun c5 => ?_)
    · have h := tt_some h c5
      refine lv_iconst (v := 1) hx hb dX3_withstands_87 (by decide) ?_
      exact ro_retz X hS h rfl dX3_withstands_88
    · have h := ff_some h c5
      refine lv_iload_n hx hb dX3_withstands_44 rfl (lv_at hl 2 rfl) ?_
      refine lv_iload hx hb dX3_withstands_45 (lv_at hl 4 rfl) ?_
      refine lv_iand hx hb dX3_withstands_47 ?_
      refine lv_iload hx hb dX3_withstands_48 (lv_at hl 5 rfl) ?_
      obtain ⟨r6, er6, h⟩ := bd_some h
      refine ro_S (As := [.int (p3 &&& x5), .int x6]) (rest := []) X hP hS hl.1 (c_X3_contains l D cI cG _ _ (p3 &&& x5) x6 er6) lk_X3_115 ⟨by decide, by decide⟩ rfl rfl (Nat.le_of_ble_eq_true rfl) dX3_withstands_50 ⟨Nat.le_refl _, Nat.le_refl _⟩ (fun locs hS => ?_)
      refine lv_if_eq (tgt := 81) hx hb dX3_withstands_53 (by decide) (fun c7 => ?_) (fun c7 => ?_)
      · have h := tt_some h c7
        obtain ⟨v8, ev8⟩ : ∃ y : Int32, y = x6 + 1 := ⟨_, rfl⟩
        have h := nm_some h ev8
        refine lv_iinc (v := v8) (lv' := [(6, .int v8), (0, .ref (q 0)), (1, .int p1), (3, .int p3), (4, .int x4), (5, .int x5)]) hx hb dX3_withstands_81 hl (k := 5) rfl (by rw [ev8]; rfl) (by decide) rfl (fun ls hl => ?_)
        refine lv_goto (tgt := 32) hx hb dX3_withstands_84 (by decide) ?_
        exact ih x4 x5 v8 ls _ (lv_sub hl [1, 2, 3, 4, 5, 0] rfl) hS h
      · have h := ff_some h c7
        refine lv_aload_n hx hb dX3_withstands_56 rfl (lv_at hl 0 rfl) ?_
        refine gf_X3_10 X hP dX3_withstands_57 ?_
        refine lv_iload hx hb dX3_withstands_60 (lv_at hl 4 rfl) ?_
        refine lv_iload hx hb dX3_withstands_62 (lv_at hl 5 rfl) ?_
        obtain ⟨r9, er9, h⟩ := bd_some h
        refine ro_S (As := [.int x5, .int x6]) (rest := [.ref (q 1)]) X hP hS hl.1 (c_X3_without l D cI cG _ _ x5 x6 er9) lk_X3_148 ⟨by decide, by decide⟩ rfl rfl (Nat.le_of_ble_eq_true rfl) dX3_withstands_64 ⟨Nat.le_refl _, Nat.le_refl _⟩ (fun locs hS => ?_)
        refine lv_iload hx hb dX3_withstands_67 (lv_at hl 3 rfl) ?_
        obtain ⟨r10, er10, h⟩ := bd_some h
        refine ro_V (As := [.int r9, .int x4]) (rest := []) X hP hS hl.1 (c_X0_most l D cI cG q S _ F r9 x4 er10) lk_X3_101 (rc_X3_X0 X hP) ⟨by decide, by decide⟩ rfl rfl (Nat.le_of_ble_eq_true rfl) dX3_withstands_69 ⟨Nat.le_refl _, Nat.le_refl _⟩ (fun locs hS => ?_)
        refine lv_iload_n hx hb dX3_withstands_72 rfl (lv_at hl 1 rfl) ?_
        obtain ⟨r11, er11, h⟩ := bd_some h
        refine ro_S (As := [.int r10, .int p1]) (rest := []) X hP hS hl.1 (c_X3_contains l D cI cG _ _ r10 p1 er11) lk_X3_115 ⟨by decide, by decide⟩ rfl rfl (Nat.le_of_ble_eq_true rfl) dX3_withstands_73 ⟨Nat.le_refl _, Nat.le_refl _⟩ (fun locs hS => ?_)
        refine lv_if_ne (tgt := 81) hx hb dX3_withstands_76 (by decide) (fun c12 => ?_) (fun c12 => ?_)
        · have h := ff_some h c12
          obtain ⟨v13, ev13⟩ : ∃ y : Int32, y = x6 + 1 := ⟨_, rfl⟩
          have h := nm_some h ev13
          refine lv_iinc (v := v13) (lv' := [(6, .int v13), (0, .ref (q 0)), (1, .int p1), (3, .int p3), (4, .int x4), (5, .int x5)]) hx hb dX3_withstands_81 hl (k := 5) rfl (by rw [ev13]; rfl) (by decide) rfl (fun ls hl => ?_)
          refine lv_goto (tgt := 32) hx hb dX3_withstands_84 (by decide) ?_
          exact ih x4 x5 v13 ls _ (lv_sub hl [1, 2, 3, 4, 5, 0] rfl) hS h
        · have h := tt_some h c12
          refine lv_iconst (v := 0) hx hb dX3_withstands_79 (by decide) ?_
          exact ro_retz X hS h rfl dX3_withstands_80
set_option maxHeartbeats 4000000 in
set_option maxRecDepth 100000 in
theorem c_X3_withstands (l : Launch) (D : va_G) (cI cG : ClassId) (q : Nat → Nat) (S : St) (H : Heap) (F : Nat) (p1 p2 p3 : Int32) {r : Int32} (h : m_X3_withstands F S p1 p2 p3 = some r) : RoM l yX3_withstands cX3_withstands 7 (some .boolean) 3 74 [.ref (q 0), .int p1, .int p2, .int p3] D cI cG (wX cI cG q S) H r := by
  refine RoM.of (own := RX3) (by decide) rfl (Nat.le_of_ble_eq_true rfl) ?_
  intro p e s m args below meth c ls X hP hS hl0
  have hl : lv_has ls 7 [(0, .ref (q 0)), (1, .int p1), (2, .int p2), (3, .int p3)] := hl0 _ (lv_entry [.ref (q 0), .int p1, .int p2, .int p3] (n := 7) (Nat.le_of_ble_eq_true rfl))
  have hx := X.1
  have hb := X.2.1
  rw [m_X3_withstands] at h
  refine lv_aload_n hx hb dX3_withstands_0 rfl (lv_at hl 0 rfl) ?_
  obtain ⟨r1, er1, h⟩ := bd_some h
  refine ro_V (As := []) (rest := []) X hP hS hl.1 (c_X3_exempt l D cI cG q S _ F er1) lk_X3_98 (rc_X3_X3 X hP) ⟨by decide, by decide⟩ rfl rfl (Nat.le_of_ble_eq_true rfl) dX3_withstands_1 ⟨Nat.le_refl _, Nat.le_refl _⟩ (fun locs hS => ?_)
  refine lv_istore (lv' := [(4, .int r1), (0, .ref (q 0)), (1, .int p1), (2, .int p2), (3, .int p3)]) hx hb dX3_withstands_4 hl (by decide) rfl (fun ls hl => ?_)
  refine lv_aload_n hx hb dX3_withstands_6 rfl (lv_at hl 1 rfl) ?_
  refine gf_X3_10 X hP dX3_withstands_7 ?_
  refine lv_iload_n hx hb dX3_withstands_10 rfl (lv_at hl 3 rfl) ?_
  refine lv_iload hx hb dX3_withstands_11 (lv_at hl 0 rfl) ?_
  obtain ⟨r2, er2, h⟩ := bd_some h
  refine ro_V (As := [.int p2, .int r1]) (rest := []) X hP hS hl.1 (c_X0_most l D cI cG q S _ F p2 r1 er2) lk_X3_101 (rc_X3_X0 X hP) ⟨by decide, by decide⟩ rfl rfl (Nat.le_of_ble_eq_true rfl) dX3_withstands_13 ⟨Nat.le_refl _, Nat.le_refl _⟩ (fun locs hS => ?_)
  refine lv_istore (lv' := [(5, .int r2), (4, .int r1), (0, .ref (q 0)), (1, .int p1), (2, .int p2), (3, .int p3)]) hx hb dX3_withstands_16 hl (by decide) rfl (fun ls hl => ?_)
  refine lv_iload hx hb dX3_withstands_18 (lv_at hl 0 rfl) ?_
  refine lv_iload_n hx hb dX3_withstands_20 rfl (lv_at hl 3 rfl) ?_
  obtain ⟨r3, er3, h⟩ := bd_some h
  refine ro_S (As := [.int r2, .int p1]) (rest := []) X hP hS hl.1 (c_X3_contains l D cI cG _ _ r2 p1 er3) lk_X3_115 ⟨by decide, by decide⟩ rfl rfl (Nat.le_of_ble_eq_true rfl) dX3_withstands_21 ⟨Nat.le_refl _, Nat.le_refl _⟩ (fun locs hS => ?_)
  refine lv_if_ne (tgt := 29) hx hb dX3_withstands_24 (by decide) (fun c4 => ?_) (fun c4 => ?_)
  · have h := ff_some h c4
    refine lv_iconst (v := 0) hx hb dX3_withstands_29 (by decide) ?_
    refine lv_istore (lv' := [(6, .int 0), (5, .int r2), (4, .int r1), (0, .ref (q 0)), (1, .int p1), (2, .int p2), (3, .int p3)]) hx hb dX3_withstands_30 hl (by decide) rfl (fun ls hl => ?_)
    exact wk_X3_withstands_32 X hP F r1 r2 0 ls _ (lv_sub hl [3, 4, 6, 2, 1, 0] rfl) hS h
  · have h := tt_some h c4
    refine lv_iconst (v := 0) hx hb dX3_withstands_27 (by decide) ?_
    exact ro_retz X hS h rfl dX3_withstands_28
set_option maxHeartbeats 4000000 in
set_option maxRecDepth 100000 in
theorem wk_X3_safe_104 {p : Program} {l : Launch} {e : Env} {s : State} {m : MethodId} {args : Array Value} {below : List Frame} {meth : Method} {c : Code} {D : va_G} {cI cG : ClassId} {q : Nat → Nat} {S : St} {H : Heap} {r : Int32} {F : Nat} {p1 : Int32} {K25 : Int32 → Int32 → Int32 → Int32 → Option Int32} (X : Cx p s m args meth c cX3_safe 9 (some .int) RX3 D cI cG) (hP : va_P D vwCl (wX cI cG q S) H) (hK25 : ∀ (x2 : Int32) (x3 : Int32) (x4 : Int32) (x5 : Int32) (ls : Array Slot) (locs : List Loc), lv_has ls 9 [(0, .ref (q 0)), (1, .int p1), (2, .int x2), (3, .int x3), (4, .int x4), (5, .int x5)] → va_S no s.heap H locs → K25 x2 x3 x4 x5 = some r → W p l e { frames := 6, cells := 0, slots := 0, locals := 135 } s m args below meth c H locs 0 0 (MQ below (roQ H r) args s 0 0 no) (F0 m 25 ls [])) : ∀ (x5 : Int32) (x6 : Int32) (x7 : Int32) (ls : Array Slot) (locs : List Loc), lv_has ls 9 [(0, .ref (q 0)), (1, .int p1), (5, .int x5), (6, .int x6), (7, .int x7)] → va_S no s.heap H locs → m_X3_safe_104 F S p1 K25 x5 x6 x7 = some r → W p l e { frames := 6, cells := 0, slots := 0, locals := 135 } s m args below meth c H locs 0 0 (MQ below (roQ H r) args s 0 0 no) (F0 m 104 ls []) := by
  have hx := X.1
  have hb := X.2.1
  intro x5 x6 x7 ls locs hl hS h
  rw [m_X3_safe_104] at h
  refine lv_iload hx hb dX3_safe_104 (lv_at hl 2 rfl) ?_
  refine lv_istore_n (lv' := [(2, .int x5), (0, .ref (q 0)), (1, .int p1), (5, .int x5), (6, .int x6), (7, .int x7)]) hx hb dX3_safe_106 rfl hl (by decide) rfl (fun ls hl => ?_)
  refine lv_iload hx hb dX3_safe_107 (lv_at hl 4 rfl) ?_
  refine lv_istore_n (lv' := [(3, .int x6), (2, .int x5), (0, .ref (q 0)), (1, .int p1), (5, .int x5), (6, .int x6), (7, .int x7)]) hx hb dX3_safe_109 rfl hl (by decide) rfl (fun ls hl => ?_)
  refine lv_iload hx hb dX3_safe_110 (lv_at hl 6 rfl) ?_
  refine lv_istore (lv' := [(4, .int x7), (3, .int x6), (2, .int x5), (0, .ref (q 0)), (1, .int p1), (5, .int x5), (6, .int x6), (7, .int x7)]) hx hb dX3_safe_112 hl (by decide) rfl (fun ls hl => ?_)
  obtain ⟨v13, ev13⟩ : ∃ y : Int32, y = x5 + (-1 : Int32) := ⟨_, rfl⟩
  have h := nm_some h ev13
  refine lv_iinc (v := v13) (lv' := [(5, .int v13), (4, .int x7), (3, .int x6), (2, .int x5), (0, .ref (q 0)), (1, .int p1), (6, .int x6), (7, .int x7)]) hx hb dX3_safe_114 hl (k := 5) rfl (by rw [ev13]; rfl) (by decide) rfl (fun ls hl => ?_)
  refine lv_goto (tgt := 25) hx hb dX3_safe_117 (by decide) ?_
  exact hK25 x5 x6 x7 v13 ls _ (lv_sub hl [4, 5, 3, 2, 1, 0] rfl) hS h
set_option maxHeartbeats 4000000 in
set_option maxRecDepth 100000 in
theorem wk_X3_safe_82 {p : Program} {l : Launch} {e : Env} {s : State} {m : MethodId} {args : Array Value} {below : List Frame} {meth : Method} {c : Code} {D : va_G} {cI cG : ClassId} {q : Nat → Nat} {S : St} {H : Heap} {r : Int32} {F : Nat} {p1 : Int32} {K25 : Int32 → Int32 → Int32 → Int32 → Option Int32} (X : Cx p s m args meth c cX3_safe 9 (some .int) RX3 D cI cG) (hP : va_P D vwCl (wX cI cG q S) H) (hK25 : ∀ (x2 : Int32) (x3 : Int32) (x4 : Int32) (x5 : Int32) (ls : Array Slot) (locs : List Loc), lv_has ls 9 [(0, .ref (q 0)), (1, .int p1), (2, .int x2), (3, .int x3), (4, .int x4), (5, .int x5)] → va_S no s.heap H locs → K25 x2 x3 x4 x5 = some r → W p l e { frames := 6, cells := 0, slots := 0, locals := 135 } s m args below meth c H locs 0 0 (MQ below (roQ H r) args s 0 0 no) (F0 m 25 ls [])) : ∀ (x2 : Int32) (x5 : Int32) (x6 : Int32) (x7 : Int32) (t0 : Int32) (ls : Array Slot) (locs : List Loc), lv_has ls 9 [(0, .ref (q 0)), (1, .int p1), (2, .int x2), (5, .int x5), (6, .int x6), (7, .int x7)] → va_S no s.heap H locs → m_X3_safe_82 F S p1 K25 x2 x5 x6 x7 t0 = some r → W p l e { frames := 6, cells := 0, slots := 0, locals := 135 } s m args below meth c H locs 0 0 (MQ below (roQ H r) args s 0 0 no) (F0 m 82 ls [.int t0]) := by
  have hx := X.1
  have hb := X.2.1
  intro x2 x5 x6 x7 t0 ls locs hl hS h
  rw [m_X3_safe_82] at h
  refine lv_istore (lv' := [(8, .int t0), (0, .ref (q 0)), (1, .int p1), (2, .int x2), (5, .int x5), (6, .int x6), (7, .int x7)]) hx hb dX3_safe_82 hl (by decide) rfl (fun ls hl => ?_)
  refine lv_iload hx hb dX3_safe_84 (lv_at hl 0 rfl) ?_
  refine lv_if_ne (tgt := 104) hx hb dX3_safe_86 (by decide) (fun c10 => ?_) (fun c10 => ?_)
  · have h := ff_some h c10
    exact wk_X3_safe_104 X hP hK25 x5 x6 x7 ls _ (lv_sub hl [1, 2, 4, 5, 6] rfl) hS h
  · have h := tt_some h c10
    refine lv_aload_n hx hb dX3_safe_89 rfl (lv_at hl 1 rfl) ?_
    refine lv_iload_n hx hb dX3_safe_90 rfl (lv_at hl 2 rfl) ?_
    refine lv_iload hx hb dX3_safe_91 (lv_at hl 5 rfl) ?_
    refine lv_iload hx hb dX3_safe_93 (lv_at hl 6 rfl) ?_
    obtain ⟨r11, er11, h⟩ := bd_some h
    refine ro_V (As := [.int p1, .int x6, .int x7]) (rest := []) X hP hS hl.1 (c_X3_withstands l D cI cG q S _ F p1 x6 x7 er11) lk_X3_174 (rc_X3_X3 X hP) ⟨by decide, by decide⟩ rfl rfl (Nat.le_of_ble_eq_true rfl) dX3_safe_95 ⟨Nat.le_refl _, Nat.le_refl _⟩ (fun locs hS => ?_)
    refine lv_if_ne (tgt := 104) hx hb dX3_safe_98 (by decide) (fun c12 => ?_) (fun c12 => ?_)
    · have h := ff_some h c12
      exact wk_X3_safe_104 X hP hK25 x5 x6 x7 ls _ (lv_sub hl [1, 2, 4, 5, 6] rfl) hS h
    · have h := tt_some h c12
      refine lv_goto (tgt := 120) hx hb dX3_safe_101 (by decide) ?_
      refine lv_iload_n hx hb dX3_safe_120 rfl (lv_at hl 3 rfl) ?_
      exact ro_ret X hS h dX3_safe_121
set_option maxHeartbeats 4000000 in
set_option maxRecDepth 100000 in
theorem wk_X3_safe_81 {p : Program} {l : Launch} {e : Env} {s : State} {m : MethodId} {args : Array Value} {below : List Frame} {meth : Method} {c : Code} {D : va_G} {cI cG : ClassId} {q : Nat → Nat} {S : St} {H : Heap} {r : Int32} {F : Nat} {p1 : Int32} {K25 : Int32 → Int32 → Int32 → Int32 → Option Int32} (X : Cx p s m args meth c cX3_safe 9 (some .int) RX3 D cI cG) (hP : va_P D vwCl (wX cI cG q S) H) (hK25 : ∀ (x2 : Int32) (x3 : Int32) (x4 : Int32) (x5 : Int32) (ls : Array Slot) (locs : List Loc), lv_has ls 9 [(0, .ref (q 0)), (1, .int p1), (2, .int x2), (3, .int x3), (4, .int x4), (5, .int x5)] → va_S no s.heap H locs → K25 x2 x3 x4 x5 = some r → W p l e { frames := 6, cells := 0, slots := 0, locals := 135 } s m args below meth c H locs 0 0 (MQ below (roQ H r) args s 0 0 no) (F0 m 25 ls [])) : ∀ (x2 : Int32) (x5 : Int32) (x6 : Int32) (x7 : Int32) (ls : Array Slot) (locs : List Loc), lv_has ls 9 [(0, .ref (q 0)), (1, .int p1), (2, .int x2), (5, .int x5), (6, .int x6), (7, .int x7)] → va_S no s.heap H locs → m_X3_safe_81 F S p1 K25 x2 x5 x6 x7 = some r → W p l e { frames := 6, cells := 0, slots := 0, locals := 135 } s m args below meth c H locs 0 0 (MQ below (roQ H r) args s 0 0 no) (F0 m 81 ls []) := by
  have hx := X.1
  have hb := X.2.1
  intro x2 x5 x6 x7 ls locs hl hS h
  rw [m_X3_safe_81] at h
  refine lv_iconst (v := 0) hx hb dX3_safe_81 (by decide) ?_
  exact wk_X3_safe_82 X hP hK25 x2 x5 x6 x7 0 ls _ (lv_sub hl [0, 1, 2, 3, 4, 5] rfl) hS h
set_option maxHeartbeats 4000000 in
set_option maxRecDepth 100000 in
theorem wk_X3_safe_25 {p : Program} {l : Launch} {e : Env} {s : State} {m : MethodId} {args : Array Value} {below : List Frame} {meth : Method} {c : Code} {D : va_G} {cI cG : ClassId} {q : Nat → Nat} {S : St} {H : Heap} {r : Int32} {F : Nat} {p1 : Int32}  (X : Cx p s m args meth c cX3_safe 9 (some .int) RX3 D cI cG) (hP : va_P D vwCl (wX cI cG q S) H)  : ∀ (n : Nat) (x2 : Int32) (x3 : Int32) (x4 : Int32) (x5 : Int32) (ls : Array Slot) (locs : List Loc), lv_has ls 9 [(0, .ref (q 0)), (1, .int p1), (2, .int x2), (3, .int x3), (4, .int x4), (5, .int x5)] → va_S no s.heap H locs → m_X3_safe_25 F S p1 n x2 x3 x4 x5 = some r → W p l e { frames := 6, cells := 0, slots := 0, locals := 135 } s m args below meth c H locs 0 0 (MQ below (roQ H r) args s 0 0 no) (F0 m 25 ls []) := by
  have hx := X.1
  have hb := X.2.1
  intro n
  induction n with
  | zero =>
    intro x2 x3 x4 x5 ls locs hl hS h
    exact no_none (show none = some r from h)
  | succ n ih =>
    intro x2 x3 x4 x5 ls locs hl hS h
    rw [m_X3_safe_25] at h
    refine lv_iload hx hb dX3_safe_25 (lv_at hl 5 rfl) ?_
    refine lv_aload_n hx hb dX3_safe_27 rfl (lv_at hl 0 rfl) ?_
    refine gf_X3_10 X hP dX3_safe_28 ?_
    refine gf_X3_168 X hP dX3_safe_31 ?_
    refine lv_iload_n hx hb dX3_safe_34 rfl (lv_at hl 1 rfl) ?_
    obtain ⟨hi3, h⟩ := gd_some h
    refine ro_ald X hP 4 wX_4 hi3 dX3_safe_35 ?_
    refine lv_icmp_lt (tgt := 120) hx hb dX3_safe_36 (by decide) (fun c4 => ?_) (fun c4 => ?_)
    · have h := tt_some h c4
      refine lv_iload_n hx hb dX3_safe_120 rfl (lv_at hl 2 rfl) ?_
      exact ro_ret X hS h dX3_safe_121
    · have h := ff_some h c4
      refine lv_aload_n hx hb dX3_safe_39 rfl (lv_at hl 0 rfl) ?_
      refine lv_iload hx hb dX3_safe_40 (lv_at hl 5 rfl) ?_
      obtain ⟨r5, er5, h⟩ := bd_some h
      refine ro_V (As := [.int x5]) (rest := []) X hP hS hl.1 (c_X3_soundOn l D cI cG q S _ F x5 er5) lk_X3_95 (rc_X3_X3 X hP) ⟨by decide, by decide⟩ rfl rfl (Nat.le_of_ble_eq_true rfl) dX3_safe_42 ⟨Nat.le_refl _, Nat.le_refl _⟩ (fun locs hS => ?_)
      refine lv_istore (lv' := [(6, .int r5), (0, .ref (q 0)), (1, .int p1), (2, .int x2), (3, .int x3), (4, .int x4), (5, .int x5)]) hx hb dX3_safe_45 hl (by decide) rfl (fun ls hl => ?_)
      refine lv_aload_n hx hb dX3_safe_47 rfl (lv_at hl 1 rfl) ?_
      refine gf_X3_10 X hP dX3_safe_48 ?_
      refine lv_iload hx hb dX3_safe_51 (lv_at hl 6 rfl) ?_
      obtain ⟨r6, er6, h⟩ := bd_some h
      refine ro_V (As := [.int x5]) (rest := []) X hP hS hl.1 (c_X0_askableOn l D cI cG q S _ F x5 er6) lk_X3_171 (rc_X3_X0 X hP) ⟨by decide, by decide⟩ rfl rfl (Nat.le_of_ble_eq_true rfl) dX3_safe_53 ⟨Nat.le_refl _, Nat.le_refl _⟩ (fun locs hS => ?_)
      refine lv_istore (lv' := [(7, .int r6), (6, .int r5), (0, .ref (q 0)), (1, .int p1), (2, .int x2), (3, .int x3), (4, .int x4), (5, .int x5)]) hx hb dX3_safe_56 hl (by decide) rfl (fun ls hl => ?_)
      refine lv_iload_n hx hb dX3_safe_58 rfl (lv_at hl 4 rfl) ?_
      refine lv_bipush (v := (-6 : Int32)) hx hb dX3_safe_59 (by decide) ?_
      refine lv_icmp_eq (tgt := 81) hx hb dX3_safe_61 (by decide) (fun c7 => ?_) (fun c7 => ?_)
      · have h := tt_some h c7
        exact wk_X3_safe_81 X hP ih x2 x5 r5 r6 ls _ (lv_sub hl [2, 3, 4, 7, 1, 0] rfl) hS h
      · have h := ff_some h c7
        refine lv_iload hx hb dX3_safe_64 (lv_at hl 1 rfl) ?_
        refine lv_iload_n hx hb dX3_safe_66 rfl (lv_at hl 5 rfl) ?_
        refine lv_icmp_ne (tgt := 81) hx hb dX3_safe_67 (by decide) (fun c8 => ?_) (fun c8 => ?_)
        · have h := ff_some h c8
          exact wk_X3_safe_81 X hP ih x2 x5 r5 r6 ls _ (lv_sub hl [2, 3, 4, 7, 1, 0] rfl) hS h
        · have h := tt_some h c8
          refine lv_iload hx hb dX3_safe_70 (lv_at hl 0 rfl) ?_
          refine lv_iload hx hb dX3_safe_72 (lv_at hl 6 rfl) ?_
          refine lv_icmp_ne (tgt := 81) hx hb dX3_safe_74 (by decide) (fun c9 => ?_) (fun c9 => ?_)
          · have h := ff_some h c9
            exact wk_X3_safe_81 X hP ih x2 x5 r5 r6 ls _ (lv_sub hl [2, 3, 4, 7, 1, 0] rfl) hS h
          · have h := tt_some h c9
            refine lv_iconst (v := 1) hx hb dX3_safe_77 (by decide) ?_
            refine lv_goto (tgt := 82) hx hb dX3_safe_78 (by decide) ?_
            exact wk_X3_safe_82 X hP ih x2 x5 r5 r6 1 ls _ (lv_sub hl [2, 3, 4, 7, 1, 0] rfl) hS h
set_option maxHeartbeats 4000000 in
set_option maxRecDepth 100000 in
theorem c_X3_safe (l : Launch) (D : va_G) (cI cG : ClassId) (q : Nat → Nat) (S : St) (H : Heap) (F : Nat) (p1 : Int32) {r : Int32} (h : m_X3_safe F S p1 = some r) : RoM l yX3_safe cX3_safe 9 (some .int) 6 135 [.ref (q 0), .int p1] D cI cG (wX cI cG q S) H r := by
  refine RoM.of (own := RX3) (by decide) rfl (Nat.le_of_ble_eq_true rfl) ?_
  intro p e s m args below meth c ls X hP hS hl0
  have hl : lv_has ls 9 [(0, .ref (q 0)), (1, .int p1)] := hl0 _ (lv_entry [.ref (q 0), .int p1] (n := 9) (Nat.le_of_ble_eq_true rfl))
  have hx := X.1
  have hb := X.2.1
  rw [m_X3_safe] at h
  refine lv_aload_n hx hb dX3_safe_0 rfl (lv_at hl 0 rfl) ?_
  refine gf_X3_10 X hP dX3_safe_1 ?_
  refine lv_iload_n hx hb dX3_safe_4 rfl (lv_at hl 1 rfl) ?_
  obtain ⟨r1, er1, h⟩ := bd_some h
  refine ro_V (As := [.int p1]) (rest := []) X hP hS hl.1 (c_X0_has l D cI cG q S _ p1 er1) lk_X3_55 (rc_X3_X0 X hP) ⟨by decide, by decide⟩ rfl rfl (Nat.le_of_ble_eq_true rfl) dX3_safe_5 ⟨Nat.le_refl _, Nat.le_refl _⟩ (fun locs hS => ?_)
  refine lv_if_ne (tgt := 13) hx hb dX3_safe_8 (by decide) (fun c2 => ?_) (fun c2 => ?_)
  · have h := ff_some h c2
    refine lv_bipush (v := (-6 : Int32)) hx hb dX3_safe_13 (by decide) ?_
    refine lv_istore_n (lv' := [(2, .int (-6)), (0, .ref (q 0)), (1, .int p1)]) hx hb dX3_safe_15 rfl hl (by decide) rfl (fun ls hl => ?_)
    refine lv_iconst (v := 0) hx hb dX3_safe_16 (by decide) ?_
    refine lv_istore_n (lv' := [(3, .int 0), (2, .int (-6)), (0, .ref (q 0)), (1, .int p1)]) hx hb dX3_safe_17 rfl hl (by decide) rfl (fun ls hl => ?_)
    refine lv_iconst (v := 0) hx hb dX3_safe_18 (by decide) ?_
    refine lv_istore (lv' := [(4, .int 0), (3, .int 0), (2, .int (-6)), (0, .ref (q 0)), (1, .int p1)]) hx hb dX3_safe_19 hl (by decide) rfl (fun ls hl => ?_)
    refine lv_bipush (v := 99) hx hb dX3_safe_21 (by decide) ?_
    refine lv_istore (lv' := [(5, .int 99), (4, .int 0), (3, .int 0), (2, .int (-6)), (0, .ref (q 0)), (1, .int p1)]) hx hb dX3_safe_23 hl (by decide) rfl (fun ls hl => ?_)
    exact wk_X3_safe_25 X hP F (-6) 0 0 99 ls _ (lv_sub hl [4, 5, 3, 2, 1, 0] rfl) hS h
  · have h := tt_some h c2
    refine lv_iconst (v := (-1 : Int32)) hx hb dX3_safe_11 (by decide) ?_
    exact ro_ret X hS h dX3_safe_12
set_option maxHeartbeats 4000000 in
set_option maxRecDepth 100000 in
theorem c_X3_beside (l : Launch) (D : va_G) (cI cG : ClassId) (q : Nat → Nat) (S : St) (H : Heap) (F : Nat) (p1 : Int32) {r : Int32} (h : m_X3_beside F S p1 = some r) : RoM l yX3_beside cX3_beside 4 (some .int) 6 135 [.ref (q 0), .int p1] D cI cG (wX cI cG q S) H r := by
  refine RoM.of (own := RX3) (by decide) rfl (Nat.le_of_ble_eq_true rfl) ?_
  intro p e s m args below meth c ls X hP hS hl0
  have hl : lv_has ls 4 [(0, .ref (q 0)), (1, .int p1)] := hl0 _ (lv_entry [.ref (q 0), .int p1] (n := 4) (Nat.le_of_ble_eq_true rfl))
  have hx := X.1
  have hb := X.2.1
  rw [m_X3_beside] at h
  refine lv_iload_n hx hb dX3_beside_0 rfl (lv_at hl 1 rfl) ?_
  obtain ⟨r1, er1, h⟩ := bd_some h
  refine ro_S (As := [.int p1]) (rest := []) X hP hS hl.1 (c_X3_isDay l D cI cG _ _ p1 er1) lk_X3_41 ⟨by decide, by decide⟩ rfl rfl (Nat.le_of_ble_eq_true rfl) dX3_beside_1 ⟨Nat.le_refl _, Nat.le_refl _⟩ (fun locs hS => ?_)
  refine lv_if_ne (tgt := 10) hx hb dX3_beside_4 (by decide) (fun c2 => ?_) (fun c2 => ?_)
  · have h := ff_some h c2
    refine lv_aload_n hx hb dX3_beside_10 rfl (lv_at hl 0 rfl) ?_
    refine lv_iload_n hx hb dX3_beside_11 rfl (lv_at hl 1 rfl) ?_
    obtain ⟨r3, er3, h⟩ := bd_some h
    refine ro_V (As := [.int p1]) (rest := []) X hP hS hl.1 (c_X3_soundOn l D cI cG q S _ F p1 er3) lk_X3_95 (rc_X3_X3 X hP) ⟨by decide, by decide⟩ rfl rfl (Nat.le_of_ble_eq_true rfl) dX3_beside_12 ⟨Nat.le_refl _, Nat.le_refl _⟩ (fun locs hS => ?_)
    refine lv_istore_n (lv' := [(2, .int r3), (0, .ref (q 0)), (1, .int p1)]) hx hb dX3_beside_15 rfl hl (by decide) rfl (fun ls hl => ?_)
    refine lv_aload_n hx hb dX3_beside_16 rfl (lv_at hl 1 rfl) ?_
    refine gf_X3_10 X hP dX3_beside_17 ?_
    obtain ⟨r4, er4, h⟩ := bd_some h
    refine ro_V (As := []) (rest := []) X hP hS hl.1 (c_X0_goodOnes l D cI cG q S _ F er4) lk_X3_162 (rc_X3_X0 X hP) ⟨by decide, by decide⟩ rfl rfl (Nat.le_of_ble_eq_true rfl) dX3_beside_20 ⟨Nat.le_refl _, Nat.le_refl _⟩ (fun locs hS => ?_)
    refine lv_istore_n (lv' := [(3, .int r4), (2, .int r3), (0, .ref (q 0)), (1, .int p1)]) hx hb dX3_beside_23 rfl hl (by decide) rfl (fun ls hl => ?_)
    refine lv_aload_n hx hb dX3_beside_24 rfl (lv_at hl 2 rfl) ?_
    refine gf_X3_10 X hP dX3_beside_25 ?_
    refine lv_iload_n hx hb dX3_beside_28 rfl (lv_at hl 1 rfl) ?_
    refine lv_iconst (v := 0) hx hb dX3_beside_29 (by decide) ?_
    refine lv_iload_n hx hb dX3_beside_30 rfl (lv_at hl 0 rfl) ?_
    obtain ⟨r5, er5, h⟩ := bd_some h
    refine ro_S (As := [.int 0, .int r4]) (rest := [.int r3, .ref (q 1)]) X hP hS hl.1 (c_X3_exemptBy l D cI cG _ _ 0 r4 er5) lk_X3_165 ⟨by decide, by decide⟩ rfl rfl (Nat.le_of_ble_eq_true rfl) dX3_beside_31 ⟨Nat.le_refl _, Nat.le_refl _⟩ (fun locs hS => ?_)
    obtain ⟨r6, er6, h⟩ := bd_some h
    refine ro_V (As := [.int r3, .int r5]) (rest := []) X hP hS hl.1 (c_X0_most l D cI cG q S _ F r3 r5 er6) lk_X3_101 (rc_X3_X0 X hP) ⟨by decide, by decide⟩ rfl rfl (Nat.le_of_ble_eq_true rfl) dX3_beside_34 ⟨Nat.le_refl _, Nat.le_refl _⟩ (fun locs hS => ?_)
    refine lv_aload_n hx hb dX3_beside_37 rfl (lv_at hl 2 rfl) ?_
    refine gf_X3_10 X hP dX3_beside_38 ?_
    refine lv_iload_n hx hb dX3_beside_41 rfl (lv_at hl 1 rfl) ?_
    refine lv_iconst (v := 1) hx hb dX3_beside_42 (by decide) ?_
    refine lv_iload_n hx hb dX3_beside_43 rfl (lv_at hl 0 rfl) ?_
    obtain ⟨r7, er7, h⟩ := bd_some h
    refine ro_S (As := [.int 1, .int r4]) (rest := [.int r3, .ref (q 1), .int r6]) X hP hS hl.1 (c_X3_exemptBy l D cI cG _ _ 1 r4 er7) lk_X3_165 ⟨by decide, by decide⟩ rfl rfl (Nat.le_of_ble_eq_true rfl) dX3_beside_44 ⟨Nat.le_refl _, Nat.le_refl _⟩ (fun locs hS => ?_)
    obtain ⟨r8, er8, h⟩ := bd_some h
    refine ro_V (As := [.int r3, .int r7]) (rest := [.int r6]) X hP hS hl.1 (c_X0_most l D cI cG q S _ F r3 r7 er8) lk_X3_101 (rc_X3_X0 X hP) ⟨by decide, by decide⟩ rfl rfl (Nat.le_of_ble_eq_true rfl) dX3_beside_47 ⟨Nat.le_refl _, Nat.le_refl _⟩ (fun locs hS => ?_)
    refine lv_ixor hx hb dX3_beside_50 ?_
    exact ro_ret X hS h dX3_beside_51
  · have h := tt_some h c2
    refine lv_bipush (v := (-2 : Int32)) hx hb dX3_beside_7 (by decide) ?_
    exact ro_ret X hS h dX3_beside_9
set_option maxHeartbeats 4000000 in
set_option maxRecDepth 100000 in
theorem c_X3_told (l : Launch) (D : va_G) (cI cG : ClassId) (q : Nat → Nat) (S : St) (H : Heap) (p1 : Int32) {r : Int32} (h : m_X3_told S p1 = some r) : RoM l yX3_told cX3_told 2 (some .int) 1 22 [.ref (q 0), .int p1] D cI cG (wX cI cG q S) H r := by
  refine RoM.of (own := RX3) (by decide) rfl (Nat.le_of_ble_eq_true rfl) ?_
  intro p e s m args below meth c ls X hP hS hl0
  have hl : lv_has ls 2 [(0, .ref (q 0)), (1, .int p1)] := hl0 _ (lv_entry [.ref (q 0), .int p1] (n := 2) (Nat.le_of_ble_eq_true rfl))
  have hx := X.1
  have hb := X.2.1
  rw [m_X3_told] at h
  refine lv_iload_n hx hb dX3_told_0 rfl (lv_at hl 1 rfl) ?_
  refine lv_bipush (v := 10) hx hb dX3_told_1 (by decide) ?_
  refine lv_bipush (v := 21) hx hb dX3_told_3 (by decide) ?_
  obtain ⟨r1, er1, h⟩ := bd_some h
  refine ro_S (As := [.int p1, .int 10, .int 21]) (rest := []) X hP hS hl.1 (c_X3_within l D cI cG _ _ p1 10 21 er1) lk_X3_44 ⟨by decide, by decide⟩ rfl rfl (Nat.le_of_ble_eq_true rfl) dX3_told_5 ⟨Nat.le_refl _, Nat.le_refl _⟩ (fun locs hS => ?_)
  refine lv_if_eq (tgt := 24) hx hb dX3_told_8 (by decide) (fun c2 => ?_) (fun c2 => ?_)
  · have h := tt_some h c2
    refine lv_iload_n hx hb dX3_told_24 rfl (lv_at hl 1 rfl) ?_
    by_cases c3 : p1 = 0
    · have h := tt_some h c3
      refine lv_tableIn (off := 35) (tgt := 60) hx hb dX3_told_25 (by rw [c3]; decide) (by rw [c3]; decide) (by rw [c3]; rfl) (by decide) ?_
      refine lv_aload_n hx hb dX3_told_60 rfl (lv_at hl 0 rfl) ?_
      refine gf_X3_10 X hP dX3_told_61 ?_
      refine gf_X3_48 X hP dX3_told_64 ?_
      exact ro_ret X hS h dX3_told_67
    · have h := ff_some h c3
      by_cases c4 : p1 = 1
      · have h := tt_some h c4
        refine lv_tableIn (off := 43) (tgt := 68) hx hb dX3_told_25 (by rw [c4]; decide) (by rw [c4]; decide) (by rw [c4]; rfl) (by decide) ?_
        refine lv_aload_n hx hb dX3_told_68 rfl (lv_at hl 0 rfl) ?_
        refine gf_X3_19 X hP dX3_told_69 ?_
        refine gf_X3_87 X hP dX3_told_72 ?_
        exact ro_ret X hS h dX3_told_75
      · have h := ff_some h c4
        by_cases c5 : p1 = 2
        · have h := tt_some h c5
          refine lv_tableIn (off := 51) (tgt := 76) hx hb dX3_told_25 (by rw [c5]; decide) (by rw [c5]; decide) (by rw [c5]; rfl) (by decide) ?_
          refine lv_aload_n hx hb dX3_told_76 rfl (lv_at hl 0 rfl) ?_
          refine gf_X3_26 X hP dX3_told_77 ?_
          refine gf_X3_69 X hP dX3_told_80 ?_
          exact ro_ret X hS h dX3_told_83
        · have h := ff_some h c5
          by_cases c6 : p1 = 3
          · have h := tt_some h c6
            refine lv_tableIn (off := 59) (tgt := 84) hx hb dX3_told_25 (by rw [c6]; decide) (by rw [c6]; decide) (by rw [c6]; rfl) (by decide) ?_
            refine lv_aload_n hx hb dX3_told_84 rfl (lv_at hl 0 rfl) ?_
            refine gf_X3_30 X hP dX3_told_85 ?_
            exact ro_ret X hS h dX3_told_88
          · have h := ff_some h c6
            by_cases c7 : p1 = 4
            · have h := tt_some h c7
              refine lv_tableIn (off := 64) (tgt := 89) hx hb dX3_told_25 (by rw [c7]; decide) (by rw [c7]; decide) (by rw [c7]; rfl) (by decide) ?_
              refine lv_aload_n hx hb dX3_told_89 rfl (lv_at hl 0 rfl) ?_
              refine gf_X3_34 X hP dX3_told_90 ?_
              exact ro_ret X hS h dX3_told_93
            · have h := ff_some h c7
              refine lv_tableOut (tgt := 94) hx hb dX3_told_25 (ts_out (n := 5) (by decide) (ts_cons (ts_cons (ts_cons (ts_cons (ts_cons ts_nil c3) c4) c5) c6) c7) rfl) (by decide) ?_
              refine lv_bipush (v := (-2 : Int32)) hx hb dX3_told_94 (by decide) ?_
              exact ro_ret X hS h dX3_told_96
  · have h := ff_some h c2
    refine lv_aload_n hx hb dX3_told_11 rfl (lv_at hl 0 rfl) ?_
    refine gf_X3_10 X hP dX3_told_12 ?_
    refine gf_X3_84 X hP dX3_told_15 ?_
    refine lv_iload_n hx hb dX3_told_18 rfl (lv_at hl 1 rfl) ?_
    refine lv_bipush (v := 10) hx hb dX3_told_19 (by decide) ?_
    refine lv_isub hx hb dX3_told_21 ?_
    obtain ⟨hi8, h⟩ := gd_some h
    refine ro_ald X hP 9 wX_9 hi8 dX3_told_22 ?_
    exact ro_ret X hS h dX3_told_23
