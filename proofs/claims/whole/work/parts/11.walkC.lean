set_option maxHeartbeats 4000000 in
set_option maxRecDepth 100000 in
theorem c_X0_has (l : Launch) (D : va_G) (cI cG : ClassId) (q : Nat → Nat) (S : St) (H : Heap) (p1 : Int32) {r : Int32} (h : m_X0_has S p1 = some r) : RoM l yX0_has cX0_has 2 (some .boolean) 0 0 [.ref (q 1), .int p1] D cI cG (wX cI cG q S) H r := by
  refine RoM.of (own := RX0) (by decide) rfl (Nat.le_of_ble_eq_true rfl) ?_
  intro p e s m args below meth c ls X hP hS hl0
  have hl : lv_has ls 2 [(0, .ref (q 1)), (1, .int p1)] := hl0 _ (lv_entry [.ref (q 1), .int p1] (n := 2) (Nat.le_of_ble_eq_true rfl))
  have hx := X.1
  have hb := X.2.1
  rw [m_X0_has] at h
  refine lv_iload_n hx hb dX0_has_0 rfl (lv_at hl 1 rfl) ?_
  refine lv_if_lt (tgt := 16) hx hb dX0_has_1 (by decide) (fun c1 => ?_) (fun c1 => ?_)
  · have h := tt_some h c1
    refine lv_iconst (v := 0) hx hb dX0_has_16 (by decide) ?_
    exact ro_retz X hS h rfl dX0_has_17
  · have h := ff_some h c1
    refine lv_iload_n hx hb dX0_has_4 rfl (lv_at hl 1 rfl) ?_
    refine lv_aload_n hx hb dX0_has_5 rfl (lv_at hl 0 rfl) ?_
    refine gf_X0_41 X hP dX0_has_6 ?_
    refine lv_icmp_ge (tgt := 16) hx hb dX0_has_9 (by decide) (fun c2 => ?_) (fun c2 => ?_)
    · have h := tt_some h c2
      refine lv_iconst (v := 0) hx hb dX0_has_16 (by decide) ?_
      exact ro_retz X hS h rfl dX0_has_17
    · have h := ff_some h c2
      refine lv_iconst (v := 1) hx hb dX0_has_12 (by decide) ?_
      refine lv_goto (tgt := 17) hx hb dX0_has_13 (by decide) ?_
      exact ro_retz X hS h rfl dX0_has_17
set_option maxHeartbeats 4000000 in
set_option maxRecDepth 100000 in
theorem c_X0_everyOne (l : Launch) (D : va_G) (cI cG : ClassId) (q : Nat → Nat) (S : St) (H : Heap)  {r : Int32} (h : m_X0_everyOne S = some r) : RoM l yX0_everyOne cX0_everyOne 1 (some .int) 0 0 [.ref (q 1)] D cI cG (wX cI cG q S) H r := by
  refine RoM.of (own := RX0) (by decide) rfl (Nat.le_of_ble_eq_true rfl) ?_
  intro p e s m args below meth c ls X hP hS hl0
  have hl : lv_has ls 1 [(0, .ref (q 1))] := hl0 _ (lv_entry [.ref (q 1)] (n := 1) (Nat.le_of_ble_eq_true rfl))
  have hx := X.1
  have hb := X.2.1
  rw [m_X0_everyOne] at h
  refine lv_iconst (v := 1) hx hb dX0_everyOne_0 (by decide) ?_
  refine lv_aload_n hx hb dX0_everyOne_1 rfl (lv_at hl 0 rfl) ?_
  refine gf_X0_41 X hP dX0_everyOne_2 ?_
  refine lv_ishl hx hb dX0_everyOne_5 ?_
  refine lv_iconst (v := 1) hx hb dX0_everyOne_6 (by decide) ?_
  refine lv_isub hx hb dX0_everyOne_7 ?_
  exact ro_ret X hS h dX0_everyOne_8
set_option maxHeartbeats 4000000 in
set_option maxRecDepth 100000 in
theorem c_X0_hasAll (l : Launch) (D : va_G) (cI cG : ClassId) (q : Nat → Nat) (S : St) (H : Heap) (p1 : Int32) {r : Int32} (h : m_X0_hasAll S p1 = some r) : RoM l yX0_hasAll cX0_hasAll 2 (some .boolean) 1 20 [.ref (q 1), .int p1] D cI cG (wX cI cG q S) H r := by
  refine RoM.of (own := RX0) (by decide) rfl (Nat.le_of_ble_eq_true rfl) ?_
  intro p e s m args below meth c ls X hP hS hl0
  have hl : lv_has ls 2 [(0, .ref (q 1)), (1, .int p1)] := hl0 _ (lv_entry [.ref (q 1), .int p1] (n := 2) (Nat.le_of_ble_eq_true rfl))
  have hx := X.1
  have hb := X.2.1
  rw [m_X0_hasAll] at h
  refine lv_iload_n hx hb dX0_hasAll_0 rfl (lv_at hl 1 rfl) ?_
  refine lv_aload_n hx hb dX0_hasAll_1 rfl (lv_at hl 0 rfl) ?_
  obtain ⟨r1, er1, h⟩ := bd_some h
  refine ro_V (As := []) (rest := [.int p1]) X hP hS hl.1 (c_X0_everyOne l D cI cG q S _  er1) lk_X0_45 (rc_X0_X0 X hP) ⟨by decide, by decide⟩ rfl rfl (Nat.le_of_ble_eq_true rfl) dX0_hasAll_2 ⟨Nat.le_refl _, Nat.le_refl _⟩ (fun locs hS => ?_)
  refine lv_iconst (v := (-1 : Int32)) hx hb dX0_hasAll_5 (by decide) ?_
  refine lv_ixor hx hb dX0_hasAll_6 ?_
  refine lv_iand hx hb dX0_hasAll_7 ?_
  refine lv_if_ne (tgt := 15) hx hb dX0_hasAll_8 (by decide) (fun c2 => ?_) (fun c2 => ?_)
  · have h := ff_some h c2
    refine lv_iconst (v := 0) hx hb dX0_hasAll_15 (by decide) ?_
    exact ro_retz X hS h rfl dX0_hasAll_16
  · have h := tt_some h c2
    refine lv_iconst (v := 1) hx hb dX0_hasAll_11 (by decide) ?_
    refine lv_goto (tgt := 16) hx hb dX0_hasAll_12 (by decide) ?_
    exact ro_retz X hS h rfl dX0_hasAll_16
set_option maxHeartbeats 4000000 in
set_option maxRecDepth 100000 in
theorem wk_X0_named_4 {p : Program} {l : Launch} {e : Env} {s : State} {m : MethodId} {args : Array Value} {below : List Frame} {meth : Method} {c : Code} {D : va_G} {cI cG : ClassId} {q : Nat → Nat} {S : St} {H : Heap} {r : Int32} {F : Nat} {p1 : Int32}  (X : Cx p s m args meth c cX0_named 4 (some .int) RX0 D cI cG) (hP : va_P D vwCl (wX cI cG q S) H)  : ∀ (n : Nat) (x2 : Int32) (x3 : Int32) (ls : Array Slot) (locs : List Loc), lv_has ls 4 [(0, .ref (q 1)), (1, .int p1), (2, .int x2), (3, .int x3)] → va_S no s.heap H locs → m_X0_named_4 F S p1 n x2 x3 = some r → W p l e { frames := 1, cells := 0, slots := 0, locals := 20 } s m args below meth c H locs 0 0 (MQ below (roQ H r) args s 0 0 no) (F0 m 4 ls []) := by
  have hx := X.1
  have hb := X.2.1
  intro n
  induction n with
  | zero =>
    intro x2 x3 ls locs hl hS h
    exact no_none (show none = some r from h)
  | succ n ih =>
    intro x2 x3 ls locs hl hS h
    rw [m_X0_named_4] at h
    refine lv_iload_n hx hb dX0_named_4 rfl (lv_at hl 3 rfl) ?_
    refine lv_aload_n hx hb dX0_named_5 rfl (lv_at hl 0 rfl) ?_
    refine gf_X0_29 X hP dX0_named_6 ?_
    refine lv_iload_n hx hb dX0_named_9 rfl (lv_at hl 1 rfl) ?_
    obtain ⟨hi1, h⟩ := gd_some h
    refine ro_ald X hP 9 wX_9 hi1 dX0_named_10 ?_
    refine lv_icmp_ge (tgt := 31) hx hb dX0_named_11 (by decide) (fun c2 => ?_) (fun c2 => ?_)
    · have h := tt_some h c2
      refine lv_iload_n hx hb dX0_named_31 rfl (lv_at hl 2 rfl) ?_
      refine lv_aload_n hx hb dX0_named_32 rfl (lv_at hl 0 rfl) ?_
      obtain ⟨r3, er3, h⟩ := bd_some h
      refine ro_V (As := []) (rest := [.int x2]) X hP hS hl.1 (c_X0_everyOne l D cI cG q S _  er3) lk_X0_45 (rc_X0_X0 X hP) ⟨by decide, by decide⟩ rfl rfl (Nat.le_of_ble_eq_true rfl) dX0_named_33 ⟨Nat.le_refl _, Nat.le_refl _⟩ (fun locs hS => ?_)
      refine lv_iand hx hb dX0_named_36 ?_
      exact ro_ret X hS h dX0_named_37
    · have h := ff_some h c2
      refine lv_iload_n hx hb dX0_named_14 rfl (lv_at hl 2 rfl) ?_
      refine lv_aload_n hx hb dX0_named_15 rfl (lv_at hl 0 rfl) ?_
      refine gf_X0_32 X hP dX0_named_16 ?_
      refine lv_iload_n hx hb dX0_named_19 rfl (lv_at hl 1 rfl) ?_
      obtain ⟨hr4, h⟩ := gd_some h
      refine ro_row X hP 10 wX_10 hr4 dX0_named_20 ?_
      refine lv_iload_n hx hb dX0_named_21 rfl (lv_at hl 3 rfl) ?_
      obtain ⟨hi5, h⟩ := gd_some h
      refine ro_ald X hP (19 + ix p1) (wX_r19 (inb_lt hr4)) hi5 dX0_named_22 ?_
      refine lv_ior hx hb dX0_named_23 ?_
      refine lv_topi (fun v6 ev6 => ?_)
      have h := nm_some h ev6
      refine lv_istore_n (lv' := [(2, .int v6), (0, .ref (q 1)), (1, .int p1), (3, .int x3)]) hx hb dX0_named_24 rfl hl (by decide) rfl (fun ls hl => ?_)
      obtain ⟨v7, ev7⟩ : ∃ y : Int32, y = x3 + 1 := ⟨_, rfl⟩
      have h := nm_some h ev7
      refine lv_iinc (v := v7) (lv' := [(3, .int v7), (2, .int v6), (0, .ref (q 1)), (1, .int p1)]) hx hb dX0_named_25 hl (k := 3) rfl (by rw [ev7]; rfl) (by decide) rfl (fun ls hl => ?_)
      refine lv_goto (tgt := 4) hx hb dX0_named_28 (by decide) ?_
      exact ih v6 v7 ls _ (lv_sub hl [2, 3, 1, 0] rfl) hS h
set_option maxHeartbeats 4000000 in
set_option maxRecDepth 100000 in
theorem c_X0_named (l : Launch) (D : va_G) (cI cG : ClassId) (q : Nat → Nat) (S : St) (H : Heap) (F : Nat) (p1 : Int32) {r : Int32} (h : m_X0_named F S p1 = some r) : RoM l yX0_named cX0_named 4 (some .int) 1 20 [.ref (q 1), .int p1] D cI cG (wX cI cG q S) H r := by
  refine RoM.of (own := RX0) (by decide) rfl (Nat.le_of_ble_eq_true rfl) ?_
  intro p e s m args below meth c ls X hP hS hl0
  have hl : lv_has ls 4 [(0, .ref (q 1)), (1, .int p1)] := hl0 _ (lv_entry [.ref (q 1), .int p1] (n := 4) (Nat.le_of_ble_eq_true rfl))
  have hx := X.1
  have hb := X.2.1
  rw [m_X0_named] at h
  refine lv_iconst (v := 0) hx hb dX0_named_0 (by decide) ?_
  refine lv_istore_n (lv' := [(2, .int 0), (0, .ref (q 1)), (1, .int p1)]) hx hb dX0_named_1 rfl hl (by decide) rfl (fun ls hl => ?_)
  refine lv_iconst (v := 0) hx hb dX0_named_2 (by decide) ?_
  refine lv_istore_n (lv' := [(3, .int 0), (2, .int 0), (0, .ref (q 1)), (1, .int p1)]) hx hb dX0_named_3 rfl hl (by decide) rfl (fun ls hl => ?_)
  exact wk_X0_named_4 X hP F 0 0 ls _ (lv_sub hl [2, 3, 1, 0] rfl) hS h
set_option maxHeartbeats 4000000 in
set_option maxRecDepth 100000 in
theorem c_X3_contains (l : Launch) (D : va_G) (cI cG : ClassId) (ws : va_W) (H : Heap) (p1 p2 : Int32) {r : Int32} (h : m_X3_contains p1 p2 = some r) : RoM l yX3_contains cX3_contains 2 (some .boolean) 0 0 [.int p1, .int p2] D cI cG ws H r := by
  refine RoM.of (own := RX3) (by decide) rfl (Nat.le_of_ble_eq_true rfl) ?_
  intro p e s m args below meth c ls X hP hS hl0
  have hl : lv_has ls 2 [(0, .int p1), (1, .int p2)] := hl0 _ (lv_entry [.int p1, .int p2] (n := 2) (Nat.le_of_ble_eq_true rfl))
  have hx := X.1
  have hb := X.2.1
  rw [m_X3_contains] at h
  refine lv_iload_n hx hb dX3_contains_0 rfl (lv_at hl 0 rfl) ?_
  refine lv_iload_n hx hb dX3_contains_1 rfl (lv_at hl 1 rfl) ?_
  refine lv_ishr hx hb dX3_contains_2 ?_
  refine lv_iconst (v := 1) hx hb dX3_contains_3 (by decide) ?_
  refine lv_iand hx hb dX3_contains_4 ?_
  refine lv_iconst (v := 1) hx hb dX3_contains_5 (by decide) ?_
  refine lv_icmp_ne (tgt := 13) hx hb dX3_contains_6 (by decide) (fun c1 => ?_) (fun c1 => ?_)
  · have h := ff_some h c1
    refine lv_iconst (v := 0) hx hb dX3_contains_13 (by decide) ?_
    exact ro_retz X hS h rfl dX3_contains_14
  · have h := tt_some h c1
    refine lv_iconst (v := 1) hx hb dX3_contains_9 (by decide) ?_
    refine lv_goto (tgt := 14) hx hb dX3_contains_10 (by decide) ?_
    exact ro_retz X hS h rfl dX3_contains_14
set_option maxHeartbeats 4000000 in
set_option maxRecDepth 100000 in
theorem wk_X0_namedByAny_4 {p : Program} {l : Launch} {e : Env} {s : State} {m : MethodId} {args : Array Value} {below : List Frame} {meth : Method} {c : Code} {D : va_G} {cI cG : ClassId} {q : Nat → Nat} {S : St} {H : Heap} {r : Int32} {F : Nat} {p1 : Int32}  (X : Cx p s m args meth c cX0_namedByAny 4 (some .int) RX0 D cI cG) (hP : va_P D vwCl (wX cI cG q S) H)  : ∀ (n : Nat) (x2 : Int32) (x3 : Int32) (ls : Array Slot) (locs : List Loc), lv_has ls 4 [(0, .ref (q 1)), (1, .int p1), (2, .int x2), (3, .int x3)] → va_S no s.heap H locs → m_X0_namedByAny_4 F S p1 n x2 x3 = some r → W p l e { frames := 2, cells := 0, slots := 0, locals := 43 } s m args below meth c H locs 0 0 (MQ below (roQ H r) args s 0 0 no) (F0 m 4 ls []) := by
  have hx := X.1
  have hb := X.2.1
  intro n
  induction n with
  | zero =>
    intro x2 x3 ls locs hl hS h
    exact no_none (show none = some r from h)
  | succ n ih =>
    intro x2 x3 ls locs hl hS h
    rw [m_X0_namedByAny_4] at h
    refine lv_iload_n hx hb dX0_namedByAny_4 rfl (lv_at hl 3 rfl) ?_
    refine lv_aload_n hx hb dX0_namedByAny_5 rfl (lv_at hl 0 rfl) ?_
    refine gf_X0_41 X hP dX0_namedByAny_6 ?_
    refine lv_icmp_ge (tgt := 34) hx hb dX0_namedByAny_9 (by decide) (fun c1 => ?_) (fun c1 => ?_)
    · have h := tt_some h c1
      refine lv_iload_n hx hb dX0_namedByAny_34 rfl (lv_at hl 2 rfl) ?_
      exact ro_ret X hS h dX0_namedByAny_35
    · have h := ff_some h c1
      refine lv_iload_n hx hb dX0_namedByAny_12 rfl (lv_at hl 1 rfl) ?_
      refine lv_iload_n hx hb dX0_namedByAny_13 rfl (lv_at hl 3 rfl) ?_
      obtain ⟨r2, er2, h⟩ := bd_some h
      refine ro_N (As := [.int p1, .int x3]) (rest := []) X X.2.2.2.2.2.2.2.2.2 hP hS hl.1 (c_X3_contains l D cI cG _ _ p1 x3 er2) lk_X0_61 ⟨by decide, by decide⟩ rfl rfl (Nat.le_of_ble_eq_true rfl) dX0_namedByAny_14 ⟨Nat.le_refl _, Nat.le_refl _⟩ (fun locs hS => ?_)
      refine lv_if_eq (tgt := 28) hx hb dX0_namedByAny_17 (by decide) (fun c3 => ?_) (fun c3 => ?_)
      · have h := tt_some h c3
        obtain ⟨v4, ev4⟩ : ∃ y : Int32, y = x3 + 1 := ⟨_, rfl⟩
        have h := nm_some h ev4
        refine lv_iinc (v := v4) (lv' := [(3, .int v4), (0, .ref (q 1)), (1, .int p1), (2, .int x2)]) hx hb dX0_namedByAny_28 hl (k := 3) rfl (by rw [ev4]; rfl) (by decide) rfl (fun ls hl => ?_)
        refine lv_goto (tgt := 4) hx hb dX0_namedByAny_31 (by decide) ?_
        exact ih x2 v4 ls _ (lv_sub hl [1, 2, 3, 0] rfl) hS h
      · have h := ff_some h c3
        refine lv_iload_n hx hb dX0_namedByAny_20 rfl (lv_at hl 2 rfl) ?_
        refine lv_aload_n hx hb dX0_namedByAny_21 rfl (lv_at hl 0 rfl) ?_
        refine lv_iload_n hx hb dX0_namedByAny_22 rfl (lv_at hl 3 rfl) ?_
        obtain ⟨r5, er5, h⟩ := bd_some h
        refine ro_V (As := [.int x3]) (rest := [.int x2]) X hP hS hl.1 (c_X0_named l D cI cG q S _ F x3 er5) lk_X0_65 (rc_X0_X0 X hP) ⟨by decide, by decide⟩ rfl rfl (Nat.le_of_ble_eq_true rfl) dX0_namedByAny_23 ⟨Nat.le_refl _, Nat.le_refl _⟩ (fun locs hS => ?_)
        refine lv_ior hx hb dX0_namedByAny_26 ?_
        refine lv_topi (fun v6 ev6 => ?_)
        have h := nm_some h ev6
        refine lv_istore_n (lv' := [(2, .int v6), (0, .ref (q 1)), (1, .int p1), (3, .int x3)]) hx hb dX0_namedByAny_27 rfl hl (by decide) rfl (fun ls hl => ?_)
        obtain ⟨v7, ev7⟩ : ∃ y : Int32, y = x3 + 1 := ⟨_, rfl⟩
        have h := nm_some h ev7
        refine lv_iinc (v := v7) (lv' := [(3, .int v7), (2, .int v6), (0, .ref (q 1)), (1, .int p1)]) hx hb dX0_namedByAny_28 hl (k := 3) rfl (by rw [ev7]; rfl) (by decide) rfl (fun ls hl => ?_)
        refine lv_goto (tgt := 4) hx hb dX0_namedByAny_31 (by decide) ?_
        exact ih v6 v7 ls _ (lv_sub hl [2, 3, 1, 0] rfl) hS h
set_option maxHeartbeats 4000000 in
set_option maxRecDepth 100000 in
theorem c_X0_namedByAny (l : Launch) (D : va_G) (cI cG : ClassId) (q : Nat → Nat) (S : St) (H : Heap) (F : Nat) (p1 : Int32) {r : Int32} (h : m_X0_namedByAny F S p1 = some r) : RoM l yX0_namedByAny cX0_namedByAny 4 (some .int) 2 43 [.ref (q 1), .int p1] D cI cG (wX cI cG q S) H r := by
  refine RoM.of (own := RX0) (by decide) rfl (Nat.le_of_ble_eq_true rfl) ?_
  intro p e s m args below meth c ls X hP hS hl0
  have hl : lv_has ls 4 [(0, .ref (q 1)), (1, .int p1)] := hl0 _ (lv_entry [.ref (q 1), .int p1] (n := 4) (Nat.le_of_ble_eq_true rfl))
  have hx := X.1
  have hb := X.2.1
  rw [m_X0_namedByAny] at h
  refine lv_iconst (v := 0) hx hb dX0_namedByAny_0 (by decide) ?_
  refine lv_istore_n (lv' := [(2, .int 0), (0, .ref (q 1)), (1, .int p1)]) hx hb dX0_namedByAny_1 rfl hl (by decide) rfl (fun ls hl => ?_)
  refine lv_iconst (v := 0) hx hb dX0_namedByAny_2 (by decide) ?_
  refine lv_istore_n (lv' := [(3, .int 0), (2, .int 0), (0, .ref (q 1)), (1, .int p1)]) hx hb dX0_namedByAny_3 rfl hl (by decide) rfl (fun ls hl => ?_)
  exact wk_X0_namedByAny_4 X hP F 0 0 ls _ (lv_sub hl [2, 3, 1, 0] rfl) hS h
set_option maxHeartbeats 4000000 in
set_option maxRecDepth 100000 in
theorem wk_X0_goodOnes_4 {p : Program} {l : Launch} {e : Env} {s : State} {m : MethodId} {args : Array Value} {below : List Frame} {meth : Method} {c : Code} {D : va_G} {cI cG : ClassId} {q : Nat → Nat} {S : St} {H : Heap} {r : Int32} {F : Nat}  (X : Cx p s m args meth c cX0_goodOnes 3 (some .int) RX0 D cI cG) (hP : va_P D vwCl (wX cI cG q S) H)  : ∀ (n : Nat) (x1 : Int32) (x2 : Int32) (ls : Array Slot) (locs : List Loc), lv_has ls 3 [(0, .ref (q 1)), (1, .int x1), (2, .int x2)] → va_S no s.heap H locs → m_X0_goodOnes_4 F S n x1 x2 = some r → W p l e { frames := 0, cells := 0, slots := 0, locals := 0 } s m args below meth c H locs 0 0 (MQ below (roQ H r) args s 0 0 no) (F0 m 4 ls []) := by
  have hx := X.1
  have hb := X.2.1
  intro n
  induction n with
  | zero =>
    intro x1 x2 ls locs hl hS h
    exact no_none (show none = some r from h)
  | succ n ih =>
    intro x1 x2 ls locs hl hS h
    rw [m_X0_goodOnes_4] at h
    refine lv_iload_n hx hb dX0_goodOnes_4 rfl (lv_at hl 2 rfl) ?_
    refine lv_aload_n hx hb dX0_goodOnes_5 rfl (lv_at hl 0 rfl) ?_
    refine gf_X0_41 X hP dX0_goodOnes_6 ?_
    refine lv_icmp_ge (tgt := 31) hx hb dX0_goodOnes_9 (by decide) (fun c1 => ?_) (fun c1 => ?_)
    · have h := tt_some h c1
      refine lv_iload_n hx hb dX0_goodOnes_31 rfl (lv_at hl 1 rfl) ?_
      exact ro_ret X hS h dX0_goodOnes_32
    · have h := ff_some h c1
      refine lv_iload_n hx hb dX0_goodOnes_12 rfl (lv_at hl 1 rfl) ?_
      refine lv_aload_n hx hb dX0_goodOnes_13 rfl (lv_at hl 0 rfl) ?_
      refine gf_X0_26 X hP dX0_goodOnes_14 ?_
      refine lv_iconst (v := 3) hx hb dX0_goodOnes_17 (by decide) ?_
      refine ro_row X hP 8 wX_8 (by decide : inb 3 4 = true) dX0_goodOnes_18 ?_
      refine W.eq (g2 := F0 m 19 ls [.ref (q 18), .int x1]) rfl ?_
      refine lv_iload_n hx hb dX0_goodOnes_19 rfl (lv_at hl 2 rfl) ?_
      obtain ⟨hi2, h⟩ := gd_some h
      refine ro_ald X hP 18 wX_18 hi2 dX0_goodOnes_20 ?_
      refine lv_iload_n hx hb dX0_goodOnes_21 rfl (lv_at hl 2 rfl) ?_
      refine lv_ishl hx hb dX0_goodOnes_22 ?_
      refine lv_ior hx hb dX0_goodOnes_23 ?_
      refine lv_topi (fun v3 ev3 => ?_)
      have h := nm_some h ev3
      refine lv_istore_n (lv' := [(1, .int v3), (0, .ref (q 1)), (2, .int x2)]) hx hb dX0_goodOnes_24 rfl hl (by decide) rfl (fun ls hl => ?_)
      obtain ⟨v4, ev4⟩ : ∃ y : Int32, y = x2 + 1 := ⟨_, rfl⟩
      have h := nm_some h ev4
      refine lv_iinc (v := v4) (lv' := [(2, .int v4), (1, .int v3), (0, .ref (q 1))]) hx hb dX0_goodOnes_25 hl (k := 2) rfl (by rw [ev4]; rfl) (by decide) rfl (fun ls hl => ?_)
      refine lv_goto (tgt := 4) hx hb dX0_goodOnes_28 (by decide) ?_
      exact ih v3 v4 ls _ (lv_sub hl [2, 1, 0] rfl) hS h
set_option maxHeartbeats 4000000 in
set_option maxRecDepth 100000 in
theorem c_X0_goodOnes (l : Launch) (D : va_G) (cI cG : ClassId) (q : Nat → Nat) (S : St) (H : Heap) (F : Nat) {r : Int32} (h : m_X0_goodOnes F S = some r) : RoM l yX0_goodOnes cX0_goodOnes 3 (some .int) 0 0 [.ref (q 1)] D cI cG (wX cI cG q S) H r := by
  refine RoM.of (own := RX0) (by decide) rfl (Nat.le_of_ble_eq_true rfl) ?_
  intro p e s m args below meth c ls X hP hS hl0
  have hl : lv_has ls 3 [(0, .ref (q 1))] := hl0 _ (lv_entry [.ref (q 1)] (n := 3) (Nat.le_of_ble_eq_true rfl))
  have hx := X.1
  have hb := X.2.1
  rw [m_X0_goodOnes] at h
  refine lv_iconst (v := 0) hx hb dX0_goodOnes_0 (by decide) ?_
  refine lv_istore_n (lv' := [(1, .int 0), (0, .ref (q 1))]) hx hb dX0_goodOnes_1 rfl hl (by decide) rfl (fun ls hl => ?_)
  refine lv_iconst (v := 0) hx hb dX0_goodOnes_2 (by decide) ?_
  refine lv_istore_n (lv' := [(2, .int 0), (1, .int 0), (0, .ref (q 1))]) hx hb dX0_goodOnes_3 rfl hl (by decide) rfl (fun ls hl => ?_)
  exact wk_X0_goodOnes_4 X hP F 0 0 ls _ (lv_sub hl [2, 1, 0] rfl) hS h
set_option maxHeartbeats 4000000 in
set_option maxRecDepth 100000 in
theorem c_X0_isDone (l : Launch) (D : va_G) (cI cG : ClassId) (q : Nat → Nat) (S : St) (H : Heap) (p1 p2 : Int32) {r : Int32} (h : m_X0_isDone S p1 p2 = some r) : RoM l yX0_isDone cX0_isDone 3 (some .boolean) 0 0 [.ref (q 1), .int p1, .int p2] D cI cG (wX cI cG q S) H r := by
  refine RoM.of (own := RX0) (by decide) rfl (Nat.le_of_ble_eq_true rfl) ?_
  intro p e s m args below meth c ls X hP hS hl0
  have hl : lv_has ls 3 [(0, .ref (q 1)), (1, .int p1), (2, .int p2)] := hl0 _ (lv_entry [.ref (q 1), .int p1, .int p2] (n := 3) (Nat.le_of_ble_eq_true rfl))
  have hx := X.1
  have hb := X.2.1
  rw [m_X0_isDone] at h
  refine lv_aload_n hx hb dX0_isDone_0 rfl (lv_at hl 0 rfl) ?_
  refine gf_X0_9 X hP dX0_isDone_1 ?_
  refine lv_iload_n hx hb dX0_isDone_4 rfl (lv_at hl 1 rfl) ?_
  obtain ⟨hi1, h⟩ := gd_some h
  refine ro_ald X hP 4 wX_4 hi1 dX0_isDone_5 ?_
  refine lv_iload_n hx hb dX0_isDone_6 rfl (lv_at hl 2 rfl) ?_
  refine lv_icmp_gt (tgt := 14) hx hb dX0_isDone_7 (by decide) (fun c2 => ?_) (fun c2 => ?_)
  · have h := tt_some h c2
    refine lv_iconst (v := 0) hx hb dX0_isDone_14 (by decide) ?_
    exact ro_retz X hS h rfl dX0_isDone_15
  · have h := ff_some h c2
    refine lv_iconst (v := 1) hx hb dX0_isDone_10 (by decide) ?_
    refine lv_goto (tgt := 15) hx hb dX0_isDone_11 (by decide) ?_
    exact ro_retz X hS h rfl dX0_isDone_15
set_option maxHeartbeats 4000000 in
set_option maxRecDepth 100000 in
theorem wk_X0_doneBy_4 {p : Program} {l : Launch} {e : Env} {s : State} {m : MethodId} {args : Array Value} {below : List Frame} {meth : Method} {c : Code} {D : va_G} {cI cG : ClassId} {q : Nat → Nat} {S : St} {H : Heap} {r : Int32} {F : Nat} {p1 : Int32}  (X : Cx p s m args meth c cX0_doneBy 4 (some .int) RX0 D cI cG) (hP : va_P D vwCl (wX cI cG q S) H)  : ∀ (n : Nat) (x2 : Int32) (x3 : Int32) (ls : Array Slot) (locs : List Loc), lv_has ls 4 [(0, .ref (q 1)), (1, .int p1), (2, .int x2), (3, .int x3)] → va_S no s.heap H locs → m_X0_doneBy_4 F S p1 n x2 x3 = some r → W p l e { frames := 1, cells := 0, slots := 0, locals := 22 } s m args below meth c H locs 0 0 (MQ below (roQ H r) args s 0 0 no) (F0 m 4 ls []) := by
  have hx := X.1
  have hb := X.2.1
  intro n
  induction n with
  | zero =>
    intro x2 x3 ls locs hl hS h
    exact no_none (show none = some r from h)
  | succ n ih =>
    intro x2 x3 ls locs hl hS h
    rw [m_X0_doneBy_4] at h
    refine lv_iload_n hx hb dX0_doneBy_4 rfl (lv_at hl 3 rfl) ?_
    refine lv_aload_n hx hb dX0_doneBy_5 rfl (lv_at hl 0 rfl) ?_
    refine gf_X0_41 X hP dX0_doneBy_6 ?_
    refine lv_icmp_ge (tgt := 33) hx hb dX0_doneBy_9 (by decide) (fun c1 => ?_) (fun c1 => ?_)
    · have h := tt_some h c1
      refine lv_iload_n hx hb dX0_doneBy_33 rfl (lv_at hl 2 rfl) ?_
      exact ro_ret X hS h dX0_doneBy_34
    · have h := ff_some h c1
      refine lv_aload_n hx hb dX0_doneBy_12 rfl (lv_at hl 0 rfl) ?_
      refine lv_iload_n hx hb dX0_doneBy_13 rfl (lv_at hl 3 rfl) ?_
      refine lv_iload_n hx hb dX0_doneBy_14 rfl (lv_at hl 1 rfl) ?_
      obtain ⟨r2, er2, h⟩ := bd_some h
      refine ro_V (As := [.int x3, .int p1]) (rest := []) X hP hS hl.1 (c_X0_isDone l D cI cG q S _ x3 p1 er2) lk_X0_69 (rc_X0_X0 X hP) ⟨by decide, by decide⟩ rfl rfl (Nat.le_of_ble_eq_true rfl) dX0_doneBy_15 ⟨Nat.le_refl _, Nat.le_refl _⟩ (fun locs hS => ?_)
      refine lv_if_eq (tgt := 27) hx hb dX0_doneBy_18 (by decide) (fun c3 => ?_) (fun c3 => ?_)
      · have h := tt_some h c3
        obtain ⟨v4, ev4⟩ : ∃ y : Int32, y = x3 + 1 := ⟨_, rfl⟩
        have h := nm_some h ev4
        refine lv_iinc (v := v4) (lv' := [(3, .int v4), (0, .ref (q 1)), (1, .int p1), (2, .int x2)]) hx hb dX0_doneBy_27 hl (k := 3) rfl (by rw [ev4]; rfl) (by decide) rfl (fun ls hl => ?_)
        refine lv_goto (tgt := 4) hx hb dX0_doneBy_30 (by decide) ?_
        exact ih x2 v4 ls _ (lv_sub hl [1, 2, 3, 0] rfl) hS h
      · have h := ff_some h c3
        refine lv_iload_n hx hb dX0_doneBy_21 rfl (lv_at hl 2 rfl) ?_
        refine lv_iconst (v := 1) hx hb dX0_doneBy_22 (by decide) ?_
        refine lv_iload_n hx hb dX0_doneBy_23 rfl (lv_at hl 3 rfl) ?_
        refine lv_ishl hx hb dX0_doneBy_24 ?_
        refine lv_ior hx hb dX0_doneBy_25 ?_
        refine lv_topi (fun v5 ev5 => ?_)
        have h := nm_some h ev5
        refine lv_istore_n (lv' := [(2, .int v5), (0, .ref (q 1)), (1, .int p1), (3, .int x3)]) hx hb dX0_doneBy_26 rfl hl (by decide) rfl (fun ls hl => ?_)
        obtain ⟨v6, ev6⟩ : ∃ y : Int32, y = x3 + 1 := ⟨_, rfl⟩
        have h := nm_some h ev6
        refine lv_iinc (v := v6) (lv' := [(3, .int v6), (2, .int v5), (0, .ref (q 1)), (1, .int p1)]) hx hb dX0_doneBy_27 hl (k := 3) rfl (by rw [ev6]; rfl) (by decide) rfl (fun ls hl => ?_)
        refine lv_goto (tgt := 4) hx hb dX0_doneBy_30 (by decide) ?_
        exact ih v5 v6 ls _ (lv_sub hl [2, 3, 1, 0] rfl) hS h
set_option maxHeartbeats 4000000 in
set_option maxRecDepth 100000 in
theorem c_X0_doneBy (l : Launch) (D : va_G) (cI cG : ClassId) (q : Nat → Nat) (S : St) (H : Heap) (F : Nat) (p1 : Int32) {r : Int32} (h : m_X0_doneBy F S p1 = some r) : RoM l yX0_doneBy cX0_doneBy 4 (some .int) 1 22 [.ref (q 1), .int p1] D cI cG (wX cI cG q S) H r := by
  refine RoM.of (own := RX0) (by decide) rfl (Nat.le_of_ble_eq_true rfl) ?_
  intro p e s m args below meth c ls X hP hS hl0
  have hl : lv_has ls 4 [(0, .ref (q 1)), (1, .int p1)] := hl0 _ (lv_entry [.ref (q 1), .int p1] (n := 4) (Nat.le_of_ble_eq_true rfl))
  have hx := X.1
  have hb := X.2.1
  rw [m_X0_doneBy] at h
  refine lv_iconst (v := 0) hx hb dX0_doneBy_0 (by decide) ?_
  refine lv_istore_n (lv' := [(2, .int 0), (0, .ref (q 1)), (1, .int p1)]) hx hb dX0_doneBy_1 rfl hl (by decide) rfl (fun ls hl => ?_)
  refine lv_iconst (v := 0) hx hb dX0_doneBy_2 (by decide) ?_
  refine lv_istore_n (lv' := [(3, .int 0), (2, .int 0), (0, .ref (q 1)), (1, .int p1)]) hx hb dX0_doneBy_3 rfl hl (by decide) rfl (fun ls hl => ?_)
  exact wk_X0_doneBy_4 X hP F 0 0 ls _ (lv_sub hl [2, 3, 1, 0] rfl) hS h
set_option maxHeartbeats 4000000 in
set_option maxRecDepth 100000 in
theorem c_X0_isHealed (l : Launch) (D : va_G) (cI cG : ClassId) (q : Nat → Nat) (S : St) (H : Heap) (p1 p2 : Int32) {r : Int32} (h : m_X0_isHealed S p1 p2 = some r) : RoM l yX0_isHealed cX0_isHealed 4 (some .boolean) 0 0 [.ref (q 1), .int p1, .int p2] D cI cG (wX cI cG q S) H r := by
  refine RoM.of (own := RX0) (by decide) rfl (Nat.le_of_ble_eq_true rfl) ?_
  intro p e s m args below meth c ls X hP hS hl0
  have hl : lv_has ls 4 [(0, .ref (q 1)), (1, .int p1), (2, .int p2)] := hl0 _ (lv_entry [.ref (q 1), .int p1, .int p2] (n := 4) (Nat.le_of_ble_eq_true rfl))
  have hx := X.1
  have hb := X.2.1
  rw [m_X0_isHealed] at h
  refine lv_aload_n hx hb dX0_isHealed_0 rfl (lv_at hl 0 rfl) ?_
  refine gf_X0_26 X hP dX0_isHealed_1 ?_
  refine lv_iconst (v := 2) hx hb dX0_isHealed_4 (by decide) ?_
  refine ro_row X hP 8 wX_8 (by decide : inb 2 4 = true) dX0_isHealed_5 ?_
  refine W.eq (g2 := F0 m 6 ls [.ref (q 17)]) rfl ?_
  refine lv_iload_n hx hb dX0_isHealed_6 rfl (lv_at hl 1 rfl) ?_
  obtain ⟨hi1, h⟩ := gd_some h
  refine ro_ald X hP 17 wX_17 hi1 dX0_isHealed_7 ?_
  refine lv_topi (fun v2 ev2 => ?_)
  have h := nm_some h ev2
  refine lv_istore_n (lv' := [(3, .int v2), (0, .ref (q 1)), (1, .int p1), (2, .int p2)]) hx hb dX0_isHealed_8 rfl hl (by decide) rfl (fun ls hl => ?_)
  refine lv_iload_n hx hb dX0_isHealed_9 rfl (lv_at hl 0 rfl) ?_
  refine lv_iconst (v := (-1 : Int32)) hx hb dX0_isHealed_10 (by decide) ?_
  refine lv_icmp_eq (tgt := 23) hx hb dX0_isHealed_11 (by decide) (fun c3 => ?_) (fun c3 => ?_)
  · have h := tt_some h c3
    refine lv_iconst (v := 0) hx hb dX0_isHealed_23 (by decide) ?_
    exact ro_retz X hS h rfl dX0_isHealed_24
  · have h := ff_some h c3
    refine lv_iload_n hx hb dX0_isHealed_14 rfl (lv_at hl 0 rfl) ?_
    refine lv_iload_n hx hb dX0_isHealed_15 rfl (lv_at hl 3 rfl) ?_
    refine lv_icmp_gt (tgt := 23) hx hb dX0_isHealed_16 (by decide) (fun c4 => ?_) (fun c4 => ?_)
    · have h := tt_some h c4
      refine lv_iconst (v := 0) hx hb dX0_isHealed_23 (by decide) ?_
      exact ro_retz X hS h rfl dX0_isHealed_24
    · have h := ff_some h c4
      refine lv_iconst (v := 1) hx hb dX0_isHealed_19 (by decide) ?_
      refine lv_goto (tgt := 24) hx hb dX0_isHealed_20 (by decide) ?_
      exact ro_retz X hS h rfl dX0_isHealed_24
set_option maxHeartbeats 4000000 in
set_option maxRecDepth 100000 in
theorem c_X0_isNought (l : Launch) (D : va_G) (cI cG : ClassId) (q : Nat → Nat) (S : St) (H : Heap) (p1 p2 : Int32) {r : Int32} (h : m_X0_isNought S p1 p2 = some r) : RoM l yX0_isNought cX0_isNought 3 (some .boolean) 1 23 [.ref (q 1), .int p1, .int p2] D cI cG (wX cI cG q S) H r := by
  refine RoM.of (own := RX0) (by decide) rfl (Nat.le_of_ble_eq_true rfl) ?_
  intro p e s m args below meth c ls X hP hS hl0
  have hl : lv_has ls 3 [(0, .ref (q 1)), (1, .int p1), (2, .int p2)] := hl0 _ (lv_entry [.ref (q 1), .int p1, .int p2] (n := 3) (Nat.le_of_ble_eq_true rfl))
  have hx := X.1
  have hb := X.2.1
  rw [m_X0_isNought] at h
  refine lv_aload_n hx hb dX0_isNought_0 rfl (lv_at hl 0 rfl) ?_
  refine gf_X0_26 X hP dX0_isNought_1 ?_
  refine lv_iconst (v := 0) hx hb dX0_isNought_4 (by decide) ?_
  refine ro_row X hP 8 wX_8 (by decide : inb 0 4 = true) dX0_isNought_5 ?_
  refine W.eq (g2 := F0 m 6 ls [.ref (q 15)]) rfl ?_
  refine lv_iload_n hx hb dX0_isNought_6 rfl (lv_at hl 1 rfl) ?_
  obtain ⟨hi1, h⟩ := gd_some h
  refine ro_ald X hP 15 wX_15 hi1 dX0_isNought_7 ?_
  refine lv_iconst (v := 1) hx hb dX0_isNought_8 (by decide) ?_
  refine lv_icmp_ne (tgt := 25) hx hb dX0_isNought_9 (by decide) (fun c2 => ?_) (fun c2 => ?_)
  · have h := ff_some h c2
    refine lv_iconst (v := 0) hx hb dX0_isNought_25 (by decide) ?_
    exact ro_retz X hS h rfl dX0_isNought_26
  · have h := tt_some h c2
    refine lv_aload_n hx hb dX0_isNought_12 rfl (lv_at hl 0 rfl) ?_
    refine lv_iload_n hx hb dX0_isNought_13 rfl (lv_at hl 1 rfl) ?_
    refine lv_iload_n hx hb dX0_isNought_14 rfl (lv_at hl 2 rfl) ?_
    obtain ⟨r3, er3, h⟩ := bd_some h
    refine ro_V (As := [.int p1, .int p2]) (rest := []) X hP hS hl.1 (c_X0_isHealed l D cI cG q S _ p1 p2 er3) lk_X0_72 (rc_X0_X0 X hP) ⟨by decide, by decide⟩ rfl rfl (Nat.le_of_ble_eq_true rfl) dX0_isNought_15 ⟨Nat.le_refl _, Nat.le_refl _⟩ (fun locs hS => ?_)
    refine lv_if_ne (tgt := 25) hx hb dX0_isNought_18 (by decide) (fun c4 => ?_) (fun c4 => ?_)
    · have h := ff_some h c4
      refine lv_iconst (v := 0) hx hb dX0_isNought_25 (by decide) ?_
      exact ro_retz X hS h rfl dX0_isNought_26
    · have h := tt_some h c4
      refine lv_iconst (v := 1) hx hb dX0_isNought_21 (by decide) ?_
      refine lv_goto (tgt := 26) hx hb dX0_isNought_22 (by decide) ?_
      exact ro_retz X hS h rfl dX0_isNought_26
set_option maxHeartbeats 4000000 in
set_option maxRecDepth 100000 in
theorem wk_X0_unhurtOn_4 {p : Program} {l : Launch} {e : Env} {s : State} {m : MethodId} {args : Array Value} {below : List Frame} {meth : Method} {c : Code} {D : va_G} {cI cG : ClassId} {q : Nat → Nat} {S : St} {H : Heap} {r : Int32} {F : Nat} {p1 : Int32}  (X : Cx p s m args meth c cX0_unhurtOn 4 (some .int) RX0 D cI cG) (hP : va_P D vwCl (wX cI cG q S) H)  : ∀ (n : Nat) (x2 : Int32) (x3 : Int32) (ls : Array Slot) (locs : List Loc), lv_has ls 4 [(0, .ref (q 1)), (1, .int p1), (2, .int x2), (3, .int x3)] → va_S no s.heap H locs → m_X0_unhurtOn_4 F S p1 n x2 x3 = some r → W p l e { frames := 2, cells := 0, slots := 0, locals := 45 } s m args below meth c H locs 0 0 (MQ below (roQ H r) args s 0 0 no) (F0 m 4 ls []) := by
  have hx := X.1
  have hb := X.2.1
  intro n
  induction n with
  | zero =>
    intro x2 x3 ls locs hl hS h
    exact no_none (show none = some r from h)
  | succ n ih =>
    intro x2 x3 ls locs hl hS h
    rw [m_X0_unhurtOn_4] at h
    refine lv_iload_n hx hb dX0_unhurtOn_4 rfl (lv_at hl 3 rfl) ?_
    refine lv_aload_n hx hb dX0_unhurtOn_5 rfl (lv_at hl 0 rfl) ?_
    refine gf_X0_41 X hP dX0_unhurtOn_6 ?_
    refine lv_icmp_ge (tgt := 42) hx hb dX0_unhurtOn_9 (by decide) (fun c1 => ?_) (fun c1 => ?_)
    · have h := tt_some h c1
      refine lv_iload_n hx hb dX0_unhurtOn_42 rfl (lv_at hl 2 rfl) ?_
      exact ro_ret X hS h dX0_unhurtOn_43
    · have h := ff_some h c1
      refine lv_aload_n hx hb dX0_unhurtOn_12 rfl (lv_at hl 0 rfl) ?_
      refine lv_iload_n hx hb dX0_unhurtOn_13 rfl (lv_at hl 3 rfl) ?_
      refine lv_iload_n hx hb dX0_unhurtOn_14 rfl (lv_at hl 1 rfl) ?_
      obtain ⟨r2, er2, h⟩ := bd_some h
      refine ro_V (As := [.int x3, .int p1]) (rest := []) X hP hS hl.1 (c_X0_isDone l D cI cG q S _ x3 p1 er2) lk_X0_69 (rc_X0_X0 X hP) ⟨by decide, by decide⟩ rfl rfl (Nat.le_of_ble_eq_true rfl) dX0_unhurtOn_15 ⟨Nat.le_refl _, Nat.le_refl _⟩ (fun locs hS => ?_)
      refine lv_if_eq (tgt := 36) hx hb dX0_unhurtOn_18 (by decide) (fun c3 => ?_) (fun c3 => ?_)
      · have h := tt_some h c3
        obtain ⟨v4, ev4⟩ : ∃ y : Int32, y = x3 + 1 := ⟨_, rfl⟩
        have h := nm_some h ev4
        refine lv_iinc (v := v4) (lv' := [(3, .int v4), (0, .ref (q 1)), (1, .int p1), (2, .int x2)]) hx hb dX0_unhurtOn_36 hl (k := 3) rfl (by rw [ev4]; rfl) (by decide) rfl (fun ls hl => ?_)
        refine lv_goto (tgt := 4) hx hb dX0_unhurtOn_39 (by decide) ?_
        exact ih x2 v4 ls _ (lv_sub hl [1, 2, 3, 0] rfl) hS h
      · have h := ff_some h c3
        refine lv_aload_n hx hb dX0_unhurtOn_21 rfl (lv_at hl 0 rfl) ?_
        refine lv_iload_n hx hb dX0_unhurtOn_22 rfl (lv_at hl 3 rfl) ?_
        refine lv_iload_n hx hb dX0_unhurtOn_23 rfl (lv_at hl 1 rfl) ?_
        obtain ⟨r5, er5, h⟩ := bd_some h
        refine ro_V (As := [.int x3, .int p1]) (rest := []) X hP hS hl.1 (c_X0_isNought l D cI cG q S _ x3 p1 er5) lk_X0_75 (rc_X0_X0 X hP) ⟨by decide, by decide⟩ rfl rfl (Nat.le_of_ble_eq_true rfl) dX0_unhurtOn_24 ⟨Nat.le_refl _, Nat.le_refl _⟩ (fun locs hS => ?_)
        refine lv_if_ne (tgt := 36) hx hb dX0_unhurtOn_27 (by decide) (fun c6 => ?_) (fun c6 => ?_)
        · have h := ff_some h c6
          obtain ⟨v7, ev7⟩ : ∃ y : Int32, y = x3 + 1 := ⟨_, rfl⟩
          have h := nm_some h ev7
          refine lv_iinc (v := v7) (lv' := [(3, .int v7), (0, .ref (q 1)), (1, .int p1), (2, .int x2)]) hx hb dX0_unhurtOn_36 hl (k := 3) rfl (by rw [ev7]; rfl) (by decide) rfl (fun ls hl => ?_)
          refine lv_goto (tgt := 4) hx hb dX0_unhurtOn_39 (by decide) ?_
          exact ih x2 v7 ls _ (lv_sub hl [1, 2, 3, 0] rfl) hS h
        · have h := tt_some h c6
          refine lv_iload_n hx hb dX0_unhurtOn_30 rfl (lv_at hl 2 rfl) ?_
          refine lv_iconst (v := 1) hx hb dX0_unhurtOn_31 (by decide) ?_
          refine lv_iload_n hx hb dX0_unhurtOn_32 rfl (lv_at hl 3 rfl) ?_
          refine lv_ishl hx hb dX0_unhurtOn_33 ?_
          refine lv_ior hx hb dX0_unhurtOn_34 ?_
          refine lv_topi (fun v8 ev8 => ?_)
          have h := nm_some h ev8
          refine lv_istore_n (lv' := [(2, .int v8), (0, .ref (q 1)), (1, .int p1), (3, .int x3)]) hx hb dX0_unhurtOn_35 rfl hl (by decide) rfl (fun ls hl => ?_)
          obtain ⟨v9, ev9⟩ : ∃ y : Int32, y = x3 + 1 := ⟨_, rfl⟩
          have h := nm_some h ev9
          refine lv_iinc (v := v9) (lv' := [(3, .int v9), (2, .int v8), (0, .ref (q 1)), (1, .int p1)]) hx hb dX0_unhurtOn_36 hl (k := 3) rfl (by rw [ev9]; rfl) (by decide) rfl (fun ls hl => ?_)
          refine lv_goto (tgt := 4) hx hb dX0_unhurtOn_39 (by decide) ?_
          exact ih v8 v9 ls _ (lv_sub hl [2, 3, 1, 0] rfl) hS h
set_option maxHeartbeats 4000000 in
set_option maxRecDepth 100000 in
theorem c_X0_unhurtOn (l : Launch) (D : va_G) (cI cG : ClassId) (q : Nat → Nat) (S : St) (H : Heap) (F : Nat) (p1 : Int32) {r : Int32} (h : m_X0_unhurtOn F S p1 = some r) : RoM l yX0_unhurtOn cX0_unhurtOn 4 (some .int) 2 45 [.ref (q 1), .int p1] D cI cG (wX cI cG q S) H r := by
  refine RoM.of (own := RX0) (by decide) rfl (Nat.le_of_ble_eq_true rfl) ?_
  intro p e s m args below meth c ls X hP hS hl0
  have hl : lv_has ls 4 [(0, .ref (q 1)), (1, .int p1)] := hl0 _ (lv_entry [.ref (q 1), .int p1] (n := 4) (Nat.le_of_ble_eq_true rfl))
  have hx := X.1
  have hb := X.2.1
  rw [m_X0_unhurtOn] at h
  refine lv_iconst (v := 0) hx hb dX0_unhurtOn_0 (by decide) ?_
  refine lv_istore_n (lv' := [(2, .int 0), (0, .ref (q 1)), (1, .int p1)]) hx hb dX0_unhurtOn_1 rfl hl (by decide) rfl (fun ls hl => ?_)
  refine lv_iconst (v := 0) hx hb dX0_unhurtOn_2 (by decide) ?_
  refine lv_istore_n (lv' := [(3, .int 0), (2, .int 0), (0, .ref (q 1)), (1, .int p1)]) hx hb dX0_unhurtOn_3 rfl hl (by decide) rfl (fun ls hl => ?_)
  exact wk_X0_unhurtOn_4 X hP F 0 0 ls _ (lv_sub hl [2, 3, 1, 0] rfl) hS h
set_option maxHeartbeats 4000000 in
set_option maxRecDepth 100000 in
theorem wk_X0_lets_29 {p : Program} {l : Launch} {e : Env} {s : State} {m : MethodId} {args : Array Value} {below : List Frame} {meth : Method} {c : Code} {D : va_G} {cI cG : ClassId} {q : Nat → Nat} {S : St} {H : Heap} {r : Int32} {p1 p2 : Int32}  (X : Cx p s m args meth c cX0_lets 4 (some .boolean) RX0 D cI cG) (hP : va_P D vwCl (wX cI cG q S) H)  : ∀ (x3 : Int32) (ls : Array Slot) (locs : List Loc), lv_has ls 4 [(0, .ref (q 1)), (1, .int p1), (2, .int p2), (3, .int x3)] → va_S no s.heap H locs → m_X0_lets_29 S p1 p2 x3 = some r → W p l e { frames := 0, cells := 0, slots := 0, locals := 0 } s m args below meth c H locs 0 0 (MQ below (roQ H r) args s 0 0 no) (F0 m 29 ls []) := by
  have hx := X.1
  have hb := X.2.1
  intro x3 ls locs hl hS h
  rw [m_X0_lets_29] at h
  refine lv_iload_n hx hb dX0_lets_29 rfl (lv_at hl 3 rfl) ?_
  refine lv_iconst (v := 3) hx hb dX0_lets_30 (by decide) ?_
  refine lv_icmp_ne (tgt := 48) hx hb dX0_lets_31 (by decide) (fun c7 => ?_) (fun c7 => ?_)
  · have h := ff_some h c7
    refine lv_iconst (v := 0) hx hb dX0_lets_48 (by decide) ?_
    exact ro_retz X hS h rfl dX0_lets_49
  · have h := tt_some h c7
    refine lv_iload_n hx hb dX0_lets_34 rfl (lv_at hl 2 rfl) ?_
    refine lv_aload_n hx hb dX0_lets_35 rfl (lv_at hl 0 rfl) ?_
    refine gf_X0_18 X hP dX0_lets_36 ?_
    refine lv_iload_n hx hb dX0_lets_39 rfl (lv_at hl 1 rfl) ?_
    obtain ⟨hi8, h⟩ := gd_some h
    refine ro_ald X hP 6 wX_6 hi8 dX0_lets_40 ?_
    refine lv_icmp_ne (tgt := 48) hx hb dX0_lets_41 (by decide) (fun c9 => ?_) (fun c9 => ?_)
    · have h := ff_some h c9
      refine lv_iconst (v := 0) hx hb dX0_lets_48 (by decide) ?_
      exact ro_retz X hS h rfl dX0_lets_49
    · have h := tt_some h c9
      refine lv_iconst (v := 1) hx hb dX0_lets_44 (by decide) ?_
      refine lv_goto (tgt := 49) hx hb dX0_lets_45 (by decide) ?_
      exact ro_retz X hS h rfl dX0_lets_49
set_option maxHeartbeats 4000000 in
set_option maxRecDepth 100000 in
theorem c_X0_lets (l : Launch) (D : va_G) (cI cG : ClassId) (q : Nat → Nat) (S : St) (H : Heap) (p1 p2 : Int32) {r : Int32} (h : m_X0_lets S p1 p2 = some r) : RoM l yX0_lets cX0_lets 4 (some .boolean) 0 0 [.ref (q 1), .int p1, .int p2] D cI cG (wX cI cG q S) H r := by
  refine RoM.of (own := RX0) (by decide) rfl (Nat.le_of_ble_eq_true rfl) ?_
  intro p e s m args below meth c ls X hP hS hl0
  have hl : lv_has ls 4 [(0, .ref (q 1)), (1, .int p1), (2, .int p2)] := hl0 _ (lv_entry [.ref (q 1), .int p1, .int p2] (n := 4) (Nat.le_of_ble_eq_true rfl))
  have hx := X.1
  have hb := X.2.1
  rw [m_X0_lets] at h
  refine lv_aload_n hx hb dX0_lets_0 rfl (lv_at hl 0 rfl) ?_
  refine gf_X0_26 X hP dX0_lets_1 ?_
  refine lv_iconst (v := 0) hx hb dX0_lets_4 (by decide) ?_
  refine ro_row X hP 8 wX_8 (by decide : inb 0 4 = true) dX0_lets_5 ?_
  refine W.eq (g2 := F0 m 6 ls [.ref (q 15)]) rfl ?_
  refine lv_iload_n hx hb dX0_lets_6 rfl (lv_at hl 1 rfl) ?_
  obtain ⟨hi1, h⟩ := gd_some h
  refine ro_ald X hP 15 wX_15 hi1 dX0_lets_7 ?_
  refine lv_topi (fun v2 ev2 => ?_)
  have h := nm_some h ev2
  refine lv_istore_n (lv' := [(3, .int v2), (0, .ref (q 1)), (1, .int p1), (2, .int p2)]) hx hb dX0_lets_8 rfl hl (by decide) rfl (fun ls hl => ?_)
  refine lv_iload_n hx hb dX0_lets_9 rfl (lv_at hl 0 rfl) ?_
  refine lv_iconst (v := 4) hx hb dX0_lets_10 (by decide) ?_
  refine lv_icmp_eq (tgt := 44) hx hb dX0_lets_11 (by decide) (fun c3 => ?_) (fun c3 => ?_)
  · have h := tt_some h c3
    refine lv_iconst (v := 1) hx hb dX0_lets_44 (by decide) ?_
    refine lv_goto (tgt := 49) hx hb dX0_lets_45 (by decide) ?_
    exact ro_retz X hS h rfl dX0_lets_49
  · have h := ff_some h c3
    refine lv_iload_n hx hb dX0_lets_14 rfl (lv_at hl 0 rfl) ?_
    refine lv_iconst (v := 2) hx hb dX0_lets_15 (by decide) ?_
    refine lv_icmp_ne (tgt := 29) hx hb dX0_lets_16 (by decide) (fun c4 => ?_) (fun c4 => ?_)
    · have h := ff_some h c4
      exact wk_X0_lets_29 X hP v2 ls _ (lv_sub hl [1, 2, 3, 0] rfl) hS h
    · have h := tt_some h c4
      refine lv_iload_n hx hb dX0_lets_19 rfl (lv_at hl 3 rfl) ?_
      refine lv_aload_n hx hb dX0_lets_20 rfl (lv_at hl 1 rfl) ?_
      refine gf_X0_15 X hP dX0_lets_21 ?_
      refine lv_iload_n hx hb dX0_lets_24 rfl (lv_at hl 2 rfl) ?_
      obtain ⟨hi5, h⟩ := gd_some h
      refine ro_ald X hP 5 wX_5 hi5 dX0_lets_25 ?_
      refine lv_icmp_eq (tgt := 44) hx hb dX0_lets_26 (by decide) (fun c6 => ?_) (fun c6 => ?_)
      · have h := tt_some h c6
        refine lv_iconst (v := 1) hx hb dX0_lets_44 (by decide) ?_
        refine lv_goto (tgt := 49) hx hb dX0_lets_45 (by decide) ?_
        exact ro_retz X hS h rfl dX0_lets_49
      · have h := ff_some h c6
        exact wk_X0_lets_29 X hP v2 ls _ (lv_sub hl [1, 2, 3, 0] rfl) hS h
set_option maxHeartbeats 4000000 in
set_option maxRecDepth 100000 in
theorem c_X0_isInTime (l : Launch) (D : va_G) (cI cG : ClassId) (q : Nat → Nat) (S : St) (H : Heap) (p1 p2 : Int32) {r : Int32} (h : m_X0_isInTime S p1 p2 = some r) : RoM l yX0_isInTime cX0_isInTime 3 (some .boolean) 1 23 [.ref (q 1), .int p1, .int p2] D cI cG (wX cI cG q S) H r := by
  refine RoM.of (own := RX0) (by decide) rfl (Nat.le_of_ble_eq_true rfl) ?_
  intro p e s m args below meth c ls X hP hS hl0
  have hl : lv_has ls 3 [(0, .ref (q 1)), (1, .int p1), (2, .int p2)] := hl0 _ (lv_entry [.ref (q 1), .int p1, .int p2] (n := 3) (Nat.le_of_ble_eq_true rfl))
  have hx := X.1
  have hb := X.2.1
  rw [m_X0_isInTime] at h
  refine lv_aload_n hx hb dX0_isInTime_0 rfl (lv_at hl 0 rfl) ?_
  refine lv_iload_n hx hb dX0_isInTime_1 rfl (lv_at hl 1 rfl) ?_
  refine lv_iload_n hx hb dX0_isInTime_2 rfl (lv_at hl 2 rfl) ?_
  obtain ⟨r1, er1, h⟩ := bd_some h
  refine ro_V (As := [.int p1, .int p2]) (rest := []) X hP hS hl.1 (c_X0_isDone l D cI cG q S _ p1 p2 er1) lk_X0_69 (rc_X0_X0 X hP) ⟨by decide, by decide⟩ rfl rfl (Nat.le_of_ble_eq_true rfl) dX0_isInTime_3 ⟨Nat.le_refl _, Nat.le_refl _⟩ (fun locs hS => ?_)
  refine lv_if_eq (tgt := 41) hx hb dX0_isInTime_6 (by decide) (fun c2 => ?_) (fun c2 => ?_)
  · have h := tt_some h c2
    refine lv_iconst (v := 0) hx hb dX0_isInTime_41 (by decide) ?_
    exact ro_retz X hS h rfl dX0_isInTime_42
  · have h := ff_some h c2
    refine lv_iload_n hx hb dX0_isInTime_9 rfl (lv_at hl 2 rfl) ?_
    refine lv_aload_n hx hb dX0_isInTime_10 rfl (lv_at hl 0 rfl) ?_
    refine gf_X0_9 X hP dX0_isInTime_11 ?_
    refine lv_iload_n hx hb dX0_isInTime_14 rfl (lv_at hl 1 rfl) ?_
    obtain ⟨hi3, h⟩ := gd_some h
    refine ro_ald X hP 4 wX_4 hi3 dX0_isInTime_15 ?_
    refine lv_isub hx hb dX0_isInTime_16 ?_
    refine lv_aload_n hx hb dX0_isInTime_17 rfl (lv_at hl 0 rfl) ?_
    refine gf_X0_26 X hP dX0_isInTime_18 ?_
    refine lv_iconst (v := 1) hx hb dX0_isInTime_21 (by decide) ?_
    refine ro_row X hP 8 wX_8 (by decide : inb 1 4 = true) dX0_isInTime_22 ?_
    refine W.eq (g2 := F0 m 23 ls [.ref (q 16), .int (p2 - (S 4 (ix p1)))]) rfl ?_
    refine lv_iload_n hx hb dX0_isInTime_23 rfl (lv_at hl 1 rfl) ?_
    obtain ⟨hi4, h⟩ := gd_some h
    refine ro_ald X hP 16 wX_16 hi4 dX0_isInTime_24 ?_
    refine lv_icmp_gt (tgt := 41) hx hb dX0_isInTime_25 (by decide) (fun c5 => ?_) (fun c5 => ?_)
    · have h := tt_some h c5
      refine lv_iconst (v := 0) hx hb dX0_isInTime_41 (by decide) ?_
      exact ro_retz X hS h rfl dX0_isInTime_42
    · have h := ff_some h c5
      refine lv_aload_n hx hb dX0_isInTime_28 rfl (lv_at hl 0 rfl) ?_
      refine lv_iload_n hx hb dX0_isInTime_29 rfl (lv_at hl 1 rfl) ?_
      refine lv_iload_n hx hb dX0_isInTime_30 rfl (lv_at hl 2 rfl) ?_
      obtain ⟨r6, er6, h⟩ := bd_some h
      refine ro_V (As := [.int p1, .int p2]) (rest := []) X hP hS hl.1 (c_X0_isHealed l D cI cG q S _ p1 p2 er6) lk_X0_72 (rc_X0_X0 X hP) ⟨by decide, by decide⟩ rfl rfl (Nat.le_of_ble_eq_true rfl) dX0_isInTime_31 ⟨Nat.le_refl _, Nat.le_refl _⟩ (fun locs hS => ?_)
      refine lv_if_ne (tgt := 41) hx hb dX0_isInTime_34 (by decide) (fun c7 => ?_) (fun c7 => ?_)
      · have h := ff_some h c7
        refine lv_iconst (v := 0) hx hb dX0_isInTime_41 (by decide) ?_
        exact ro_retz X hS h rfl dX0_isInTime_42
      · have h := tt_some h c7
        refine lv_iconst (v := 1) hx hb dX0_isInTime_37 (by decide) ?_
        refine lv_goto (tgt := 42) hx hb dX0_isInTime_38 (by decide) ?_
        exact ro_retz X hS h rfl dX0_isInTime_42
set_option maxHeartbeats 4000000 in
set_option maxRecDepth 100000 in
theorem c_X0_wouldCount (l : Launch) (D : va_G) (cI cG : ClassId) (q : Nat → Nat) (S : St) (H : Heap) (p1 p2 p3 : Int32) {r : Int32} (h : m_X0_wouldCount S p1 p2 p3 = some r) : RoM l yX0_wouldCount cX0_wouldCount 4 (some .boolean) 2 45 [.ref (q 1), .int p1, .int p2, .int p3] D cI cG (wX cI cG q S) H r := by
  refine RoM.of (own := RX0) (by decide) rfl (Nat.le_of_ble_eq_true rfl) ?_
  intro p e s m args below meth c ls X hP hS hl0
  have hl : lv_has ls 4 [(0, .ref (q 1)), (1, .int p1), (2, .int p2), (3, .int p3)] := hl0 _ (lv_entry [.ref (q 1), .int p1, .int p2, .int p3] (n := 4) (Nat.le_of_ble_eq_true rfl))
  have hx := X.1
  have hb := X.2.1
  rw [m_X0_wouldCount] at h
  refine lv_aload_n hx hb dX0_wouldCount_0 rfl (lv_at hl 0 rfl) ?_
  refine lv_iload_n hx hb dX0_wouldCount_1 rfl (lv_at hl 1 rfl) ?_
  refine lv_iload_n hx hb dX0_wouldCount_2 rfl (lv_at hl 2 rfl) ?_
  obtain ⟨r1, er1, h⟩ := bd_some h
  refine ro_V (As := [.int p1, .int p2]) (rest := []) X hP hS hl.1 (c_X0_lets l D cI cG q S _ p1 p2 er1) lk_X0_78 (rc_X0_X0 X hP) ⟨by decide, by decide⟩ rfl rfl (Nat.le_of_ble_eq_true rfl) dX0_wouldCount_3 ⟨Nat.le_refl _, Nat.le_refl _⟩ (fun locs hS => ?_)
  refine lv_if_eq (tgt := 22) hx hb dX0_wouldCount_6 (by decide) (fun c2 => ?_) (fun c2 => ?_)
  · have h := tt_some h c2
    refine lv_iconst (v := 0) hx hb dX0_wouldCount_22 (by decide) ?_
    exact ro_retz X hS h rfl dX0_wouldCount_23
  · have h := ff_some h c2
    refine lv_aload_n hx hb dX0_wouldCount_9 rfl (lv_at hl 0 rfl) ?_
    refine lv_iload_n hx hb dX0_wouldCount_10 rfl (lv_at hl 1 rfl) ?_
    refine lv_iload_n hx hb dX0_wouldCount_11 rfl (lv_at hl 3 rfl) ?_
    obtain ⟨r3, er3, h⟩ := bd_some h
    refine ro_V (As := [.int p1, .int p3]) (rest := []) X hP hS hl.1 (c_X0_isInTime l D cI cG q S _ p1 p3 er3) lk_X0_81 (rc_X0_X0 X hP) ⟨by decide, by decide⟩ rfl rfl (Nat.le_of_ble_eq_true rfl) dX0_wouldCount_12 ⟨Nat.le_refl _, Nat.le_refl _⟩ (fun locs hS => ?_)
    refine lv_if_eq (tgt := 22) hx hb dX0_wouldCount_15 (by decide) (fun c4 => ?_) (fun c4 => ?_)
    · have h := tt_some h c4
      refine lv_iconst (v := 0) hx hb dX0_wouldCount_22 (by decide) ?_
      exact ro_retz X hS h rfl dX0_wouldCount_23
    · have h := ff_some h c4
      refine lv_iconst (v := 1) hx hb dX0_wouldCount_18 (by decide) ?_
      refine lv_goto (tgt := 23) hx hb dX0_wouldCount_19 (by decide) ?_
      exact ro_retz X hS h rfl dX0_wouldCount_23
set_option maxHeartbeats 4000000 in
set_option maxRecDepth 100000 in
theorem wk_X0_askableOn_42 {p : Program} {l : Launch} {e : Env} {s : State} {m : MethodId} {args : Array Value} {below : List Frame} {meth : Method} {c : Code} {D : va_G} {cI cG : ClassId} {q : Nat → Nat} {S : St} {H : Heap} {r : Int32} {F : Nat} {p1 : Int32} {K4 : Int32 → Int32 → Option Int32} (X : Cx p s m args meth c cX0_askableOn 4 (some .int) RX0 D cI cG) (hP : va_P D vwCl (wX cI cG q S) H) (hK4 : ∀ (x2 : Int32) (x3 : Int32) (ls : Array Slot) (locs : List Loc), lv_has ls 4 [(0, .ref (q 1)), (1, .int p1), (2, .int x2), (3, .int x3)] → va_S no s.heap H locs → K4 x2 x3 = some r → W p l e { frames := 3, cells := 0, slots := 0, locals := 68 } s m args below meth c H locs 0 0 (MQ below (roQ H r) args s 0 0 no) (F0 m 4 ls [])) : ∀ (x2 : Int32) (x3 : Int32) (ls : Array Slot) (locs : List Loc), lv_has ls 4 [(0, .ref (q 1)), (1, .int p1), (2, .int x2), (3, .int x3)] → va_S no s.heap H locs → m_X0_askableOn_42 F S p1 K4 x2 x3 = some r → W p l e { frames := 3, cells := 0, slots := 0, locals := 68 } s m args below meth c H locs 0 0 (MQ below (roQ H r) args s 0 0 no) (F0 m 42 ls []) := by
  have hx := X.1
  have hb := X.2.1
  intro x2 x3 ls locs hl hS h
  rw [m_X0_askableOn_42] at h
  refine lv_iload_n hx hb dX0_askableOn_42 rfl (lv_at hl 2 rfl) ?_
  refine lv_iconst (v := 1) hx hb dX0_askableOn_43 (by decide) ?_
  refine lv_iload_n hx hb dX0_askableOn_44 rfl (lv_at hl 3 rfl) ?_
  refine lv_ishl hx hb dX0_askableOn_45 ?_
  refine lv_ior hx hb dX0_askableOn_46 ?_
  refine lv_topi (fun v9 ev9 => ?_)
  have h := nm_some h ev9
  refine lv_istore_n (lv' := [(2, .int v9), (0, .ref (q 1)), (1, .int p1), (3, .int x3)]) hx hb dX0_askableOn_47 rfl hl (by decide) rfl (fun ls hl => ?_)
  obtain ⟨v10, ev10⟩ : ∃ y : Int32, y = x3 + 1 := ⟨_, rfl⟩
  have h := nm_some h ev10
  refine lv_iinc (v := v10) (lv' := [(3, .int v10), (2, .int v9), (0, .ref (q 1)), (1, .int p1)]) hx hb dX0_askableOn_48 hl (k := 3) rfl (by rw [ev10]; rfl) (by decide) rfl (fun ls hl => ?_)
  refine lv_goto (tgt := 4) hx hb dX0_askableOn_51 (by decide) ?_
  exact hK4 v9 v10 ls _ (lv_sub hl [2, 3, 1, 0] rfl) hS h
set_option maxHeartbeats 4000000 in
set_option maxRecDepth 100000 in
theorem wk_X0_askableOn_4 {p : Program} {l : Launch} {e : Env} {s : State} {m : MethodId} {args : Array Value} {below : List Frame} {meth : Method} {c : Code} {D : va_G} {cI cG : ClassId} {q : Nat → Nat} {S : St} {H : Heap} {r : Int32} {F : Nat} {p1 : Int32}  (X : Cx p s m args meth c cX0_askableOn 4 (some .int) RX0 D cI cG) (hP : va_P D vwCl (wX cI cG q S) H)  : ∀ (n : Nat) (x2 : Int32) (x3 : Int32) (ls : Array Slot) (locs : List Loc), lv_has ls 4 [(0, .ref (q 1)), (1, .int p1), (2, .int x2), (3, .int x3)] → va_S no s.heap H locs → m_X0_askableOn_4 F S p1 n x2 x3 = some r → W p l e { frames := 3, cells := 0, slots := 0, locals := 68 } s m args below meth c H locs 0 0 (MQ below (roQ H r) args s 0 0 no) (F0 m 4 ls []) := by
  have hx := X.1
  have hb := X.2.1
  intro n
  induction n with
  | zero =>
    intro x2 x3 ls locs hl hS h
    exact no_none (show none = some r from h)
  | succ n ih =>
    intro x2 x3 ls locs hl hS h
    rw [m_X0_askableOn_4] at h
    refine lv_iload_n hx hb dX0_askableOn_4 rfl (lv_at hl 3 rfl) ?_
    refine lv_aload_n hx hb dX0_askableOn_5 rfl (lv_at hl 0 rfl) ?_
    refine gf_X0_41 X hP dX0_askableOn_6 ?_
    refine lv_icmp_ge (tgt := 54) hx hb dX0_askableOn_9 (by decide) (fun c1 => ?_) (fun c1 => ?_)
    · have h := tt_some h c1
      refine lv_iload_n hx hb dX0_askableOn_54 rfl (lv_at hl 2 rfl) ?_
      exact ro_ret X hS h dX0_askableOn_55
    · have h := ff_some h c1
      refine lv_aload_n hx hb dX0_askableOn_12 rfl (lv_at hl 0 rfl) ?_
      refine lv_iload_n hx hb dX0_askableOn_13 rfl (lv_at hl 3 rfl) ?_
      refine lv_aload_n hx hb dX0_askableOn_14 rfl (lv_at hl 0 rfl) ?_
      refine gf_X0_15 X hP dX0_askableOn_15 ?_
      refine lv_iload_n hx hb dX0_askableOn_18 rfl (lv_at hl 3 rfl) ?_
      obtain ⟨hi2, h⟩ := gd_some h
      refine ro_ald X hP 5 wX_5 hi2 dX0_askableOn_19 ?_
      refine lv_iload_n hx hb dX0_askableOn_20 rfl (lv_at hl 1 rfl) ?_
      obtain ⟨r3, er3, h⟩ := bd_some h
      refine ro_V (As := [.int x3, .int (S 5 (ix x3)), .int p1]) (rest := []) X hP hS hl.1 (c_X0_wouldCount l D cI cG q S _ x3 (S 5 (ix x3)) p1 er3) lk_X0_84 (rc_X0_X0 X hP) ⟨by decide, by decide⟩ rfl rfl (Nat.le_of_ble_eq_true rfl) dX0_askableOn_21 ⟨Nat.le_refl _, Nat.le_refl _⟩ (fun locs hS => ?_)
      refine lv_if_ne (tgt := 42) hx hb dX0_askableOn_24 (by decide) (fun c4 => ?_) (fun c4 => ?_)
      · have h := ff_some h c4
        exact wk_X0_askableOn_42 X hP ih x2 x3 ls _ (lv_sub hl [0, 1, 2, 3] rfl) hS h
      · have h := tt_some h c4
        refine lv_aload_n hx hb dX0_askableOn_27 rfl (lv_at hl 0 rfl) ?_
        refine lv_iload_n hx hb dX0_askableOn_28 rfl (lv_at hl 3 rfl) ?_
        refine lv_aload_n hx hb dX0_askableOn_29 rfl (lv_at hl 0 rfl) ?_
        refine gf_X0_18 X hP dX0_askableOn_30 ?_
        refine lv_iload_n hx hb dX0_askableOn_33 rfl (lv_at hl 3 rfl) ?_
        obtain ⟨hi5, h⟩ := gd_some h
        refine ro_ald X hP 6 wX_6 hi5 dX0_askableOn_34 ?_
        refine lv_iload_n hx hb dX0_askableOn_35 rfl (lv_at hl 1 rfl) ?_
        obtain ⟨r6, er6, h⟩ := bd_some h
        refine ro_V (As := [.int x3, .int (S 6 (ix x3)), .int p1]) (rest := []) X hP hS hl.1 (c_X0_wouldCount l D cI cG q S _ x3 (S 6 (ix x3)) p1 er6) lk_X0_84 (rc_X0_X0 X hP) ⟨by decide, by decide⟩ rfl rfl (Nat.le_of_ble_eq_true rfl) dX0_askableOn_36 ⟨Nat.le_refl _, Nat.le_refl _⟩ (fun locs hS => ?_)
        refine lv_if_eq (tgt := 48) hx hb dX0_askableOn_39 (by decide) (fun c7 => ?_) (fun c7 => ?_)
        · have h := tt_some h c7
          obtain ⟨v8, ev8⟩ : ∃ y : Int32, y = x3 + 1 := ⟨_, rfl⟩
          have h := nm_some h ev8
          refine lv_iinc (v := v8) (lv' := [(3, .int v8), (0, .ref (q 1)), (1, .int p1), (2, .int x2)]) hx hb dX0_askableOn_48 hl (k := 3) rfl (by rw [ev8]; rfl) (by decide) rfl (fun ls hl => ?_)
          refine lv_goto (tgt := 4) hx hb dX0_askableOn_51 (by decide) ?_
          exact ih x2 v8 ls _ (lv_sub hl [1, 2, 3, 0] rfl) hS h
        · have h := ff_some h c7
          exact wk_X0_askableOn_42 X hP ih x2 x3 ls _ (lv_sub hl [0, 1, 2, 3] rfl) hS h
set_option maxHeartbeats 4000000 in
set_option maxRecDepth 100000 in
theorem c_X0_askableOn (l : Launch) (D : va_G) (cI cG : ClassId) (q : Nat → Nat) (S : St) (H : Heap) (F : Nat) (p1 : Int32) {r : Int32} (h : m_X0_askableOn F S p1 = some r) : RoM l yX0_askableOn cX0_askableOn 4 (some .int) 3 68 [.ref (q 1), .int p1] D cI cG (wX cI cG q S) H r := by
  refine RoM.of (own := RX0) (by decide) rfl (Nat.le_of_ble_eq_true rfl) ?_
  intro p e s m args below meth c ls X hP hS hl0
  have hl : lv_has ls 4 [(0, .ref (q 1)), (1, .int p1)] := hl0 _ (lv_entry [.ref (q 1), .int p1] (n := 4) (Nat.le_of_ble_eq_true rfl))
  have hx := X.1
  have hb := X.2.1
  rw [m_X0_askableOn] at h
  refine lv_iconst (v := 0) hx hb dX0_askableOn_0 (by decide) ?_
  refine lv_istore_n (lv' := [(2, .int 0), (0, .ref (q 1)), (1, .int p1)]) hx hb dX0_askableOn_1 rfl hl (by decide) rfl (fun ls hl => ?_)
  refine lv_iconst (v := 0) hx hb dX0_askableOn_2 (by decide) ?_
  refine lv_istore_n (lv' := [(3, .int 0), (2, .int 0), (0, .ref (q 1)), (1, .int p1)]) hx hb dX0_askableOn_3 rfl hl (by decide) rfl (fun ls hl => ?_)
  exact wk_X0_askableOn_4 X hP F 0 0 ls _ (lv_sub hl [2, 3, 1, 0] rfl) hS h
set_option maxHeartbeats 4000000 in
set_option maxRecDepth 100000 in
theorem wk_X0_isHeldUp_10 {p : Program} {l : Launch} {e : Env} {s : State} {m : MethodId} {args : Array Value} {below : List Frame} {meth : Method} {c : Code} {D : va_G} {cI cG : ClassId} {q : Nat → Nat} {S : St} {H : Heap} {r : Int32} {F : Nat} {p1 p2 : Int32}  (X : Cx p s m args meth c cX0_isHeldUp 5 (some .boolean) RX0 D cI cG) (hP : va_P D vwCl (wX cI cG q S) H)  : ∀ (n : Nat) (x3 : Int32) (x4 : Int32) (ls : Array Slot) (locs : List Loc), lv_has ls 5 [(0, .ref (q 1)), (1, .int p1), (2, .int p2), (3, .int x3), (4, .int x4)] → va_S no s.heap H locs → m_X0_isHeldUp_10 F S p1 p2 n x3 x4 = some r → W p l e { frames := 0, cells := 0, slots := 0, locals := 0 } s m args below meth c H locs 0 0 (MQ below (roQ H r) args s 0 0 no) (F0 m 10 ls []) := by
  have hx := X.1
  have hb := X.2.1
  intro n
  induction n with
  | zero =>
    intro x3 x4 ls locs hl hS h
    exact no_none (show none = some r from h)
  | succ n ih =>
    intro x3 x4 ls locs hl hS h
    rw [m_X0_isHeldUp_10] at h
    refine lv_iload hx hb dX0_isHeldUp_10 (lv_at hl 4 rfl) ?_
    refine lv_iload_n hx hb dX0_isHeldUp_12 rfl (lv_at hl 3 rfl) ?_
    refine lv_icmp_ge (tgt := 40) hx hb dX0_isHeldUp_13 (by decide) (fun c3 => ?_) (fun c3 => ?_)
    · have h := tt_some h c3
      refine lv_iload_n hx hb dX0_isHeldUp_40 rfl (lv_at hl 3 rfl) ?_
      refine lv_if_ne (tgt := 48) hx hb dX0_isHeldUp_41 (by decide) (fun c4 => ?_) (fun c4 => ?_)
      · have h := ff_some h c4
        refine lv_iconst (v := 0) hx hb dX0_isHeldUp_48 (by decide) ?_
        exact ro_retz X hS h rfl dX0_isHeldUp_49
      · have h := tt_some h c4
        refine lv_iconst (v := 1) hx hb dX0_isHeldUp_44 (by decide) ?_
        refine lv_goto (tgt := 49) hx hb dX0_isHeldUp_45 (by decide) ?_
        exact ro_retz X hS h rfl dX0_isHeldUp_49
    · have h := ff_some h c3
      refine lv_aload_n hx hb dX0_isHeldUp_16 rfl (lv_at hl 0 rfl) ?_
      refine gf_X0_32 X hP dX0_isHeldUp_17 ?_
      refine lv_iload_n hx hb dX0_isHeldUp_20 rfl (lv_at hl 1 rfl) ?_
      obtain ⟨hr5, h⟩ := gd_some h
      refine ro_row X hP 10 wX_10 hr5 dX0_isHeldUp_21 ?_
      refine lv_iload hx hb dX0_isHeldUp_22 (lv_at hl 4 rfl) ?_
      obtain ⟨hi6, h⟩ := gd_some h
      refine ro_ald X hP (19 + ix p1) (wX_r19 (inb_lt hr5)) hi6 dX0_isHeldUp_24 ?_
      refine lv_iload_n hx hb dX0_isHeldUp_25 rfl (lv_at hl 2 rfl) ?_
      refine lv_iconst (v := (-1 : Int32)) hx hb dX0_isHeldUp_26 (by decide) ?_
      refine lv_ixor hx hb dX0_isHeldUp_27 ?_
      refine lv_iand hx hb dX0_isHeldUp_28 ?_
      refine lv_if_ne (tgt := 34) hx hb dX0_isHeldUp_29 (by decide) (fun c7 => ?_) (fun c7 => ?_)
      · have h := ff_some h c7
        obtain ⟨v8, ev8⟩ : ∃ y : Int32, y = x4 + 1 := ⟨_, rfl⟩
        have h := nm_some h ev8
        refine lv_iinc (v := v8) (lv' := [(4, .int v8), (0, .ref (q 1)), (1, .int p1), (2, .int p2), (3, .int x3)]) hx hb dX0_isHeldUp_34 hl (k := 4) rfl (by rw [ev8]; rfl) (by decide) rfl (fun ls hl => ?_)
        refine lv_goto (tgt := 10) hx hb dX0_isHeldUp_37 (by decide) ?_
        exact ih x3 v8 ls _ (lv_sub hl [1, 2, 3, 4, 0] rfl) hS h
      · have h := tt_some h c7
        refine lv_iconst (v := 1) hx hb dX0_isHeldUp_32 (by decide) ?_
        exact ro_retz X hS h rfl dX0_isHeldUp_33
set_option maxHeartbeats 4000000 in
set_option maxRecDepth 100000 in
theorem c_X0_isHeldUp (l : Launch) (D : va_G) (cI cG : ClassId) (q : Nat → Nat) (S : St) (H : Heap) (F : Nat) (p1 p2 : Int32) {r : Int32} (h : m_X0_isHeldUp F S p1 p2 = some r) : RoM l yX0_isHeldUp cX0_isHeldUp 5 (some .boolean) 0 0 [.ref (q 1), .int p1, .int p2] D cI cG (wX cI cG q S) H r := by
  refine RoM.of (own := RX0) (by decide) rfl (Nat.le_of_ble_eq_true rfl) ?_
  intro p e s m args below meth c ls X hP hS hl0
  have hl : lv_has ls 5 [(0, .ref (q 1)), (1, .int p1), (2, .int p2)] := hl0 _ (lv_entry [.ref (q 1), .int p1, .int p2] (n := 5) (Nat.le_of_ble_eq_true rfl))
  have hx := X.1
  have hb := X.2.1
  rw [m_X0_isHeldUp] at h
  refine lv_aload_n hx hb dX0_isHeldUp_0 rfl (lv_at hl 0 rfl) ?_
  refine gf_X0_29 X hP dX0_isHeldUp_1 ?_
  refine lv_iload_n hx hb dX0_isHeldUp_4 rfl (lv_at hl 1 rfl) ?_
  obtain ⟨hi1, h⟩ := gd_some h
  refine ro_ald X hP 9 wX_9 hi1 dX0_isHeldUp_5 ?_
  refine lv_topi (fun v2 ev2 => ?_)
  have h := nm_some h ev2
  refine lv_istore_n (lv' := [(3, .int v2), (0, .ref (q 1)), (1, .int p1), (2, .int p2)]) hx hb dX0_isHeldUp_6 rfl hl (by decide) rfl (fun ls hl => ?_)
  refine lv_iconst (v := 0) hx hb dX0_isHeldUp_7 (by decide) ?_
  refine lv_istore (lv' := [(4, .int 0), (3, .int v2), (0, .ref (q 1)), (1, .int p1), (2, .int p2)]) hx hb dX0_isHeldUp_8 hl (by decide) rfl (fun ls hl => ?_)
  exact wk_X0_isHeldUp_10 X hP F v2 0 ls _ (lv_sub hl [2, 3, 4, 1, 0] rfl) hS h
set_option maxHeartbeats 4000000 in
set_option maxRecDepth 100000 in
theorem wk_X0_unheld_12 {p : Program} {l : Launch} {e : Env} {s : State} {m : MethodId} {args : Array Value} {below : List Frame} {meth : Method} {c : Code} {D : va_G} {cI cG : ClassId} {q : Nat → Nat} {S : St} {H : Heap} {r : Int32} {F : Nat} {p1 p2 : Int32}  (X : Cx p s m args meth c cX0_unheld 6 (some .int) RX0 D cI cG) (hP : va_P D vwCl (wX cI cG q S) H)  : ∀ (n : Nat) (x3 : Int32) (x4 : Int32) (x5 : Int32) (ls : Array Slot) (locs : List Loc), lv_has ls 6 [(0, .ref (q 1)), (1, .int p1), (3, .int x3), (4, .int x4), (5, .int x5)] → va_S no s.heap H locs → m_X0_unheld_12 F S p1 p2 n x3 x4 x5 = some r → W p l e { frames := 1, cells := 0, slots := 0, locals := 24 } s m args below meth c H locs 0 0 (MQ below (roQ H r) args s 0 0 no) (F0 m 12 ls []) := by
  have hx := X.1
  have hb := X.2.1
  intro n
  induction n with
  | zero =>
    intro x3 x4 x5 ls locs hl hS h
    exact no_none (show none = some r from h)
  | succ n ih =>
    intro x3 x4 x5 ls locs hl hS h
    rw [m_X0_unheld_12] at h
    refine lv_iload hx hb dX0_unheld_12 (lv_at hl 4 rfl) ?_
    refine lv_aload_n hx hb dX0_unheld_14 rfl (lv_at hl 0 rfl) ?_
    refine gf_X0_41 X hP dX0_unheld_15 ?_
    refine lv_icmp_ge (tgt := 55) hx hb dX0_unheld_18 (by decide) (fun c2 => ?_) (fun c2 => ?_)
    · have h := tt_some h c2
      refine lv_iload hx hb dX0_unheld_55 (lv_at hl 3 rfl) ?_
      exact ro_ret X hS h dX0_unheld_57
    · have h := ff_some h c2
      refine lv_iload_n hx hb dX0_unheld_21 rfl (lv_at hl 2 rfl) ?_
      refine lv_iload hx hb dX0_unheld_22 (lv_at hl 4 rfl) ?_
      obtain ⟨r3, er3, h⟩ := bd_some h
      refine ro_N (As := [.int x3, .int x5]) (rest := []) X X.2.2.2.2.2.2.2.2.2 hP hS hl.1 (c_X3_contains l D cI cG _ _ x3 x5 er3) lk_X0_61 ⟨by decide, by decide⟩ rfl rfl (Nat.le_of_ble_eq_true rfl) dX0_unheld_24 ⟨Nat.le_refl _, Nat.le_refl _⟩ (fun locs hS => ?_)
      refine lv_if_eq (tgt := 49) hx hb dX0_unheld_27 (by decide) (fun c4 => ?_) (fun c4 => ?_)
      · have h := tt_some h c4
        obtain ⟨v5, ev5⟩ : ∃ y : Int32, y = x5 + 1 := ⟨_, rfl⟩
        have h := nm_some h ev5
        refine lv_iinc (v := v5) (lv' := [(5, .int v5), (0, .ref (q 1)), (1, .int p1), (3, .int x3), (4, .int x4)]) hx hb dX0_unheld_49 hl (k := 4) rfl (by rw [ev5]; rfl) (by decide) rfl (fun ls hl => ?_)
        refine lv_goto (tgt := 12) hx hb dX0_unheld_52 (by decide) ?_
        exact ih x3 x4 v5 ls _ (lv_sub hl [1, 2, 3, 4, 0] rfl) hS h
      · have h := ff_some h c4
        refine lv_aload_n hx hb dX0_unheld_30 rfl (lv_at hl 0 rfl) ?_
        refine lv_iload hx hb dX0_unheld_31 (lv_at hl 4 rfl) ?_
        refine lv_iload_n hx hb dX0_unheld_33 rfl (lv_at hl 1 rfl) ?_
        obtain ⟨r6, er6, h⟩ := bd_some h
        refine ro_V (As := [.int x5, .int p1]) (rest := []) X hP hS hl.1 (c_X0_isHeldUp l D cI cG q S _ F x5 p1 er6) lk_X0_88 (rc_X0_X0 X hP) ⟨by decide, by decide⟩ rfl rfl (Nat.le_of_ble_eq_true rfl) dX0_unheld_34 ⟨Nat.le_refl _, Nat.le_refl _⟩ (fun locs hS => ?_)
        refine lv_if_ne (tgt := 49) hx hb dX0_unheld_37 (by decide) (fun c7 => ?_) (fun c7 => ?_)
        · have h := ff_some h c7
          obtain ⟨v8, ev8⟩ : ∃ y : Int32, y = x5 + 1 := ⟨_, rfl⟩
          have h := nm_some h ev8
          refine lv_iinc (v := v8) (lv' := [(5, .int v8), (0, .ref (q 1)), (1, .int p1), (3, .int x3), (4, .int x4)]) hx hb dX0_unheld_49 hl (k := 4) rfl (by rw [ev8]; rfl) (by decide) rfl (fun ls hl => ?_)
          refine lv_goto (tgt := 12) hx hb dX0_unheld_52 (by decide) ?_
          exact ih x3 x4 v8 ls _ (lv_sub hl [1, 2, 3, 4, 0] rfl) hS h
        · have h := tt_some h c7
          refine lv_iload hx hb dX0_unheld_40 (lv_at hl 3 rfl) ?_
          refine lv_iconst (v := 1) hx hb dX0_unheld_42 (by decide) ?_
          refine lv_iload hx hb dX0_unheld_43 (lv_at hl 4 rfl) ?_
          refine lv_ishl hx hb dX0_unheld_45 ?_
          refine lv_ior hx hb dX0_unheld_46 ?_
          refine lv_topi (fun v9 ev9 => ?_)
          have h := nm_some h ev9
          refine lv_istore (lv' := [(4, .int v9), (0, .ref (q 1)), (1, .int p1), (3, .int x3), (5, .int x5)]) hx hb dX0_unheld_47 hl (by decide) rfl (fun ls hl => ?_)
          obtain ⟨v10, ev10⟩ : ∃ y : Int32, y = x5 + 1 := ⟨_, rfl⟩
          have h := nm_some h ev10
          refine lv_iinc (v := v10) (lv' := [(5, .int v10), (4, .int v9), (0, .ref (q 1)), (1, .int p1), (3, .int x3)]) hx hb dX0_unheld_49 hl (k := 4) rfl (by rw [ev10]; rfl) (by decide) rfl (fun ls hl => ?_)
          refine lv_goto (tgt := 12) hx hb dX0_unheld_52 (by decide) ?_
          exact ih x3 v9 v10 ls _ (lv_sub hl [2, 3, 4, 1, 0] rfl) hS h
set_option maxHeartbeats 4000000 in
set_option maxRecDepth 100000 in
theorem c_X0_unheld (l : Launch) (D : va_G) (cI cG : ClassId) (q : Nat → Nat) (S : St) (H : Heap) (F : Nat) (p1 p2 : Int32) {r : Int32} (h : m_X0_unheld F S p1 p2 = some r) : RoM l yX0_unheld cX0_unheld 6 (some .int) 1 24 [.ref (q 1), .int p1, .int p2] D cI cG (wX cI cG q S) H r := by
  refine RoM.of (own := RX0) (by decide) rfl (Nat.le_of_ble_eq_true rfl) ?_
  intro p e s m args below meth c ls X hP hS hl0
  have hl : lv_has ls 6 [(0, .ref (q 1)), (1, .int p1), (2, .int p2)] := hl0 _ (lv_entry [.ref (q 1), .int p1, .int p2] (n := 6) (Nat.le_of_ble_eq_true rfl))
  have hx := X.1
  have hb := X.2.1
  rw [m_X0_unheld] at h
  refine lv_iload_n hx hb dX0_unheld_0 rfl (lv_at hl 1 rfl) ?_
  refine lv_iload_n hx hb dX0_unheld_1 rfl (lv_at hl 2 rfl) ?_
  refine lv_iconst (v := (-1 : Int32)) hx hb dX0_unheld_2 (by decide) ?_
  refine lv_ixor hx hb dX0_unheld_3 ?_
  refine lv_iand hx hb dX0_unheld_4 ?_
  refine lv_topi (fun v1 ev1 => ?_)
  have h := nm_some h ev1
  refine lv_istore_n (lv' := [(3, .int v1), (0, .ref (q 1)), (1, .int p1), (2, .int p2)]) hx hb dX0_unheld_5 rfl hl (by decide) rfl (fun ls hl => ?_)
  refine lv_iconst (v := 0) hx hb dX0_unheld_6 (by decide) ?_
  refine lv_istore (lv' := [(4, .int 0), (3, .int v1), (0, .ref (q 1)), (1, .int p1), (2, .int p2)]) hx hb dX0_unheld_7 hl (by decide) rfl (fun ls hl => ?_)
  refine lv_iconst (v := 0) hx hb dX0_unheld_9 (by decide) ?_
  refine lv_istore (lv' := [(5, .int 0), (4, .int 0), (3, .int v1), (0, .ref (q 1)), (1, .int p1), (2, .int p2)]) hx hb dX0_unheld_10 hl (by decide) rfl (fun ls hl => ?_)
  exact wk_X0_unheld_12 X hP F v1 0 0 ls _ (lv_sub hl [3, 4, 2, 1, 0] rfl) hS h
set_option maxHeartbeats 4000000 in
set_option maxRecDepth 100000 in
theorem wk_X0_most_5 {p : Program} {l : Launch} {e : Env} {s : State} {m : MethodId} {args : Array Value} {below : List Frame} {meth : Method} {c : Code} {D : va_G} {cI cG : ClassId} {q : Nat → Nat} {S : St} {H : Heap} {r : Int32} {F : Nat} {p1 p2 : Int32}  (X : Cx p s m args meth c cX0_most 6 (some .int) RX0 D cI cG) (hP : va_P D vwCl (wX cI cG q S) H)  : ∀ (n : Nat) (x3 : Int32) (x4 : Int32) (ls : Array Slot) (locs : List Loc), lv_has ls 6 [(0, .ref (q 1)), (2, .int p2), (3, .int x3), (4, .int x4)] → va_S no s.heap H locs → m_X0_most_5 F S p1 p2 n x3 x4 = some r → W p l e { frames := 2, cells := 0, slots := 0, locals := 49 } s m args below meth c H locs 0 0 (MQ below (roQ H r) args s 0 0 no) (F0 m 5 ls []) := by
  have hx := X.1
  have hb := X.2.1
  intro n
  induction n with
  | zero =>
    intro x3 x4 ls locs hl hS h
    exact no_none (show none = some r from h)
  | succ n ih =>
    intro x3 x4 ls locs hl hS h
    rw [m_X0_most_5] at h
    refine lv_iload hx hb dX0_most_5 (lv_at hl 3 rfl) ?_
    refine lv_bipush (v := 12) hx hb dX0_most_7 (by decide) ?_
    refine lv_icmp_ge (tgt := 41) hx hb dX0_most_9 (by decide) (fun c1 => ?_) (fun c1 => ?_)
    · have h := tt_some h c1
      refine lv_iload_n hx hb dX0_most_41 rfl (lv_at hl 2 rfl) ?_
      exact ro_ret X hS h dX0_most_42
    · have h := ff_some h c1
      refine lv_aload_n hx hb dX0_most_12 rfl (lv_at hl 0 rfl) ?_
      refine lv_iload_n hx hb dX0_most_13 rfl (lv_at hl 2 rfl) ?_
      refine lv_iload_n hx hb dX0_most_14 rfl (lv_at hl 1 rfl) ?_
      obtain ⟨r2, er2, h⟩ := bd_some h
      refine ro_V (As := [.int x3, .int p2]) (rest := []) X hP hS hl.1 (c_X0_unheld l D cI cG q S _ F x3 p2 er2) lk_X0_91 (rc_X0_X0 X hP) ⟨by decide, by decide⟩ rfl rfl (Nat.le_of_ble_eq_true rfl) dX0_most_15 ⟨Nat.le_refl _, Nat.le_refl _⟩ (fun locs hS => ?_)
      refine lv_istore (lv' := [(5, .int r2), (0, .ref (q 1)), (2, .int p2), (3, .int x3), (4, .int x4)]) hx hb dX0_most_18 hl (by decide) rfl (fun ls hl => ?_)
      refine lv_iload hx hb dX0_most_20 (lv_at hl 0 rfl) ?_
      refine lv_if_ne (tgt := 28) hx hb dX0_most_22 (by decide) (fun c3 => ?_) (fun c3 => ?_)
      · have h := ff_some h c3
        refine lv_iload_n hx hb dX0_most_28 rfl (lv_at hl 3 rfl) ?_
        refine lv_iload hx hb dX0_most_29 (lv_at hl 0 rfl) ?_
        refine lv_iconst (v := (-1 : Int32)) hx hb dX0_most_31 (by decide) ?_
        refine lv_ixor hx hb dX0_most_32 ?_
        refine lv_iand hx hb dX0_most_33 ?_
        refine lv_topi (fun v4 ev4 => ?_)
        have h := nm_some h ev4
        refine lv_istore_n (lv' := [(3, .int v4), (5, .int r2), (0, .ref (q 1)), (2, .int p2), (4, .int x4)]) hx hb dX0_most_34 rfl hl (by decide) rfl (fun ls hl => ?_)
        obtain ⟨v5, ev5⟩ : ∃ y : Int32, y = x4 + 1 := ⟨_, rfl⟩
        have h := nm_some h ev5
        refine lv_iinc (v := v5) (lv' := [(4, .int v5), (3, .int v4), (5, .int r2), (0, .ref (q 1)), (2, .int p2)]) hx hb dX0_most_35 hl (k := 4) rfl (by rw [ev5]; rfl) (by decide) rfl (fun ls hl => ?_)
        refine lv_goto (tgt := 5) hx hb dX0_most_38 (by decide) ?_
        exact ih v4 v5 ls _ (lv_sub hl [3, 4, 1, 0] rfl) hS h
      · have h := tt_some h c3
        refine lv_goto (tgt := 41) hx hb dX0_most_25 (by decide) ?_
        refine lv_iload_n hx hb dX0_most_41 rfl (lv_at hl 3 rfl) ?_
        exact ro_ret X hS h dX0_most_42
set_option maxHeartbeats 4000000 in
set_option maxRecDepth 100000 in
theorem c_X0_most (l : Launch) (D : va_G) (cI cG : ClassId) (q : Nat → Nat) (S : St) (H : Heap) (F : Nat) (p1 p2 : Int32) {r : Int32} (h : m_X0_most F S p1 p2 = some r) : RoM l yX0_most cX0_most 6 (some .int) 2 49 [.ref (q 1), .int p1, .int p2] D cI cG (wX cI cG q S) H r := by
  refine RoM.of (own := RX0) (by decide) rfl (Nat.le_of_ble_eq_true rfl) ?_
  intro p e s m args below meth c ls X hP hS hl0
  have hl : lv_has ls 6 [(0, .ref (q 1)), (1, .int p1), (2, .int p2)] := hl0 _ (lv_entry [.ref (q 1), .int p1, .int p2] (n := 6) (Nat.le_of_ble_eq_true rfl))
  have hx := X.1
  have hb := X.2.1
  rw [m_X0_most] at h
  refine lv_iload_n hx hb dX0_most_0 rfl (lv_at hl 1 rfl) ?_
  refine lv_istore_n (lv' := [(3, .int p1), (0, .ref (q 1)), (1, .int p1), (2, .int p2)]) hx hb dX0_most_1 rfl hl (by decide) rfl (fun ls hl => ?_)
  refine lv_iconst (v := 0) hx hb dX0_most_2 (by decide) ?_
  refine lv_istore (lv' := [(4, .int 0), (3, .int p1), (0, .ref (q 1)), (1, .int p1), (2, .int p2)]) hx hb dX0_most_3 hl (by decide) rfl (fun ls hl => ?_)
  exact wk_X0_most_5 X hP F p1 0 ls _ (lv_sub hl [2, 4, 1, 0] rfl) hS h
set_option maxHeartbeats 4000000 in
set_option maxRecDepth 100000 in
theorem wk_X0_heldUpOf_5 {p : Program} {l : Launch} {e : Env} {s : State} {m : MethodId} {args : Array Value} {below : List Frame} {meth : Method} {c : Code} {D : va_G} {cI cG : ClassId} {q : Nat → Nat} {S : St} {H : Heap} {r : Int32} {F : Nat} {p1 p2 : Int32}  (X : Cx p s m args meth c cX0_heldUpOf 5 (some .int) RX0 D cI cG) (hP : va_P D vwCl (wX cI cG q S) H)  : ∀ (n : Nat) (x3 : Int32) (x4 : Int32) (ls : Array Slot) (locs : List Loc), lv_has ls 5 [(0, .ref (q 1)), (1, .int p1), (2, .int p2), (3, .int x3), (4, .int x4)] → va_S no s.heap H locs → m_X0_heldUpOf_5 F S p1 p2 n x3 x4 = some r → W p l e { frames := 1, cells := 0, slots := 0, locals := 24 } s m args below meth c H locs 0 0 (MQ below (roQ H r) args s 0 0 no) (F0 m 5 ls []) := by
  have hx := X.1
  have hb := X.2.1
  intro n
  induction n with
  | zero =>
    intro x3 x4 ls locs hl hS h
    exact no_none (show none = some r from h)
  | succ n ih =>
    intro x3 x4 ls locs hl hS h
    rw [m_X0_heldUpOf_5] at h
    refine lv_iload hx hb dX0_heldUpOf_5 (lv_at hl 4 rfl) ?_
    refine lv_aload_n hx hb dX0_heldUpOf_7 rfl (lv_at hl 0 rfl) ?_
    refine gf_X0_41 X hP dX0_heldUpOf_8 ?_
    refine lv_icmp_ge (tgt := 46) hx hb dX0_heldUpOf_11 (by decide) (fun c1 => ?_) (fun c1 => ?_)
    · have h := tt_some h c1
      refine lv_iload_n hx hb dX0_heldUpOf_46 rfl (lv_at hl 3 rfl) ?_
      exact ro_ret X hS h dX0_heldUpOf_47
    · have h := ff_some h c1
      refine lv_iload_n hx hb dX0_heldUpOf_14 rfl (lv_at hl 1 rfl) ?_
      refine lv_iload hx hb dX0_heldUpOf_15 (lv_at hl 4 rfl) ?_
      obtain ⟨r2, er2, h⟩ := bd_some h
      refine ro_N (As := [.int p1, .int x4]) (rest := []) X X.2.2.2.2.2.2.2.2.2 hP hS hl.1 (c_X3_contains l D cI cG _ _ p1 x4 er2) lk_X0_61 ⟨by decide, by decide⟩ rfl rfl (Nat.le_of_ble_eq_true rfl) dX0_heldUpOf_17 ⟨Nat.le_refl _, Nat.le_refl _⟩ (fun locs hS => ?_)
      refine lv_if_eq (tgt := 40) hx hb dX0_heldUpOf_20 (by decide) (fun c3 => ?_) (fun c3 => ?_)
      · have h := tt_some h c3
        obtain ⟨v4, ev4⟩ : ∃ y : Int32, y = x4 + 1 := ⟨_, rfl⟩
        have h := nm_some h ev4
        refine lv_iinc (v := v4) (lv' := [(4, .int v4), (0, .ref (q 1)), (1, .int p1), (2, .int p2), (3, .int x3)]) hx hb dX0_heldUpOf_40 hl (k := 4) rfl (by rw [ev4]; rfl) (by decide) rfl (fun ls hl => ?_)
        refine lv_goto (tgt := 5) hx hb dX0_heldUpOf_43 (by decide) ?_
        exact ih x3 v4 ls _ (lv_sub hl [1, 2, 3, 4, 0] rfl) hS h
      · have h := ff_some h c3
        refine lv_aload_n hx hb dX0_heldUpOf_23 rfl (lv_at hl 0 rfl) ?_
        refine lv_iload hx hb dX0_heldUpOf_24 (lv_at hl 4 rfl) ?_
        refine lv_iload_n hx hb dX0_heldUpOf_26 rfl (lv_at hl 2 rfl) ?_
        obtain ⟨r5, er5, h⟩ := bd_some h
        refine ro_V (As := [.int x4, .int p2]) (rest := []) X hP hS hl.1 (c_X0_isHeldUp l D cI cG q S _ F x4 p2 er5) lk_X0_88 (rc_X0_X0 X hP) ⟨by decide, by decide⟩ rfl rfl (Nat.le_of_ble_eq_true rfl) dX0_heldUpOf_27 ⟨Nat.le_refl _, Nat.le_refl _⟩ (fun locs hS => ?_)
        refine lv_if_eq (tgt := 40) hx hb dX0_heldUpOf_30 (by decide) (fun c6 => ?_) (fun c6 => ?_)
        · have h := tt_some h c6
          obtain ⟨v7, ev7⟩ : ∃ y : Int32, y = x4 + 1 := ⟨_, rfl⟩
          have h := nm_some h ev7
          refine lv_iinc (v := v7) (lv' := [(4, .int v7), (0, .ref (q 1)), (1, .int p1), (2, .int p2), (3, .int x3)]) hx hb dX0_heldUpOf_40 hl (k := 4) rfl (by rw [ev7]; rfl) (by decide) rfl (fun ls hl => ?_)
          refine lv_goto (tgt := 5) hx hb dX0_heldUpOf_43 (by decide) ?_
          exact ih x3 v7 ls _ (lv_sub hl [1, 2, 3, 4, 0] rfl) hS h
        · have h := ff_some h c6
          refine lv_iload_n hx hb dX0_heldUpOf_33 rfl (lv_at hl 3 rfl) ?_
          refine lv_iconst (v := 1) hx hb dX0_heldUpOf_34 (by decide) ?_
          refine lv_iload hx hb dX0_heldUpOf_35 (lv_at hl 4 rfl) ?_
          refine lv_ishl hx hb dX0_heldUpOf_37 ?_
          refine lv_ior hx hb dX0_heldUpOf_38 ?_
          refine lv_topi (fun v8 ev8 => ?_)
          have h := nm_some h ev8
          refine lv_istore_n (lv' := [(3, .int v8), (0, .ref (q 1)), (1, .int p1), (2, .int p2), (4, .int x4)]) hx hb dX0_heldUpOf_39 rfl hl (by decide) rfl (fun ls hl => ?_)
          obtain ⟨v9, ev9⟩ : ∃ y : Int32, y = x4 + 1 := ⟨_, rfl⟩
          have h := nm_some h ev9
          refine lv_iinc (v := v9) (lv' := [(4, .int v9), (3, .int v8), (0, .ref (q 1)), (1, .int p1), (2, .int p2)]) hx hb dX0_heldUpOf_40 hl (k := 4) rfl (by rw [ev9]; rfl) (by decide) rfl (fun ls hl => ?_)
          refine lv_goto (tgt := 5) hx hb dX0_heldUpOf_43 (by decide) ?_
          exact ih v8 v9 ls _ (lv_sub hl [2, 3, 4, 1, 0] rfl) hS h
set_option maxHeartbeats 4000000 in
set_option maxRecDepth 100000 in
theorem c_X0_heldUpOf (l : Launch) (D : va_G) (cI cG : ClassId) (q : Nat → Nat) (S : St) (H : Heap) (F : Nat) (p1 p2 : Int32) {r : Int32} (h : m_X0_heldUpOf F S p1 p2 = some r) : RoM l yX0_heldUpOf cX0_heldUpOf 5 (some .int) 1 24 [.ref (q 1), .int p1, .int p2] D cI cG (wX cI cG q S) H r := by
  refine RoM.of (own := RX0) (by decide) rfl (Nat.le_of_ble_eq_true rfl) ?_
  intro p e s m args below meth c ls X hP hS hl0
  have hl : lv_has ls 5 [(0, .ref (q 1)), (1, .int p1), (2, .int p2)] := hl0 _ (lv_entry [.ref (q 1), .int p1, .int p2] (n := 5) (Nat.le_of_ble_eq_true rfl))
  have hx := X.1
  have hb := X.2.1
  rw [m_X0_heldUpOf] at h
  refine lv_iconst (v := 0) hx hb dX0_heldUpOf_0 (by decide) ?_
  refine lv_istore_n (lv' := [(3, .int 0), (0, .ref (q 1)), (1, .int p1), (2, .int p2)]) hx hb dX0_heldUpOf_1 rfl hl (by decide) rfl (fun ls hl => ?_)
  refine lv_iconst (v := 0) hx hb dX0_heldUpOf_2 (by decide) ?_
  refine lv_istore (lv' := [(4, .int 0), (3, .int 0), (0, .ref (q 1)), (1, .int p1), (2, .int p2)]) hx hb dX0_heldUpOf_3 hl (by decide) rfl (fun ls hl => ?_)
  exact wk_X0_heldUpOf_5 X hP F 0 0 ls _ (lv_sub hl [2, 3, 4, 1, 0] rfl) hS h
set_option maxHeartbeats 4000000 in
set_option maxRecDepth 100000 in
theorem wk_X0_least_7 {p : Program} {l : Launch} {e : Env} {s : State} {m : MethodId} {args : Array Value} {below : List Frame} {meth : Method} {c : Code} {D : va_G} {cI cG : ClassId} {q : Nat → Nat} {S : St} {H : Heap} {r : Int32} {F : Nat} {p1 p2 : Int32}  (X : Cx p s m args meth c cX0_least 6 (some .int) RX0 D cI cG) (hP : va_P D vwCl (wX cI cG q S) H)  : ∀ (n : Nat) (x3 : Int32) (x4 : Int32) (ls : Array Slot) (locs : List Loc), lv_has ls 6 [(0, .ref (q 1)), (1, .int p1), (3, .int x3), (4, .int x4)] → va_S no s.heap H locs → m_X0_least_7 F S p1 p2 n x3 x4 = some r → W p l e { frames := 2, cells := 0, slots := 0, locals := 48 } s m args below meth c H locs 0 0 (MQ below (roQ H r) args s 0 0 no) (F0 m 7 ls []) := by
  have hx := X.1
  have hb := X.2.1
  intro n
  induction n with
  | zero =>
    intro x3 x4 ls locs hl hS h
    exact no_none (show none = some r from h)
  | succ n ih =>
    intro x3 x4 ls locs hl hS h
    rw [m_X0_least_7] at h
    refine lv_iload hx hb dX0_least_7 (lv_at hl 3 rfl) ?_
    refine lv_bipush (v := 12) hx hb dX0_least_9 (by decide) ?_
    refine lv_icmp_ge (tgt := 42) hx hb dX0_least_11 (by decide) (fun c2 => ?_) (fun c2 => ?_)
    · have h := tt_some h c2
      refine lv_iload_n hx hb dX0_least_42 rfl (lv_at hl 2 rfl) ?_
      exact ro_ret X hS h dX0_least_43
    · have h := ff_some h c2
      refine lv_iload_n hx hb dX0_least_14 rfl (lv_at hl 2 rfl) ?_
      refine lv_aload_n hx hb dX0_least_15 rfl (lv_at hl 0 rfl) ?_
      refine lv_iload_n hx hb dX0_least_16 rfl (lv_at hl 1 rfl) ?_
      refine lv_iload_n hx hb dX0_least_17 rfl (lv_at hl 2 rfl) ?_
      obtain ⟨r3, er3, h⟩ := bd_some h
      refine ro_V (As := [.int p1, .int x3]) (rest := [.int x3]) X hP hS hl.1 (c_X0_heldUpOf l D cI cG q S _ F p1 x3 er3) lk_X0_94 (rc_X0_X0 X hP) ⟨by decide, by decide⟩ rfl rfl (Nat.le_of_ble_eq_true rfl) dX0_least_18 ⟨Nat.le_refl _, Nat.le_refl _⟩ (fun locs hS => ?_)
      refine lv_ior hx hb dX0_least_21 ?_
      refine lv_topi (fun v4 ev4 => ?_)
      have h := nm_some h ev4
      refine lv_istore (lv' := [(5, .int v4), (0, .ref (q 1)), (1, .int p1), (3, .int x3), (4, .int x4)]) hx hb dX0_least_22 hl (by decide) rfl (fun ls hl => ?_)
      refine lv_iload hx hb dX0_least_24 (lv_at hl 0 rfl) ?_
      refine lv_iload_n hx hb dX0_least_26 rfl (lv_at hl 3 rfl) ?_
      refine lv_icmp_ne (tgt := 33) hx hb dX0_least_27 (by decide) (fun c5 => ?_) (fun c5 => ?_)
      · have h := ff_some h c5
        refine lv_iload hx hb dX0_least_33 (lv_at hl 0 rfl) ?_
        refine lv_istore_n (lv' := [(3, .int v4), (5, .int v4), (0, .ref (q 1)), (1, .int p1), (4, .int x4)]) hx hb dX0_least_35 rfl hl (by decide) rfl (fun ls hl => ?_)
        obtain ⟨v6, ev6⟩ : ∃ y : Int32, y = x4 + 1 := ⟨_, rfl⟩
        have h := nm_some h ev6
        refine lv_iinc (v := v6) (lv' := [(4, .int v6), (3, .int v4), (5, .int v4), (0, .ref (q 1)), (1, .int p1)]) hx hb dX0_least_36 hl (k := 4) rfl (by rw [ev6]; rfl) (by decide) rfl (fun ls hl => ?_)
        refine lv_goto (tgt := 7) hx hb dX0_least_39 (by decide) ?_
        exact ih v4 v6 ls _ (lv_sub hl [3, 4, 1, 0] rfl) hS h
      · have h := tt_some h c5
        refine lv_goto (tgt := 42) hx hb dX0_least_30 (by decide) ?_
        refine lv_iload_n hx hb dX0_least_42 rfl (lv_at hl 3 rfl) ?_
        exact ro_ret X hS h dX0_least_43
set_option maxHeartbeats 4000000 in
set_option maxRecDepth 100000 in
theorem c_X0_least (l : Launch) (D : va_G) (cI cG : ClassId) (q : Nat → Nat) (S : St) (H : Heap) (F : Nat) (p1 p2 : Int32) {r : Int32} (h : m_X0_least F S p1 p2 = some r) : RoM l yX0_least cX0_least 6 (some .int) 2 48 [.ref (q 1), .int p1, .int p2] D cI cG (wX cI cG q S) H r := by
  refine RoM.of (own := RX0) (by decide) rfl (Nat.le_of_ble_eq_true rfl) ?_
  intro p e s m args below meth c ls X hP hS hl0
  have hl : lv_has ls 6 [(0, .ref (q 1)), (1, .int p1), (2, .int p2)] := hl0 _ (lv_entry [.ref (q 1), .int p1, .int p2] (n := 6) (Nat.le_of_ble_eq_true rfl))
  have hx := X.1
  have hb := X.2.1
  rw [m_X0_least] at h
  refine lv_iload_n hx hb dX0_least_0 rfl (lv_at hl 1 rfl) ?_
  refine lv_iload_n hx hb dX0_least_1 rfl (lv_at hl 2 rfl) ?_
  refine lv_iand hx hb dX0_least_2 ?_
  refine lv_topi (fun v1 ev1 => ?_)
  have h := nm_some h ev1
  refine lv_istore_n (lv' := [(3, .int v1), (0, .ref (q 1)), (1, .int p1), (2, .int p2)]) hx hb dX0_least_3 rfl hl (by decide) rfl (fun ls hl => ?_)
  refine lv_iconst (v := 0) hx hb dX0_least_4 (by decide) ?_
  refine lv_istore (lv' := [(4, .int 0), (3, .int v1), (0, .ref (q 1)), (1, .int p1), (2, .int p2)]) hx hb dX0_least_5 hl (by decide) rfl (fun ls hl => ?_)
  exact wk_X0_least_7 X hP F v1 0 ls _ (lv_sub hl [2, 3, 1, 0] rfl) hS h
set_option maxHeartbeats 4000000 in
set_option maxRecDepth 100000 in
theorem wk_X0_gain_6 {p : Program} {l : Launch} {e : Env} {s : State} {m : MethodId} {args : Array Value} {below : List Frame} {meth : Method} {c : Code} {D : va_G} {cI cG : ClassId} {q : Nat → Nat} {S : St} {H : Heap} {r : Int32} {F : Nat} {p1 p2 p3 p4 : Int32}  (X : Cx p s m args meth c cX0_gain 8 (some .int) RX0 D cI cG) (hP : va_P D vwCl (wX cI cG q S) H)  : ∀ (n : Nat) (x5 : Int32) (x6 : Int32) (ls : Array Slot) (locs : List Loc), lv_has ls 8 [(0, .ref (q 1)), (1, .int p1), (2, .int p2), (3, .int p3), (4, .int p4), (5, .int x5), (6, .int x6)] → va_S no s.heap H locs → m_X0_gain_6 F S p1 p2 p3 p4 n x5 x6 = some r → W p l e { frames := 1, cells := 0, slots := 0, locals := 21 } s m args below meth c H locs 0 0 (MQ below (roQ H r) args s 0 0 no) (F0 m 6 ls []) := by
  have hx := X.1
  have hb := X.2.1
  intro n
  induction n with
  | zero =>
    intro x5 x6 ls locs hl hS h
    exact no_none (show none = some r from h)
  | succ n ih =>
    intro x5 x6 ls locs hl hS h
    rw [m_X0_gain_6] at h
    refine lv_iload hx hb dX0_gain_6 (lv_at hl 6 rfl) ?_
    refine lv_aload_n hx hb dX0_gain_8 rfl (lv_at hl 0 rfl) ?_
    refine gf_X0_41 X hP dX0_gain_9 ?_
    refine lv_icmp_ge (tgt := 102) hx hb dX0_gain_12 (by decide) (fun c1 => ?_) (fun c1 => ?_)
    · have h := tt_some h c1
      refine lv_iload hx hb dX0_gain_102 (lv_at hl 5 rfl) ?_
      exact ro_ret X hS h dX0_gain_104
    · have h := ff_some h c1
      refine lv_iload_n hx hb dX0_gain_15 rfl (lv_at hl 1 rfl) ?_
      refine lv_iload hx hb dX0_gain_16 (lv_at hl 6 rfl) ?_
      obtain ⟨r2, er2, h⟩ := bd_some h
      refine ro_N (As := [.int p1, .int x6]) (rest := []) X X.2.2.2.2.2.2.2.2.2 hP hS hl.1 (c_X3_contains l D cI cG _ _ p1 x6 er2) lk_X0_61 ⟨by decide, by decide⟩ rfl rfl (Nat.le_of_ble_eq_true rfl) dX0_gain_18 ⟨Nat.le_refl _, Nat.le_refl _⟩ (fun locs hS => ?_)
      refine lv_if_eq (tgt := 96) hx hb dX0_gain_21 (by decide) (fun c3 => ?_) (fun c3 => ?_)
      · have h := tt_some h c3
        obtain ⟨v4, ev4⟩ : ∃ y : Int32, y = x6 + 1 := ⟨_, rfl⟩
        have h := nm_some h ev4
        refine lv_iinc (v := v4) (lv' := [(6, .int v4), (0, .ref (q 1)), (1, .int p1), (2, .int p2), (3, .int p3), (4, .int p4), (5, .int x5)]) hx hb dX0_gain_96 hl (k := 6) rfl (by rw [ev4]; rfl) (by decide) rfl (fun ls hl => ?_)
        refine lv_goto (tgt := 6) hx hb dX0_gain_99 (by decide) ?_
        exact ih x5 v4 ls _ (lv_sub hl [1, 2, 3, 4, 5, 6, 0] rfl) hS h
      · have h := ff_some h c3
        refine lv_aload_n hx hb dX0_gain_24 rfl (lv_at hl 0 rfl) ?_
        refine gf_X0_21 X hP dX0_gain_25 ?_
        refine lv_iload hx hb dX0_gain_28 (lv_at hl 6 rfl) ?_
        obtain ⟨hi5, h⟩ := gd_some h
        refine ro_ald X hP 7 wX_7 hi5 dX0_gain_30 ?_
        refine lv_aload_n hx hb dX0_gain_31 rfl (lv_at hl 0 rfl) ?_
        refine gf_X0_21 X hP dX0_gain_32 ?_
        refine lv_iload hx hb dX0_gain_35 (lv_at hl 6 rfl) ?_
        obtain ⟨hi6, h⟩ := gd_some h
        refine ro_ald X hP 7 wX_7 hi6 dX0_gain_37 ?_
        refine lv_iload hx hb dX0_gain_38 (lv_at hl 4 rfl) ?_
        refine lv_imul hx hb dX0_gain_40 ?_
        refine lv_iload_n hx hb dX0_gain_41 rfl (lv_at hl 2 rfl) ?_
        refine lv_aload_n hx hb dX0_gain_42 rfl (lv_at hl 0 rfl) ?_
        refine gf_X0_9 X hP dX0_gain_43 ?_
        refine lv_iload hx hb dX0_gain_46 (lv_at hl 6 rfl) ?_
        obtain ⟨hi7, h⟩ := gd_some h
        refine ro_ald X hP 4 wX_4 hi7 dX0_gain_48 ?_
        refine lv_isub hx hb dX0_gain_49 ?_
        refine lv_imul hx hb dX0_gain_50 ?_
        refine lv_bipush (v := 100) hx hb dX0_gain_51 (by decide) ?_
        refine lv_idiv hx hb dX0_gain_53 (by decide) ?_
        refine lv_iadd hx hb dX0_gain_54 ?_
        refine lv_topi (fun v8 ev8 => ?_)
        have h := nm_some h ev8
        refine lv_istore (lv' := [(7, .int v8), (0, .ref (q 1)), (1, .int p1), (2, .int p2), (3, .int p3), (4, .int p4), (5, .int x5), (6, .int x6)]) hx hb dX0_gain_55 hl (by decide) rfl (fun ls hl => ?_)
        refine lv_aload_n hx hb dX0_gain_57 rfl (lv_at hl 1 rfl) ?_
        refine gf_X0_15 X hP dX0_gain_58 ?_
        refine lv_iload hx hb dX0_gain_61 (lv_at hl 7 rfl) ?_
        obtain ⟨hi9, h⟩ := gd_some h
        refine ro_ald X hP 5 wX_5 hi9 dX0_gain_63 ?_
        refine lv_iload_n hx hb dX0_gain_64 rfl (lv_at hl 4 rfl) ?_
        refine lv_icmp_ne (tgt := 78) hx hb dX0_gain_65 (by decide) (fun c10 => ?_) (fun c10 => ?_)
        · have h := ff_some h c10
          refine lv_aload_n hx hb dX0_gain_78 rfl (lv_at hl 1 rfl) ?_
          refine gf_X0_18 X hP dX0_gain_79 ?_
          refine lv_iload hx hb dX0_gain_82 (lv_at hl 7 rfl) ?_
          obtain ⟨hi11, h⟩ := gd_some h
          refine ro_ald X hP 6 wX_6 hi11 dX0_gain_84 ?_
          refine lv_iload_n hx hb dX0_gain_85 rfl (lv_at hl 4 rfl) ?_
          refine lv_icmp_ne (tgt := 96) hx hb dX0_gain_86 (by decide) (fun c12 => ?_) (fun c12 => ?_)
          · have h := ff_some h c12
            obtain ⟨v13, ev13⟩ : ∃ y : Int32, y = x6 + 1 := ⟨_, rfl⟩
            have h := nm_some h ev13
            refine lv_iinc (v := v13) (lv' := [(6, .int v13), (7, .int v8), (0, .ref (q 1)), (1, .int p1), (2, .int p2), (3, .int p3), (4, .int p4), (5, .int x5)]) hx hb dX0_gain_96 hl (k := 7) rfl (by rw [ev13]; rfl) (by decide) rfl (fun ls hl => ?_)
            refine lv_goto (tgt := 6) hx hb dX0_gain_99 (by decide) ?_
            exact ih x5 v13 ls _ (lv_sub hl [2, 3, 4, 5, 6, 7, 0] rfl) hS h
          · have h := tt_some h c12
            refine lv_iload hx hb dX0_gain_89 (lv_at hl 6 rfl) ?_
            refine lv_iload hx hb dX0_gain_91 (lv_at hl 0 rfl) ?_
            refine lv_isub hx hb dX0_gain_93 ?_
            refine lv_topi (fun v14 ev14 => ?_)
            have h := nm_some h ev14
            refine lv_istore (lv' := [(5, .int v14), (7, .int v8), (0, .ref (q 1)), (1, .int p1), (2, .int p2), (3, .int p3), (4, .int p4), (6, .int x6)]) hx hb dX0_gain_94 hl (by decide) rfl (fun ls hl => ?_)
            obtain ⟨v15, ev15⟩ : ∃ y : Int32, y = x6 + 1 := ⟨_, rfl⟩
            have h := nm_some h ev15
            refine lv_iinc (v := v15) (lv' := [(6, .int v15), (5, .int v14), (7, .int v8), (0, .ref (q 1)), (1, .int p1), (2, .int p2), (3, .int p3), (4, .int p4)]) hx hb dX0_gain_96 hl (k := 7) rfl (by rw [ev15]; rfl) (by decide) rfl (fun ls hl => ?_)
            refine lv_goto (tgt := 6) hx hb dX0_gain_99 (by decide) ?_
            exact ih v14 v15 ls _ (lv_sub hl [3, 4, 5, 6, 7, 1, 0] rfl) hS h
        · have h := tt_some h c10
          refine lv_iload hx hb dX0_gain_68 (lv_at hl 6 rfl) ?_
          refine lv_iload hx hb dX0_gain_70 (lv_at hl 0 rfl) ?_
          refine lv_iadd hx hb dX0_gain_72 ?_
          refine lv_topi (fun v16 ev16 => ?_)
          have h := nm_some h ev16
          refine lv_istore (lv' := [(5, .int v16), (7, .int v8), (0, .ref (q 1)), (1, .int p1), (2, .int p2), (3, .int p3), (4, .int p4), (6, .int x6)]) hx hb dX0_gain_73 hl (by decide) rfl (fun ls hl => ?_)
          refine lv_goto (tgt := 96) hx hb dX0_gain_75 (by decide) ?_
          obtain ⟨v17, ev17⟩ : ∃ y : Int32, y = x6 + 1 := ⟨_, rfl⟩
          have h := nm_some h ev17
          refine lv_iinc (v := v17) (lv' := [(6, .int v17), (5, .int v16), (7, .int v8), (0, .ref (q 1)), (1, .int p1), (2, .int p2), (3, .int p3), (4, .int p4)]) hx hb dX0_gain_96 hl (k := 7) rfl (by rw [ev17]; rfl) (by decide) rfl (fun ls hl => ?_)
          refine lv_goto (tgt := 6) hx hb dX0_gain_99 (by decide) ?_
          exact ih v16 v17 ls _ (lv_sub hl [3, 4, 5, 6, 7, 1, 0] rfl) hS h
set_option maxHeartbeats 4000000 in
set_option maxRecDepth 100000 in
theorem c_X0_gain (l : Launch) (D : va_G) (cI cG : ClassId) (q : Nat → Nat) (S : St) (H : Heap) (F : Nat) (p1 p2 p3 p4 : Int32) {r : Int32} (h : m_X0_gain F S p1 p2 p3 p4 = some r) : RoM l yX0_gain cX0_gain 8 (some .int) 1 21 [.ref (q 1), .int p1, .int p2, .int p3, .int p4] D cI cG (wX cI cG q S) H r := by
  refine RoM.of (own := RX0) (by decide) rfl (Nat.le_of_ble_eq_true rfl) ?_
  intro p e s m args below meth c ls X hP hS hl0
  have hl : lv_has ls 8 [(0, .ref (q 1)), (1, .int p1), (2, .int p2), (3, .int p3), (4, .int p4)] := hl0 _ (lv_entry [.ref (q 1), .int p1, .int p2, .int p3, .int p4] (n := 8) (Nat.le_of_ble_eq_true rfl))
  have hx := X.1
  have hb := X.2.1
  rw [m_X0_gain] at h
  refine lv_iconst (v := 0) hx hb dX0_gain_0 (by decide) ?_
  refine lv_istore (lv' := [(5, .int 0), (0, .ref (q 1)), (1, .int p1), (2, .int p2), (3, .int p3), (4, .int p4)]) hx hb dX0_gain_1 hl (by decide) rfl (fun ls hl => ?_)
  refine lv_iconst (v := 0) hx hb dX0_gain_3 (by decide) ?_
  refine lv_istore (lv' := [(6, .int 0), (5, .int 0), (0, .ref (q 1)), (1, .int p1), (2, .int p2), (3, .int p3), (4, .int p4)]) hx hb dX0_gain_4 hl (by decide) rfl (fun ls hl => ?_)
  exact wk_X0_gain_6 X hP F 0 0 ls _ (lv_sub hl [2, 3, 4, 5, 6, 1, 0] rfl) hS h
set_option maxHeartbeats 4000000 in
set_option maxRecDepth 100000 in
theorem c_X1_isCounted (l : Launch) (D : va_G) (cI cG : ClassId) (q : Nat → Nat) (S : St) (H : Heap) (p1 : Int32) {r : Int32} (h : m_X1_isCounted S p1 = some r) : RoM l yX1_isCounted cX1_isCounted 3 (some .boolean) 3 68 [.ref (q 2), .int p1, .ref (q 1)] D cI cG (wX cI cG q S) H r := by
  refine RoM.of (own := RX1) (by decide) rfl (Nat.le_of_ble_eq_true rfl) ?_
  intro p e s m args below meth c ls X hP hS hl0
  have hl : lv_has ls 3 [(0, .ref (q 2)), (1, .int p1), (2, .ref (q 1))] := hl0 _ (lv_entry [.ref (q 2), .int p1, .ref (q 1)] (n := 3) (Nat.le_of_ble_eq_true rfl))
  have hx := X.1
  have hb := X.2.1
  rw [m_X1_isCounted] at h
  refine lv_aload_n hx hb dX1_isCounted_0 rfl (lv_at hl 2 rfl) ?_
  refine lv_aload_n hx hb dX1_isCounted_1 rfl (lv_at hl 0 rfl) ?_
  refine gf_X1_9 X hP dX1_isCounted_2 ?_
  refine lv_iload_n hx hb dX1_isCounted_5 rfl (lv_at hl 1 rfl) ?_
  obtain ⟨hi1, h⟩ := gd_some h
  refine ro_ald X hP 11 wX_11 hi1 dX1_isCounted_6 ?_
  refine lv_aload_n hx hb dX1_isCounted_7 rfl (lv_at hl 0 rfl) ?_
  refine gf_X1_15 X hP dX1_isCounted_8 ?_
  refine lv_iload_n hx hb dX1_isCounted_11 rfl (lv_at hl 1 rfl) ?_
  obtain ⟨hi2, h⟩ := gd_some h
  refine ro_ald X hP 12 wX_12 hi2 dX1_isCounted_12 ?_
  refine lv_aload_n hx hb dX1_isCounted_13 rfl (lv_at hl 0 rfl) ?_
  refine gf_X1_18 X hP dX1_isCounted_14 ?_
  refine lv_iload_n hx hb dX1_isCounted_17 rfl (lv_at hl 1 rfl) ?_
  obtain ⟨hi3, h⟩ := gd_some h
  refine ro_ald X hP 13 wX_13 hi3 dX1_isCounted_18 ?_
  obtain ⟨r4, er4, h⟩ := bd_some h
  refine ro_V (As := [.int (S 11 (ix p1)), .int (S 12 (ix p1)), .int (S 13 (ix p1))]) (rest := []) X hP hS hl.1 (c_X0_wouldCount l D cI cG q S _ (S 11 (ix p1)) (S 12 (ix p1)) (S 13 (ix p1)) er4) lk_X1_25 (rc_X1_X0 X hP) ⟨by decide, by decide⟩ rfl rfl (Nat.le_of_ble_eq_true rfl) dX1_isCounted_19 ⟨Nat.le_refl _, Nat.le_refl _⟩ (fun locs hS => ?_)
  obtain ⟨hz5, h⟩ := gd_some h
  exact ro_retz X hS h (bz_n hz5) dX1_isCounted_22
set_option maxHeartbeats 4000000 in
set_option maxRecDepth 100000 in
theorem wk_X1_struckBy_5 {p : Program} {l : Launch} {e : Env} {s : State} {m : MethodId} {args : Array Value} {below : List Frame} {meth : Method} {c : Code} {D : va_G} {cI cG : ClassId} {q : Nat → Nat} {S : St} {H : Heap} {r : Int32} {F : Nat} {p1 : Int32}  (X : Cx p s m args meth c cX1_struckBy 5 (some .int) RX1 D cI cG) (hP : va_P D vwCl (wX cI cG q S) H)  : ∀ (n : Nat) (x3 : Int32) (x4 : Int32) (ls : Array Slot) (locs : List Loc), lv_has ls 5 [(0, .ref (q 2)), (1, .int p1), (2, .ref (q 1)), (3, .int x3), (4, .int x4)] → va_S no s.heap H locs → m_X1_struckBy_5 F S p1 n x3 x4 = some r → W p l e { frames := 4, cells := 0, slots := 0, locals := 90 } s m args below meth c H locs 0 0 (MQ below (roQ H r) args s 0 0 no) (F0 m 5 ls []) := by
  have hx := X.1
  have hb := X.2.1
  intro n
  induction n with
  | zero =>
    intro x3 x4 ls locs hl hS h
    exact no_none (show none = some r from h)
  | succ n ih =>
    intro x3 x4 ls locs hl hS h
    rw [m_X1_struckBy_5] at h
    refine lv_iload hx hb dX1_struckBy_5 (lv_at hl 4 rfl) ?_
    refine lv_aload_n hx hb dX1_struckBy_7 rfl (lv_at hl 0 rfl) ?_
    refine gf_X1_21 X hP dX1_struckBy_8 ?_
    refine lv_icmp_ge (tgt := 53) hx hb dX1_struckBy_11 (by decide) (fun c1 => ?_) (fun c1 => ?_)
    · have h := tt_some h c1
      refine lv_iload_n hx hb dX1_struckBy_53 rfl (lv_at hl 3 rfl) ?_
      exact ro_ret X hS h dX1_struckBy_54
    · have h := ff_some h c1
      refine lv_aload_n hx hb dX1_struckBy_14 rfl (lv_at hl 0 rfl) ?_
      refine gf_X1_18 X hP dX1_struckBy_15 ?_
      refine lv_iload hx hb dX1_struckBy_18 (lv_at hl 4 rfl) ?_
      obtain ⟨hi2, h⟩ := gd_some h
      refine ro_ald X hP 13 wX_13 hi2 dX1_struckBy_20 ?_
      refine lv_iload_n hx hb dX1_struckBy_21 rfl (lv_at hl 1 rfl) ?_
      refine lv_icmp_gt (tgt := 47) hx hb dX1_struckBy_22 (by decide) (fun c3 => ?_) (fun c3 => ?_)
      · have h := tt_some h c3
        obtain ⟨v4, ev4⟩ : ∃ y : Int32, y = x4 + 1 := ⟨_, rfl⟩
        have h := nm_some h ev4
        refine lv_iinc (v := v4) (lv' := [(4, .int v4), (0, .ref (q 2)), (1, .int p1), (2, .ref (q 1)), (3, .int x3)]) hx hb dX1_struckBy_47 hl (k := 4) rfl (by rw [ev4]; rfl) (by decide) rfl (fun ls hl => ?_)
        refine lv_goto (tgt := 5) hx hb dX1_struckBy_50 (by decide) ?_
        exact ih x3 v4 ls _ (lv_sub hl [1, 2, 3, 4, 0] rfl) hS h
      · have h := ff_some h c3
        refine lv_aload_n hx hb dX1_struckBy_25 rfl (lv_at hl 0 rfl) ?_
        refine lv_iload hx hb dX1_struckBy_26 (lv_at hl 4 rfl) ?_
        refine lv_aload_n hx hb dX1_struckBy_28 rfl (lv_at hl 2 rfl) ?_
        obtain ⟨r5, er5, h⟩ := bd_some h
        refine ro_V (As := [.int x4, .ref (q 1)]) (rest := []) X hP hS hl.1 (c_X1_isCounted l D cI cG q S _ x4 er5) lk_X1_31 (rc_X1_X1 X hP) ⟨by decide, by decide⟩ rfl rfl (Nat.le_of_ble_eq_true rfl) dX1_struckBy_29 ⟨Nat.le_refl _, Nat.le_refl _⟩ (fun locs hS => ?_)
        refine lv_if_eq (tgt := 47) hx hb dX1_struckBy_32 (by decide) (fun c6 => ?_) (fun c6 => ?_)
        · have h := tt_some h c6
          obtain ⟨v7, ev7⟩ : ∃ y : Int32, y = x4 + 1 := ⟨_, rfl⟩
          have h := nm_some h ev7
          refine lv_iinc (v := v7) (lv' := [(4, .int v7), (0, .ref (q 2)), (1, .int p1), (2, .ref (q 1)), (3, .int x3)]) hx hb dX1_struckBy_47 hl (k := 4) rfl (by rw [ev7]; rfl) (by decide) rfl (fun ls hl => ?_)
          refine lv_goto (tgt := 5) hx hb dX1_struckBy_50 (by decide) ?_
          exact ih x3 v7 ls _ (lv_sub hl [1, 2, 3, 4, 0] rfl) hS h
        · have h := ff_some h c6
          refine lv_iload_n hx hb dX1_struckBy_35 rfl (lv_at hl 3 rfl) ?_
          refine lv_iconst (v := 1) hx hb dX1_struckBy_36 (by decide) ?_
          refine lv_aload_n hx hb dX1_struckBy_37 rfl (lv_at hl 0 rfl) ?_
          refine gf_X1_9 X hP dX1_struckBy_38 ?_
          refine lv_iload hx hb dX1_struckBy_41 (lv_at hl 4 rfl) ?_
          obtain ⟨hi8, h⟩ := gd_some h
          refine ro_ald X hP 11 wX_11 hi8 dX1_struckBy_43 ?_
          refine lv_ishl hx hb dX1_struckBy_44 ?_
          refine lv_ior hx hb dX1_struckBy_45 ?_
          refine lv_topi (fun v9 ev9 => ?_)
          have h := nm_some h ev9
          refine lv_istore_n (lv' := [(3, .int v9), (0, .ref (q 2)), (1, .int p1), (2, .ref (q 1)), (4, .int x4)]) hx hb dX1_struckBy_46 rfl hl (by decide) rfl (fun ls hl => ?_)
          obtain ⟨v10, ev10⟩ : ∃ y : Int32, y = x4 + 1 := ⟨_, rfl⟩
          have h := nm_some h ev10
          refine lv_iinc (v := v10) (lv' := [(4, .int v10), (3, .int v9), (0, .ref (q 2)), (1, .int p1), (2, .ref (q 1))]) hx hb dX1_struckBy_47 hl (k := 4) rfl (by rw [ev10]; rfl) (by decide) rfl (fun ls hl => ?_)
          refine lv_goto (tgt := 5) hx hb dX1_struckBy_50 (by decide) ?_
          exact ih v9 v10 ls _ (lv_sub hl [2, 3, 4, 1, 0] rfl) hS h
set_option maxHeartbeats 4000000 in
set_option maxRecDepth 100000 in
theorem c_X1_struckBy (l : Launch) (D : va_G) (cI cG : ClassId) (q : Nat → Nat) (S : St) (H : Heap) (F : Nat) (p1 : Int32) {r : Int32} (h : m_X1_struckBy F S p1 = some r) : RoM l yX1_struckBy cX1_struckBy 5 (some .int) 4 90 [.ref (q 2), .int p1, .ref (q 1)] D cI cG (wX cI cG q S) H r := by
  refine RoM.of (own := RX1) (by decide) rfl (Nat.le_of_ble_eq_true rfl) ?_
  intro p e s m args below meth c ls X hP hS hl0
  have hl : lv_has ls 5 [(0, .ref (q 2)), (1, .int p1), (2, .ref (q 1))] := hl0 _ (lv_entry [.ref (q 2), .int p1, .ref (q 1)] (n := 5) (Nat.le_of_ble_eq_true rfl))
  have hx := X.1
  have hb := X.2.1
  rw [m_X1_struckBy] at h
  refine lv_iconst (v := 0) hx hb dX1_struckBy_0 (by decide) ?_
  refine lv_istore_n (lv' := [(3, .int 0), (0, .ref (q 2)), (1, .int p1), (2, .ref (q 1))]) hx hb dX1_struckBy_1 rfl hl (by decide) rfl (fun ls hl => ?_)
  refine lv_iconst (v := 0) hx hb dX1_struckBy_2 (by decide) ?_
  refine lv_istore (lv' := [(4, .int 0), (3, .int 0), (0, .ref (q 2)), (1, .int p1), (2, .ref (q 1))]) hx hb dX1_struckBy_3 hl (by decide) rfl (fun ls hl => ?_)
  exact wk_X1_struckBy_5 X hP F 0 0 ls _ (lv_sub hl [2, 3, 4, 1, 0] rfl) hS h
set_option maxHeartbeats 4000000 in
set_option maxRecDepth 100000 in
theorem c_X2_isForLetter (l : Launch) (D : va_G) (cI cG : ClassId) (ws : va_W) (H : Heap) (p1 : Int32) {r : Int32} (h : m_X2_isForLetter p1 = some r) : RoM l yX2_isForLetter cX2_isForLetter 1 (some .boolean) 0 0 [.int p1] D cI cG ws H r := by
  refine RoM.of (own := RX2) (by decide) rfl (Nat.le_of_ble_eq_true rfl) ?_
  intro p e s m args below meth c ls X hP hS hl0
  have hl : lv_has ls 1 [(0, .int p1)] := hl0 _ (lv_entry [.int p1] (n := 1) (Nat.le_of_ble_eq_true rfl))
  have hx := X.1
  have hb := X.2.1
  rw [m_X2_isForLetter] at h
  refine lv_iload_n hx hb dX2_isForLetter_0 rfl (lv_at hl 0 rfl) ?_
  refine lv_iconst (v := 2) hx hb dX2_isForLetter_1 (by decide) ?_
  refine lv_irem hx hb dX2_isForLetter_2 (by decide) ?_
  refine lv_if_ne (tgt := 10) hx hb dX2_isForLetter_3 (by decide) (fun c1 => ?_) (fun c1 => ?_)
  · have h := ff_some h c1
    refine lv_iconst (v := 0) hx hb dX2_isForLetter_10 (by decide) ?_
    exact ro_retz X hS h rfl dX2_isForLetter_11
  · have h := tt_some h c1
    refine lv_iconst (v := 1) hx hb dX2_isForLetter_6 (by decide) ?_
    refine lv_goto (tgt := 11) hx hb dX2_isForLetter_7 (by decide) ?_
    exact ro_retz X hS h rfl dX2_isForLetter_11
set_option maxHeartbeats 4000000 in
set_option maxRecDepth 100000 in
theorem c_X3_within (l : Launch) (D : va_G) (cI cG : ClassId) (ws : va_W) (H : Heap) (p1 p2 p3 : Int32) {r : Int32} (h : m_X3_within p1 p2 p3 = some r) : RoM l yX3_within cX3_within 3 (some .boolean) 0 0 [.int p1, .int p2, .int p3] D cI cG ws H r := by
  refine RoM.of (own := RX3) (by decide) rfl (Nat.le_of_ble_eq_true rfl) ?_
  intro p e s m args below meth c ls X hP hS hl0
  have hl : lv_has ls 3 [(0, .int p1), (1, .int p2), (2, .int p3)] := hl0 _ (lv_entry [.int p1, .int p2, .int p3] (n := 3) (Nat.le_of_ble_eq_true rfl))
  have hx := X.1
  have hb := X.2.1
  rw [m_X3_within] at h
  refine lv_iload_n hx hb dX3_within_0 rfl (lv_at hl 0 rfl) ?_
  refine lv_iload_n hx hb dX3_within_1 rfl (lv_at hl 1 rfl) ?_
  refine lv_icmp_lt (tgt := 14) hx hb dX3_within_2 (by decide) (fun c1 => ?_) (fun c1 => ?_)
  · have h := tt_some h c1
    refine lv_iconst (v := 0) hx hb dX3_within_14 (by decide) ?_
    exact ro_retz X hS h rfl dX3_within_15
  · have h := ff_some h c1
    refine lv_iload_n hx hb dX3_within_5 rfl (lv_at hl 0 rfl) ?_
    refine lv_iload_n hx hb dX3_within_6 rfl (lv_at hl 2 rfl) ?_
    refine lv_icmp_gt (tgt := 14) hx hb dX3_within_7 (by decide) (fun c2 => ?_) (fun c2 => ?_)
    · have h := tt_some h c2
      refine lv_iconst (v := 0) hx hb dX3_within_14 (by decide) ?_
      exact ro_retz X hS h rfl dX3_within_15
    · have h := ff_some h c2
      refine lv_iconst (v := 1) hx hb dX3_within_10 (by decide) ?_
      refine lv_goto (tgt := 15) hx hb dX3_within_11 (by decide) ?_
      exact ro_retz X hS h rfl dX3_within_15
set_option maxHeartbeats 4000000 in
set_option maxRecDepth 100000 in
theorem c_X2_canStand (l : Launch) (D : va_G) (cI cG : ClassId) (ws : va_W) (H : Heap) (p1 p2 : Int32) {r : Int32} (h : m_X2_canStand p1 p2 = some r) : RoM l yX2_canStand cX2_canStand 2 (some .boolean) 1 22 [.int p1, .int p2] D cI cG ws H r := by
  refine RoM.of (own := RX2) (by decide) rfl (Nat.le_of_ble_eq_true rfl) ?_
  intro p e s m args below meth c ls X hP hS hl0
  have hl : lv_has ls 2 [(0, .int p1), (1, .int p2)] := hl0 _ (lv_entry [.int p1, .int p2] (n := 2) (Nat.le_of_ble_eq_true rfl))
  have hx := X.1
  have hb := X.2.1
  rw [m_X2_canStand] at h
  refine lv_iload_n hx hb dX2_canStand_0 rfl (lv_at hl 1 rfl) ?_
  obtain ⟨r1, er1, h⟩ := bd_some h
  refine ro_S (As := [.int p2]) (rest := []) X hP hS hl.1 (c_X2_isForLetter l D cI cG _ _ p2 er1) lk_X2_23 ⟨by decide, by decide⟩ rfl rfl (Nat.le_of_ble_eq_true rfl) dX2_canStand_1 ⟨Nat.le_refl _, Nat.le_refl _⟩ (fun locs hS => ?_)
  refine lv_if_eq (tgt := 16) hx hb dX2_canStand_4 (by decide) (fun c2 => ?_) (fun c2 => ?_)
  · have h := tt_some h c2
    refine lv_iload_n hx hb dX2_canStand_16 rfl (lv_at hl 0 rfl) ?_
    refine lv_bipush (v := 43) hx hb dX2_canStand_17 (by decide) ?_
    refine lv_icmp_eq (tgt := 28) hx hb dX2_canStand_19 (by decide) (fun c3 => ?_) (fun c3 => ?_)
    · have h := tt_some h c3
      refine lv_iconst (v := 1) hx hb dX2_canStand_28 (by decide) ?_
      refine lv_goto (tgt := 33) hx hb dX2_canStand_29 (by decide) ?_
      exact ro_retz X hS h rfl dX2_canStand_33
    · have h := ff_some h c3
      refine lv_iload_n hx hb dX2_canStand_22 rfl (lv_at hl 0 rfl) ?_
      refine lv_bipush (v := 124) hx hb dX2_canStand_23 (by decide) ?_
      refine lv_icmp_ne (tgt := 32) hx hb dX2_canStand_25 (by decide) (fun c4 => ?_) (fun c4 => ?_)
      · have h := ff_some h c4
        refine lv_iconst (v := 0) hx hb dX2_canStand_32 (by decide) ?_
        exact ro_retz X hS h rfl dX2_canStand_33
      · have h := tt_some h c4
        refine lv_iconst (v := 1) hx hb dX2_canStand_28 (by decide) ?_
        refine lv_goto (tgt := 33) hx hb dX2_canStand_29 (by decide) ?_
        exact ro_retz X hS h rfl dX2_canStand_33
  · have h := ff_some h c2
    refine lv_iload_n hx hb dX2_canStand_7 rfl (lv_at hl 0 rfl) ?_
    refine lv_bipush (v := 97) hx hb dX2_canStand_8 (by decide) ?_
    refine lv_bipush (v := 108) hx hb dX2_canStand_10 (by decide) ?_
    obtain ⟨r5, er5, h⟩ := bd_some h
    refine ro_N (As := [.int p1, .int 97, .int 108]) (rest := []) X X.2.2.2.2.2.2.2.2.1 hP hS hl.1 (c_X3_within l D cI cG _ _ p1 97 108 er5) lk_X2_27 ⟨by decide, by decide⟩ rfl rfl (Nat.le_of_ble_eq_true rfl) dX2_canStand_12 ⟨Nat.le_refl _, Nat.le_refl _⟩ (fun locs hS => ?_)
    obtain ⟨hz6, h⟩ := gd_some h
    exact ro_retz X hS h (bz_n hz6) dX2_canStand_15
set_option maxHeartbeats 4000000 in
set_option maxRecDepth 100000 in
theorem wk_X2_faultPlace_2 {p : Program} {l : Launch} {e : Env} {s : State} {m : MethodId} {args : Array Value} {below : List Frame} {meth : Method} {c : Code} {D : va_G} {cI cG : ClassId} {q : Nat → Nat} {S : St} {H : Heap} {r : Int32} {F : Nat}  (X : Cx p s m args meth c cX2_faultPlace 2 (some .int) RX2 D cI cG) (hP : va_P D vwCl (wX cI cG q S) H)  : ∀ (n : Nat) (x1 : Int32) (ls : Array Slot) (locs : List Loc), lv_has ls 2 [(0, .ref (q 3)), (1, .int x1)] → va_S no s.heap H locs → m_X2_faultPlace_2 F S n x1 = some r → W p l e { frames := 2, cells := 0, slots := 0, locals := 43 } s m args below meth c H locs 0 0 (MQ below (roQ H r) args s 0 0 no) (F0 m 2 ls []) := by
  have hx := X.1
  have hb := X.2.1
  intro n
  induction n with
  | zero =>
    intro x1 ls locs hl hS h
    exact no_none (show none = some r from h)
  | succ n ih =>
    intro x1 ls locs hl hS h
    rw [m_X2_faultPlace_2] at h
    refine lv_iload_n hx hb dX2_faultPlace_2 rfl (lv_at hl 1 rfl) ?_
    refine lv_aload_n hx hb dX2_faultPlace_3 rfl (lv_at hl 0 rfl) ?_
    refine gf_X2_15 X hP dX2_faultPlace_4 ?_
    refine lv_icmp_ge (tgt := 31) hx hb dX2_faultPlace_7 (by decide) (fun c1 => ?_) (fun c1 => ?_)
    · have h := tt_some h c1
      refine lv_aload_n hx hb dX2_faultPlace_31 rfl (lv_at hl 0 rfl) ?_
      refine gf_X2_15 X hP dX2_faultPlace_32 ?_
      obtain ⟨r2, er2, h⟩ := bd_some h
      refine ro_S (As := [.int (S 3 0)]) (rest := []) X hP hS hl.1 (c_X2_isForLetter l D cI cG _ _ (S 3 0) er2) lk_X2_23 ⟨by decide, by decide⟩ rfl rfl (Nat.le_of_ble_eq_true rfl) dX2_faultPlace_35 ⟨Nat.le_refl _, Nat.le_refl _⟩ (fun locs hS => ?_)
      refine lv_if_eq (tgt := 48) hx hb dX2_faultPlace_38 (by decide) (fun c3 => ?_) (fun c3 => ?_)
      · have h := tt_some h c3
        refine lv_bipush (v := (-6 : Int32)) hx hb dX2_faultPlace_48 (by decide) ?_
        exact ro_ret X hS h dX2_faultPlace_50
      · have h := ff_some h c3
        refine lv_aload_n hx hb dX2_faultPlace_41 rfl (lv_at hl 0 rfl) ?_
        refine gf_X2_15 X hP dX2_faultPlace_42 ?_
        refine lv_goto (tgt := 50) hx hb dX2_faultPlace_45 (by decide) ?_
        exact ro_ret X hS h dX2_faultPlace_50
    · have h := ff_some h c1
      refine lv_aload_n hx hb dX2_faultPlace_10 rfl (lv_at hl 0 rfl) ?_
      refine gf_X2_9 X hP dX2_faultPlace_11 ?_
      refine lv_iload_n hx hb dX2_faultPlace_14 rfl (lv_at hl 1 rfl) ?_
      obtain ⟨hi4, h⟩ := gd_some h
      refine ro_ald X hP 14 wX_14 hi4 dX2_faultPlace_15 ?_
      refine lv_iload_n hx hb dX2_faultPlace_16 rfl (lv_at hl 1 rfl) ?_
      obtain ⟨r5, er5, h⟩ := bd_some h
      refine ro_S (As := [.int (S 14 (ix x1)), .int x1]) (rest := []) X hP hS hl.1 (c_X2_canStand l D cI cG _ _ (S 14 (ix x1)) x1 er5) lk_X2_19 ⟨by decide, by decide⟩ rfl rfl (Nat.le_of_ble_eq_true rfl) dX2_faultPlace_17 ⟨Nat.le_refl _, Nat.le_refl _⟩ (fun locs hS => ?_)
      refine lv_if_ne (tgt := 25) hx hb dX2_faultPlace_20 (by decide) (fun c6 => ?_) (fun c6 => ?_)
      · have h := ff_some h c6
        obtain ⟨v7, ev7⟩ : ∃ y : Int32, y = x1 + 1 := ⟨_, rfl⟩
        have h := nm_some h ev7
        refine lv_iinc (v := v7) (lv' := [(1, .int v7), (0, .ref (q 3))]) hx hb dX2_faultPlace_25 hl (k := 1) rfl (by rw [ev7]; rfl) (by decide) rfl (fun ls hl => ?_)
        refine lv_goto (tgt := 2) hx hb dX2_faultPlace_28 (by decide) ?_
        exact ih v7 ls _ (lv_sub hl [1, 0] rfl) hS h
      · have h := tt_some h c6
        refine lv_iload_n hx hb dX2_faultPlace_23 rfl (lv_at hl 1 rfl) ?_
        exact ro_ret X hS h dX2_faultPlace_24
set_option maxHeartbeats 4000000 in
set_option maxRecDepth 100000 in
theorem c_X2_faultPlace (l : Launch) (D : va_G) (cI cG : ClassId) (q : Nat → Nat) (S : St) (H : Heap) (F : Nat) {r : Int32} (h : m_X2_faultPlace F S = some r) : RoM l yX2_faultPlace cX2_faultPlace 2 (some .int) 2 43 [.ref (q 3)] D cI cG (wX cI cG q S) H r := by
  refine RoM.of (own := RX2) (by decide) rfl (Nat.le_of_ble_eq_true rfl) ?_
  intro p e s m args below meth c ls X hP hS hl0
  have hl : lv_has ls 2 [(0, .ref (q 3))] := hl0 _ (lv_entry [.ref (q 3)] (n := 2) (Nat.le_of_ble_eq_true rfl))
  have hx := X.1
  have hb := X.2.1
  rw [m_X2_faultPlace] at h
  refine lv_iconst (v := 0) hx hb dX2_faultPlace_0 (by decide) ?_
  refine lv_istore_n (lv' := [(1, .int 0), (0, .ref (q 3))]) hx hb dX2_faultPlace_1 rfl hl (by decide) rfl (fun ls hl => ?_)
  exact wk_X2_faultPlace_2 X hP F 0 ls _ (lv_sub hl [1, 0] rfl) hS h
set_option maxHeartbeats 4000000 in
set_option maxRecDepth 100000 in
theorem c_J6_bitCount_0f7a4 (l : Launch) (D : va_G) (cI cG : ClassId) (ws : va_W) (H : Heap) (p1 : Int32) {r : Int32} (h : m_J6_bitCount_0f7a4 p1 = some r) : RoM l yJ6_bitCount_0f7a4 cJ6_bitCount_0f7a4 1 (some .int) 0 0 [.int p1] D cI cG ws H r := by
  refine RoM.of (own := RJ6) (by decide) rfl (Nat.le_of_ble_eq_true rfl) ?_
  intro p e s m args below meth c ls X hP hS hl0
  have hl : lv_has ls 1 [(0, .int p1)] := hl0 _ (lv_entry [.int p1] (n := 1) (Nat.le_of_ble_eq_true rfl))
  have hx := X.1
  have hb := X.2.1
  rw [m_J6_bitCount_0f7a4] at h
  refine lv_iload_n hx hb dJ6_bitCount_0f7a4_0 rfl (lv_at hl 0 rfl) ?_
  refine lv_iload_n hx hb dJ6_bitCount_0f7a4_1 rfl (lv_at hl 0 rfl) ?_
  refine lv_iconst (v := 1) hx hb dJ6_bitCount_0f7a4_2 (by decide) ?_
  refine lv_iushr (v := us p1 1) hx hb dJ6_bitCount_0f7a4_3 rfl ?_
  refine lv_ldcw (v := 1431655765) hx hb X.2.2.2.2.2.1 (X.2.2.2.2.2.2.1 _ w_k_J6_265) dJ6_bitCount_0f7a4_4 ?_
  refine lv_iand hx hb dJ6_bitCount_0f7a4_7 ?_
  refine lv_isub hx hb dJ6_bitCount_0f7a4_8 ?_
  refine lv_topi (fun v1 ev1 => ?_)
  have h := nm_some h ev1
  refine lv_istore_n (lv' := [(0, .int v1)]) hx hb dJ6_bitCount_0f7a4_9 rfl hl (by decide) rfl (fun ls hl => ?_)
  refine lv_iload_n hx hb dJ6_bitCount_0f7a4_10 rfl (lv_at hl 0 rfl) ?_
  refine lv_ldcw (v := 858993459) hx hb X.2.2.2.2.2.1 (X.2.2.2.2.2.2.1 _ w_k_J6_266) dJ6_bitCount_0f7a4_11 ?_
  refine lv_iand hx hb dJ6_bitCount_0f7a4_14 ?_
  refine lv_iload_n hx hb dJ6_bitCount_0f7a4_15 rfl (lv_at hl 0 rfl) ?_
  refine lv_iconst (v := 2) hx hb dJ6_bitCount_0f7a4_16 (by decide) ?_
  refine lv_iushr (v := us v1 2) hx hb dJ6_bitCount_0f7a4_17 rfl ?_
  refine lv_ldcw (v := 858993459) hx hb X.2.2.2.2.2.1 (X.2.2.2.2.2.2.1 _ w_k_J6_266) dJ6_bitCount_0f7a4_18 ?_
  refine lv_iand hx hb dJ6_bitCount_0f7a4_21 ?_
  refine lv_iadd hx hb dJ6_bitCount_0f7a4_22 ?_
  refine lv_topi (fun v2 ev2 => ?_)
  have h := nm_some h ev2
  refine lv_istore_n (lv' := [(0, .int v2)]) hx hb dJ6_bitCount_0f7a4_23 rfl hl (by decide) rfl (fun ls hl => ?_)
  refine lv_iload_n hx hb dJ6_bitCount_0f7a4_24 rfl (lv_at hl 0 rfl) ?_
  refine lv_iload_n hx hb dJ6_bitCount_0f7a4_25 rfl (lv_at hl 0 rfl) ?_
  refine lv_iconst (v := 4) hx hb dJ6_bitCount_0f7a4_26 (by decide) ?_
  refine lv_iushr (v := us v2 4) hx hb dJ6_bitCount_0f7a4_27 rfl ?_
  refine lv_iadd hx hb dJ6_bitCount_0f7a4_28 ?_
  refine lv_ldcw (v := 252645135) hx hb X.2.2.2.2.2.1 (X.2.2.2.2.2.2.1 _ w_k_J6_267) dJ6_bitCount_0f7a4_29 ?_
  refine lv_iand hx hb dJ6_bitCount_0f7a4_32 ?_
  refine lv_topi (fun v3 ev3 => ?_)
  have h := nm_some h ev3
  refine lv_istore_n (lv' := [(0, .int v3)]) hx hb dJ6_bitCount_0f7a4_33 rfl hl (by decide) rfl (fun ls hl => ?_)
  refine lv_iload_n hx hb dJ6_bitCount_0f7a4_34 rfl (lv_at hl 0 rfl) ?_
  refine lv_iload_n hx hb dJ6_bitCount_0f7a4_35 rfl (lv_at hl 0 rfl) ?_
  refine lv_bipush (v := 8) hx hb dJ6_bitCount_0f7a4_36 (by decide) ?_
  refine lv_iushr (v := us v3 8) hx hb dJ6_bitCount_0f7a4_38 rfl ?_
  refine lv_iadd hx hb dJ6_bitCount_0f7a4_39 ?_
  refine lv_topi (fun v4 ev4 => ?_)
  have h := nm_some h ev4
  refine lv_istore_n (lv' := [(0, .int v4)]) hx hb dJ6_bitCount_0f7a4_40 rfl hl (by decide) rfl (fun ls hl => ?_)
  refine lv_iload_n hx hb dJ6_bitCount_0f7a4_41 rfl (lv_at hl 0 rfl) ?_
  refine lv_iload_n hx hb dJ6_bitCount_0f7a4_42 rfl (lv_at hl 0 rfl) ?_
  refine lv_bipush (v := 16) hx hb dJ6_bitCount_0f7a4_43 (by decide) ?_
  refine lv_iushr (v := us v4 16) hx hb dJ6_bitCount_0f7a4_45 rfl ?_
  refine lv_iadd hx hb dJ6_bitCount_0f7a4_46 ?_
  refine lv_topi (fun v5 ev5 => ?_)
  have h := nm_some h ev5
  refine lv_istore_n (lv' := [(0, .int v5)]) hx hb dJ6_bitCount_0f7a4_47 rfl hl (by decide) rfl (fun ls hl => ?_)
  refine lv_iload_n hx hb dJ6_bitCount_0f7a4_48 rfl (lv_at hl 0 rfl) ?_
  refine lv_bipush (v := 63) hx hb dJ6_bitCount_0f7a4_49 (by decide) ?_
  refine lv_iand hx hb dJ6_bitCount_0f7a4_51 ?_
  exact ro_ret X hS h dJ6_bitCount_0f7a4_52
set_option maxHeartbeats 4000000 in
set_option maxRecDepth 100000 in
theorem c_X3_isWho (l : Launch) (D : va_G) (cI cG : ClassId) (ws : va_W) (H : Heap) (p1 : Int32) {r : Int32} (h : m_X3_isWho p1 = some r) : RoM l yX3_isWho cX3_isWho 1 (some .boolean) 1 22 [.int p1] D cI cG ws H r := by
  refine RoM.of (own := RX3) (by decide) rfl (Nat.le_of_ble_eq_true rfl) ?_
  intro p e s m args below meth c ls X hP hS hl0
  have hl : lv_has ls 1 [(0, .int p1)] := hl0 _ (lv_entry [.int p1] (n := 1) (Nat.le_of_ble_eq_true rfl))
  have hx := X.1
  have hb := X.2.1
  rw [m_X3_isWho] at h
  refine lv_iload_n hx hb dX3_isWho_0 rfl (lv_at hl 0 rfl) ?_
  refine lv_iconst (v := 0) hx hb dX3_isWho_1 (by decide) ?_
  refine lv_iconst (v := 3) hx hb dX3_isWho_2 (by decide) ?_
  obtain ⟨r1, er1, h⟩ := bd_some h
  refine ro_S (As := [.int p1, .int 0, .int 3]) (rest := []) X hP hS hl.1 (c_X3_within l D cI cG _ _ p1 0 3 er1) lk_X3_44 ⟨by decide, by decide⟩ rfl rfl (Nat.le_of_ble_eq_true rfl) dX3_isWho_3 ⟨Nat.le_refl _, Nat.le_refl _⟩ (fun locs hS => ?_)
  obtain ⟨hz2, h⟩ := gd_some h
  exact ro_retz X hS h (bz_n hz2) dX3_isWho_6
set_option maxHeartbeats 4000000 in
set_option maxRecDepth 100000 in
theorem c_X3_isDay (l : Launch) (D : va_G) (cI cG : ClassId) (ws : va_W) (H : Heap) (p1 : Int32) {r : Int32} (h : m_X3_isDay p1 = some r) : RoM l yX3_isDay cX3_isDay 1 (some .boolean) 1 22 [.int p1] D cI cG ws H r := by
  refine RoM.of (own := RX3) (by decide) rfl (Nat.le_of_ble_eq_true rfl) ?_
  intro p e s m args below meth c ls X hP hS hl0
  have hl : lv_has ls 1 [(0, .int p1)] := hl0 _ (lv_entry [.int p1] (n := 1) (Nat.le_of_ble_eq_true rfl))
  have hx := X.1
  have hb := X.2.1
  rw [m_X3_isDay] at h
  refine lv_iload_n hx hb dX3_isDay_0 rfl (lv_at hl 0 rfl) ?_
  refine lv_iconst (v := 0) hx hb dX3_isDay_1 (by decide) ?_
  refine lv_bipush (v := 99) hx hb dX3_isDay_2 (by decide) ?_
  obtain ⟨r1, er1, h⟩ := bd_some h
  refine ro_S (As := [.int p1, .int 0, .int 99]) (rest := []) X hP hS hl.1 (c_X3_within l D cI cG _ _ p1 0 99 er1) lk_X3_44 ⟨by decide, by decide⟩ rfl rfl (Nat.le_of_ble_eq_true rfl) dX3_isDay_4 ⟨Nat.le_refl _, Nat.le_refl _⟩ (fun locs hS => ?_)
  obtain ⟨hz2, h⟩ := gd_some h
  exact ro_retz X hS h (bz_n hz2) dX3_isDay_7
set_option maxHeartbeats 4000000 in
set_option maxRecDepth 100000 in
theorem c_X3_exemptBy (l : Launch) (D : va_G) (cI cG : ClassId) (ws : va_W) (H : Heap) (p1 p2 : Int32) {r : Int32} (h : m_X3_exemptBy p1 p2 = some r) : RoM l yX3_exemptBy cX3_exemptBy 2 (some .int) 0 0 [.int p1, .int p2] D cI cG ws H r := by
  refine RoM.of (own := RX3) (by decide) rfl (Nat.le_of_ble_eq_true rfl) ?_
  intro p e s m args below meth c ls X hP hS hl0
  have hl : lv_has ls 2 [(0, .int p1), (1, .int p2)] := hl0 _ (lv_entry [.int p1, .int p2] (n := 2) (Nat.le_of_ble_eq_true rfl))
  have hx := X.1
  have hb := X.2.1
  rw [m_X3_exemptBy] at h
  refine lv_iload_n hx hb dX3_exemptBy_0 rfl (lv_at hl 0 rfl) ?_
  refine lv_iconst (v := 1) hx hb dX3_exemptBy_1 (by decide) ?_
  refine lv_icmp_ne (tgt := 9) hx hb dX3_exemptBy_2 (by decide) (fun c1 => ?_) (fun c1 => ?_)
  · have h := ff_some h c1
    refine lv_iconst (v := 0) hx hb dX3_exemptBy_9 (by decide) ?_
    exact ro_ret X hS h dX3_exemptBy_10
  · have h := tt_some h c1
    refine lv_iload_n hx hb dX3_exemptBy_5 rfl (lv_at hl 1 rfl) ?_
    refine lv_goto (tgt := 10) hx hb dX3_exemptBy_6 (by decide) ?_
    exact ro_ret X hS h dX3_exemptBy_10
set_option maxHeartbeats 4000000 in
set_option maxRecDepth 100000 in
theorem c_X3_without (l : Launch) (D : va_G) (cI cG : ClassId) (ws : va_W) (H : Heap) (p1 p2 : Int32) {r : Int32} (h : m_X3_without p1 p2 = some r) : RoM l yX3_without cX3_without 2 (some .int) 0 0 [.int p1, .int p2] D cI cG ws H r := by
  refine RoM.of (own := RX3) (by decide) rfl (Nat.le_of_ble_eq_true rfl) ?_
  intro p e s m args below meth c ls X hP hS hl0
  have hl : lv_has ls 2 [(0, .int p1), (1, .int p2)] := hl0 _ (lv_entry [.int p1, .int p2] (n := 2) (Nat.le_of_ble_eq_true rfl))
  have hx := X.1
  have hb := X.2.1
  rw [m_X3_without] at h
  refine lv_iload_n hx hb dX3_without_0 rfl (lv_at hl 0 rfl) ?_
  refine lv_iconst (v := 1) hx hb dX3_without_1 (by decide) ?_
  refine lv_iload_n hx hb dX3_without_2 rfl (lv_at hl 1 rfl) ?_
  refine lv_ishl hx hb dX3_without_3 ?_
  refine lv_iconst (v := (-1 : Int32)) hx hb dX3_without_4 (by decide) ?_
  refine lv_ixor hx hb dX3_without_5 ?_
  refine lv_iand hx hb dX3_without_6 ?_
  exact ro_ret X hS h dX3_without_7
