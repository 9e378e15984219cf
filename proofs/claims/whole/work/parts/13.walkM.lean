set_option maxHeartbeats 4000000 in
set_option maxRecDepth 100000 in
theorem c_X4_in (l : Launch) (D : va_G) (cI cG : ClassId) (ws : va_W) (H : Heap) (p1 p2 p3 : Int64) {r : Int32} (h : m_X4_in p1 p2 p3 = some r) : RoM l yX4_in cX4_in 6 (some .boolean) 0 0 [.long p1, .long p2, .long p3] D cI cG ws H r := by
  refine RoM.of (own := RX4) (by decide) rfl (Nat.le_of_ble_eq_true rfl) ?_
  intro p e s m args below meth c ls X hP hS hl0
  have hl : lv_has ls 6 [(0, .long p1), (2, .long p2), (4, .long p3)] := hl0 _ (lv_entry [.long p1, .long p2, .long p3] (n := 6) (Nat.le_of_ble_eq_true rfl))
  have hx := X.1
  have hb := X.2.1
  rw [m_X4_in] at h
  refine lv_lload_n hx hb dX4_in_0 rfl (lv_at hl 0 rfl) ?_
  refine lv_lload_n hx hb dX4_in_1 rfl (lv_at hl 1 rfl) ?_
  refine W.lcmp hx hb dX4_in_2 ?_
  refine lv_if_lt (tgt := 17) hx hb dX4_in_3 (by decide) (fun c1 => ?_) (fun c1 => ?_)
  · have h := tt_some h c1
    refine lv_iconst (v := 0) hx hb dX4_in_17 (by decide) ?_
    exact ro_retz X hS h rfl dX4_in_18
  · have h := ff_some h c1
    refine lv_lload_n hx hb dX4_in_6 rfl (lv_at hl 0 rfl) ?_
    refine lv_lload hx hb dX4_in_7 (lv_at hl 2 rfl) ?_
    refine W.lcmp hx hb dX4_in_9 ?_
    refine lv_if_gt (tgt := 17) hx hb dX4_in_10 (by decide) (fun c2 => ?_) (fun c2 => ?_)
    · have h := tt_some h c2
      refine lv_iconst (v := 0) hx hb dX4_in_17 (by decide) ?_
      exact ro_retz X hS h rfl dX4_in_18
    · have h := ff_some h c2
      refine lv_iconst (v := 1) hx hb dX4_in_13 (by decide) ?_
      refine lv_goto (tgt := 18) hx hb dX4_in_14 (by decide) ?_
      exact ro_retz X hS h rfl dX4_in_18
set_option maxHeartbeats 4000000 in
set_option maxRecDepth 100000 in
theorem wk_X4_ones_4 {p : Program} {l : Launch} {e : Env} {s : State} {m : MethodId} {args : Array Value} {below : List Frame} {meth : Method} {c : Code} {D : va_G} {cI cG : ClassId} {ws : va_W} {H : Heap} {r : Int32} {F : Nat} {p1 : Int32}  (X : Cx p s m args meth c cX4_ones 3 (some .int) RX4 D cI cG) (hP : va_P D vwCl ws H)  : ∀ (n : Nat) (x1 : Int32) (x2 : Int32) (ls : Array Slot) (locs : List Loc), lv_has ls 3 [(0, .int p1), (1, .int x1), (2, .int x2)] → va_S no s.heap H locs → m_X4_ones_4 F p1 n x1 x2 = some r → W p l e { frames := 0, cells := 0, slots := 0, locals := 0 } s m args below meth c H locs 0 0 (MQ below (roQ H r) args s 0 0 no) (F0 m 4 ls []) := by
  have hx := X.1
  have hb := X.2.1
  intro n
  induction n with
  | zero =>
    intro x1 x2 ls locs hl hS h
    exact no_none (show none = some r from h)
  | succ n ih =>
    intro x1 x2 ls locs hl hS h
    rw [m_X4_ones_4] at h
    refine lv_iload_n hx hb dX4_ones_4 rfl (lv_at hl 2 rfl) ?_
    refine lv_bipush (v := 12) hx hb dX4_ones_5 (by decide) ?_
    refine lv_icmp_ge (tgt := 24) hx hb dX4_ones_7 (by decide) (fun c1 => ?_) (fun c1 => ?_)
    · have h := tt_some h c1
      refine lv_iload_n hx hb dX4_ones_24 rfl (lv_at hl 1 rfl) ?_
      exact ro_ret X hS h dX4_ones_25
    · have h := ff_some h c1
      refine lv_iload_n hx hb dX4_ones_10 rfl (lv_at hl 1 rfl) ?_
      refine lv_iload_n hx hb dX4_ones_11 rfl (lv_at hl 0 rfl) ?_
      refine lv_iload_n hx hb dX4_ones_12 rfl (lv_at hl 2 rfl) ?_
      refine lv_ishr hx hb dX4_ones_13 ?_
      refine lv_iconst (v := 1) hx hb dX4_ones_14 (by decide) ?_
      refine lv_iand hx hb dX4_ones_15 ?_
      refine lv_iadd hx hb dX4_ones_16 ?_
      refine lv_topi (fun v2 ev2 => ?_)
      have h := nm_some h ev2
      refine lv_istore_n (lv' := [(1, .int v2), (0, .int p1), (2, .int x2)]) hx hb dX4_ones_17 rfl hl (by decide) rfl (fun ls hl => ?_)
      obtain ⟨v3, ev3⟩ : ∃ y : Int32, y = x2 + 1 := ⟨_, rfl⟩
      have h := nm_some h ev3
      refine lv_iinc (v := v3) (lv' := [(2, .int v3), (1, .int v2), (0, .int p1)]) hx hb dX4_ones_18 hl (k := 2) rfl (by rw [ev3]; rfl) (by decide) rfl (fun ls hl => ?_)
      refine lv_goto (tgt := 4) hx hb dX4_ones_21 (by decide) ?_
      exact ih v2 v3 ls _ (lv_sub hl [2, 1, 0] rfl) hS h
set_option maxHeartbeats 4000000 in
set_option maxRecDepth 100000 in
theorem c_X4_ones (l : Launch) (D : va_G) (cI cG : ClassId) (ws : va_W) (H : Heap) (F : Nat) (p1 : Int32) {r : Int32} (h : m_X4_ones F p1 = some r) : RoM l yX4_ones cX4_ones 3 (some .int) 0 0 [.int p1] D cI cG ws H r := by
  refine RoM.of (own := RX4) (by decide) rfl (Nat.le_of_ble_eq_true rfl) ?_
  intro p e s m args below meth c ls X hP hS hl0
  have hl : lv_has ls 3 [(0, .int p1)] := hl0 _ (lv_entry [.int p1] (n := 3) (Nat.le_of_ble_eq_true rfl))
  have hx := X.1
  have hb := X.2.1
  rw [m_X4_ones] at h
  refine lv_iconst (v := 0) hx hb dX4_ones_0 (by decide) ?_
  refine lv_istore_n (lv' := [(1, .int 0), (0, .int p1)]) hx hb dX4_ones_1 rfl hl (by decide) rfl (fun ls hl => ?_)
  refine lv_iconst (v := 0) hx hb dX4_ones_2 (by decide) ?_
  refine lv_istore_n (lv' := [(2, .int 0), (1, .int 0), (0, .int p1)]) hx hb dX4_ones_3 rfl hl (by decide) rfl (fun ls hl => ?_)
  exact wk_X4_ones_4 X hP F 0 0 ls _ (lv_sub hl [2, 1, 0] rfl) hS h
set_option maxHeartbeats 4000000 in
set_option maxRecDepth 100000 in
theorem c_X4_isDay (l : Launch) (D : va_G) (cI cG : ClassId) (ws : va_W) (H : Heap) (p1 : Int32) {r : Int32} (h : m_X4_isDay p1 = some r) : RoM l yX4_isDay cX4_isDay 1 (some .boolean) 1 25 [.int p1] D cI cG ws H r := by
  refine RoM.of (own := RX4) (by decide) rfl (Nat.le_of_ble_eq_true rfl) ?_
  intro p e s m args below meth c ls X hP hS hl0
  have hl : lv_has ls 1 [(0, .int p1)] := hl0 _ (lv_entry [.int p1] (n := 1) (Nat.le_of_ble_eq_true rfl))
  have hx := X.1
  have hb := X.2.1
  rw [m_X4_isDay] at h
  refine lv_iload_n hx hb dX4_isDay_0 rfl (lv_at hl 0 rfl) ?_
  refine lv_i2l (v := Int32.toInt64 p1) hx hb dX4_isDay_1 rfl ?_
  refine lv_lconst (v := 0) hx hb dX4_isDay_2 (by decide) ?_
  refine lv_ldc2 (v := (99 : Int64)) hx hb X.2.2.2.2.2.1 (X.2.2.2.2.2.2.1 _ w_kl_X4_53) dX4_isDay_3 ?_
  obtain ⟨r1, er1, h⟩ := bd_some h
  refine ro_S (As := [.long (Int32.toInt64 p1), .long 0, .long 99]) (rest := []) X hP hS hl.1 (c_X4_in l D cI cG _ _ (Int32.toInt64 p1) 0 99 er1) lk_X4_55 ⟨by decide, by decide⟩ rfl rfl (Nat.le_of_ble_eq_true rfl) dX4_isDay_6 ⟨Nat.le_refl _, Nat.le_refl _⟩ (fun locs hS => ?_)
  obtain ⟨hz2, h⟩ := gd_some h
  exact ro_retz X hS h (bz_n hz2) dX4_isDay_9
set_option maxHeartbeats 4000000 in
set_option maxRecDepth 100000 in
theorem c_X4_isWho (l : Launch) (D : va_G) (cI cG : ClassId) (ws : va_W) (H : Heap) (p1 : Int32) {r : Int32} (h : m_X4_isWho p1 = some r) : RoM l yX4_isWho cX4_isWho 1 (some .boolean) 1 25 [.int p1] D cI cG ws H r := by
  refine RoM.of (own := RX4) (by decide) rfl (Nat.le_of_ble_eq_true rfl) ?_
  intro p e s m args below meth c ls X hP hS hl0
  have hl : lv_has ls 1 [(0, .int p1)] := hl0 _ (lv_entry [.int p1] (n := 1) (Nat.le_of_ble_eq_true rfl))
  have hx := X.1
  have hb := X.2.1
  rw [m_X4_isWho] at h
  refine lv_iload_n hx hb dX4_isWho_0 rfl (lv_at hl 0 rfl) ?_
  refine lv_i2l (v := Int32.toInt64 p1) hx hb dX4_isWho_1 rfl ?_
  refine lv_lconst (v := 0) hx hb dX4_isWho_2 (by decide) ?_
  refine lv_ldc2 (v := (3 : Int64)) hx hb X.2.2.2.2.2.1 (X.2.2.2.2.2.2.1 _ w_kl_X4_59) dX4_isWho_3 ?_
  obtain ⟨r1, er1, h⟩ := bd_some h
  refine ro_S (As := [.long (Int32.toInt64 p1), .long 0, .long 3]) (rest := []) X hP hS hl.1 (c_X4_in l D cI cG _ _ (Int32.toInt64 p1) 0 3 er1) lk_X4_55 ⟨by decide, by decide⟩ rfl rfl (Nat.le_of_ble_eq_true rfl) dX4_isWho_6 ⟨Nat.le_refl _, Nat.le_refl _⟩ (fun locs hS => ?_)
  obtain ⟨hz2, h⟩ := gd_some h
  exact ro_retz X hS h (bz_n hz2) dX4_isWho_9
set_option maxHeartbeats 4000000 in
set_option maxRecDepth 100000 in
theorem c_X4_isAct (l : Launch) (D : va_G) (cI cG : ClassId) (q : Nat → Nat) (S : St) (H : Heap) (p1 : Int32) {r : Int32} (h : m_X4_isAct S p1 = some r) : RoM l yX4_isAct cX4_isAct 2 (some .boolean) 1 25 [.ref (q 0), .int p1] D cI cG (wM cI cG q S) H r := by
  refine RoM.of (own := RX4) (by decide) rfl (Nat.le_of_ble_eq_true rfl) ?_
  intro p e s m args below meth c ls X hP hS hl0
  have hl : lv_has ls 2 [(0, .ref (q 0)), (1, .int p1)] := hl0 _ (lv_entry [.ref (q 0), .int p1] (n := 2) (Nat.le_of_ble_eq_true rfl))
  have hx := X.1
  have hb := X.2.1
  rw [m_X4_isAct] at h
  refine lv_iload_n hx hb dX4_isAct_0 rfl (lv_at hl 1 rfl) ?_
  refine lv_i2l (v := Int32.toInt64 p1) hx hb dX4_isAct_1 rfl ?_
  refine lv_lconst (v := 0) hx hb dX4_isAct_2 (by decide) ?_
  refine lv_aload_n hx hb dX4_isAct_3 rfl (lv_at hl 0 rfl) ?_
  refine gf_X4_61 X hP dX4_isAct_4 ?_
  refine lv_iconst (v := 1) hx hb dX4_isAct_7 (by decide) ?_
  refine lv_isub hx hb dX4_isAct_8 ?_
  refine lv_i2l (v := Int32.toInt64 ((S 0 1) - 1)) hx hb dX4_isAct_9 rfl ?_
  obtain ⟨r1, er1, h⟩ := bd_some h
  refine ro_S (As := [.long (Int32.toInt64 p1), .long 0, .long (Int32.toInt64 ((S 0 1) - 1))]) (rest := []) X hP hS hl.1 (c_X4_in l D cI cG _ _ (Int32.toInt64 p1) 0 (Int32.toInt64 ((S 0 1) - 1)) er1) lk_X4_55 ⟨by decide, by decide⟩ rfl rfl (Nat.le_of_ble_eq_true rfl) dX4_isAct_10 ⟨Nat.le_refl _, Nat.le_refl _⟩ (fun locs hS => ?_)
  obtain ⟨hz2, h⟩ := gd_some h
  exact ro_retz X hS h (bz_n hz2) dX4_isAct_13
set_option maxHeartbeats 4000000 in
set_option maxRecDepth 100000 in
theorem wk_X4_fault_54 {p : Program} {l : Launch} {e : Env} {s : State} {m : MethodId} {args : Array Value} {below : List Frame} {meth : Method} {c : Code} {D : va_G} {cI cG : ClassId} {q : Nat → Nat} {S : St} {H : Heap} {r : Int32} {F : Nat} {K2 : Int32 → Option Int32} (X : Cx p s m args meth c cX4_fault 4 (some .int) RX4 D cI cG) (hP : va_P D vwCl (wM cI cG q S) H) (hK2 : ∀ (x1 : Int32) (ls : Array Slot) (locs : List Loc), lv_has ls 4 [(0, .ref (q 0)), (1, .int x1)] → va_S no s.heap H locs → K2 x1 = some r → W p l e { frames := 1, cells := 0, slots := 0, locals := 25 } s m args below meth c H locs 0 0 (MQ below (roQ H r) args s 0 0 no) (F0 m 2 ls [])) : ∀ (x1 : Int32) (t0 : Int32) (ls : Array Slot) (locs : List Loc), lv_has ls 4 [(0, .ref (q 0)), (1, .int x1)] → va_S no s.heap H locs → m_X4_fault_54 F S K2 x1 t0 = some r → W p l e { frames := 1, cells := 0, slots := 0, locals := 25 } s m args below meth c H locs 0 0 (MQ below (roQ H r) args s 0 0 no) (F0 m 54 ls [.int t0]) := by
  have hx := X.1
  have hb := X.2.1
  intro x1 t0 ls locs hl hS h
  rw [m_X4_fault_54] at h
  refine lv_istore_n (lv' := [(3, .int t0), (0, .ref (q 0)), (1, .int x1)]) hx hb dX4_fault_54 rfl hl (by decide) rfl (fun ls hl => ?_)
  refine lv_iload_n hx hb dX4_fault_55 rfl (lv_at hl 0 rfl) ?_
  refine lv_if_ne (tgt := 61) hx hb dX4_fault_56 (by decide) (fun c9 => ?_) (fun c9 => ?_)
  · have h := ff_some h c9
    obtain ⟨v10, ev10⟩ : ∃ y : Int32, y = x1 + 1 := ⟨_, rfl⟩
    have h := nm_some h ev10
    refine lv_iinc (v := v10) (lv' := [(1, .int v10), (3, .int t0), (0, .ref (q 0))]) hx hb dX4_fault_61 hl (k := 2) rfl (by rw [ev10]; rfl) (by decide) rfl (fun ls hl => ?_)
    refine lv_goto (tgt := 2) hx hb dX4_fault_64 (by decide) ?_
    exact hK2 v10 ls _ (lv_sub hl [2, 0] rfl) hS h
  · have h := tt_some h c9
    refine lv_iload_n hx hb dX4_fault_59 rfl (lv_at hl 2 rfl) ?_
    exact ro_ret X hS h dX4_fault_60
set_option maxHeartbeats 4000000 in
set_option maxRecDepth 100000 in
theorem wk_X4_fault_49 {p : Program} {l : Launch} {e : Env} {s : State} {m : MethodId} {args : Array Value} {below : List Frame} {meth : Method} {c : Code} {D : va_G} {cI cG : ClassId} {q : Nat → Nat} {S : St} {H : Heap} {r : Int32} {F : Nat} {K2 : Int32 → Option Int32} (X : Cx p s m args meth c cX4_fault 4 (some .int) RX4 D cI cG) (hP : va_P D vwCl (wM cI cG q S) H) (hK2 : ∀ (x1 : Int32) (ls : Array Slot) (locs : List Loc), lv_has ls 4 [(0, .ref (q 0)), (1, .int x1)] → va_S no s.heap H locs → K2 x1 = some r → W p l e { frames := 1, cells := 0, slots := 0, locals := 25 } s m args below meth c H locs 0 0 (MQ below (roQ H r) args s 0 0 no) (F0 m 2 ls [])) : ∀ (x1 : Int32) (ls : Array Slot) (locs : List Loc), lv_has ls 4 [(0, .ref (q 0)), (1, .int x1)] → va_S no s.heap H locs → m_X4_fault_49 F S K2 x1 = some r → W p l e { frames := 1, cells := 0, slots := 0, locals := 25 } s m args below meth c H locs 0 0 (MQ below (roQ H r) args s 0 0 no) (F0 m 49 ls []) := by
  have hx := X.1
  have hb := X.2.1
  intro x1 ls locs hl hS h
  rw [m_X4_fault_49] at h
  refine lv_iconst (v := 1) hx hb dX4_fault_49 (by decide) ?_
  refine lv_goto (tgt := 54) hx hb dX4_fault_50 (by decide) ?_
  exact wk_X4_fault_54 X hP hK2 x1 1 ls _ (lv_sub hl [0, 1] rfl) hS h
set_option maxHeartbeats 4000000 in
set_option maxRecDepth 100000 in
theorem wk_X4_fault_2 {p : Program} {l : Launch} {e : Env} {s : State} {m : MethodId} {args : Array Value} {below : List Frame} {meth : Method} {c : Code} {D : va_G} {cI cG : ClassId} {q : Nat → Nat} {S : St} {H : Heap} {r : Int32} {F : Nat}  (X : Cx p s m args meth c cX4_fault 4 (some .int) RX4 D cI cG) (hP : va_P D vwCl (wM cI cG q S) H)  : ∀ (n : Nat) (x1 : Int32) (ls : Array Slot) (locs : List Loc), lv_has ls 4 [(0, .ref (q 0)), (1, .int x1)] → va_S no s.heap H locs → m_X4_fault_2 F S n x1 = some r → W p l e { frames := 1, cells := 0, slots := 0, locals := 25 } s m args below meth c H locs 0 0 (MQ below (roQ H r) args s 0 0 no) (F0 m 2 ls []) := by
  have hx := X.1
  have hb := X.2.1
  intro n
  induction n with
  | zero =>
    intro x1 ls locs hl hS h
    exact no_none (show none = some r from h)
  | succ n ih =>
    intro x1 ls locs hl hS h
    rw [m_X4_fault_2] at h
    refine lv_iload_n hx hb dX4_fault_2 rfl (lv_at hl 1 rfl) ?_
    refine lv_aload_n hx hb dX4_fault_3 rfl (lv_at hl 0 rfl) ?_
    refine gf_X4_90 X hP dX4_fault_4 ?_
    refine lv_icmp_ge (tgt := 67) hx hb dX4_fault_7 (by decide) (fun c1 => ?_) (fun c1 => ?_)
    · have h := tt_some h c1
      refine lv_aload_n hx hb dX4_fault_67 rfl (lv_at hl 0 rfl) ?_
      refine gf_X4_90 X hP dX4_fault_68 ?_
      refine lv_iconst (v := 2) hx hb dX4_fault_71 (by decide) ?_
      refine lv_irem hx hb dX4_fault_72 (by decide) ?_
      refine lv_iconst (v := 1) hx hb dX4_fault_73 (by decide) ?_
      refine lv_icmp_ne (tgt := 82) hx hb dX4_fault_74 (by decide) (fun c2 => ?_) (fun c2 => ?_)
      · have h := ff_some h c2
        refine lv_aload_n hx hb dX4_fault_82 rfl (lv_at hl 0 rfl) ?_
        refine gf_X4_90 X hP dX4_fault_83 ?_
        exact ro_ret X hS h dX4_fault_86
      · have h := tt_some h c2
        refine lv_bipush (v := (-6 : Int32)) hx hb dX4_fault_77 (by decide) ?_
        refine lv_goto (tgt := 86) hx hb dX4_fault_79 (by decide) ?_
        exact ro_ret X hS h dX4_fault_86
    · have h := ff_some h c1
      refine lv_aload_n hx hb dX4_fault_10 rfl (lv_at hl 0 rfl) ?_
      refine gf_X4_37 X hP dX4_fault_11 ?_
      refine lv_iload_n hx hb dX4_fault_14 rfl (lv_at hl 1 rfl) ?_
      obtain ⟨hi3, h⟩ := gd_some h
      refine ro_ald X hP 10 wM_10 hi3 dX4_fault_15 ?_
      refine lv_topi (fun v4 ev4 => ?_)
      have h := nm_some h ev4
      refine lv_istore_n (lv' := [(2, .int v4), (0, .ref (q 0)), (1, .int x1)]) hx hb dX4_fault_16 rfl hl (by decide) rfl (fun ls hl => ?_)
      refine lv_iload_n hx hb dX4_fault_17 rfl (lv_at hl 2 rfl) ?_
      refine lv_iconst (v := 2) hx hb dX4_fault_18 (by decide) ?_
      refine lv_irem hx hb dX4_fault_19 (by decide) ?_
      refine lv_if_ne (tgt := 37) hx hb dX4_fault_20 (by decide) (fun c5 => ?_) (fun c5 => ?_)
      · have h := ff_some h c5
        refine lv_iload_n hx hb dX4_fault_37 rfl (lv_at hl 0 rfl) ?_
        refine lv_bipush (v := 43) hx hb dX4_fault_38 (by decide) ?_
        refine lv_icmp_eq (tgt := 49) hx hb dX4_fault_40 (by decide) (fun c6 => ?_) (fun c6 => ?_)
        · have h := tt_some h c6
          exact wk_X4_fault_49 X hP ih x1 ls _ (lv_sub hl [1, 2] rfl) hS h
        · have h := ff_some h c6
          refine lv_iload_n hx hb dX4_fault_43 rfl (lv_at hl 0 rfl) ?_
          refine lv_bipush (v := 124) hx hb dX4_fault_44 (by decide) ?_
          refine lv_icmp_ne (tgt := 53) hx hb dX4_fault_46 (by decide) (fun c7 => ?_) (fun c7 => ?_)
          · have h := ff_some h c7
            refine lv_iconst (v := 0) hx hb dX4_fault_53 (by decide) ?_
            exact wk_X4_fault_54 X hP ih x1 0 ls _ (lv_sub hl [1, 2] rfl) hS h
          · have h := tt_some h c7
            exact wk_X4_fault_49 X hP ih x1 ls _ (lv_sub hl [1, 2] rfl) hS h
      · have h := tt_some h c5
        refine lv_iload_n hx hb dX4_fault_23 rfl (lv_at hl 0 rfl) ?_
        refine lv_i2l (v := Int32.toInt64 v4) hx hb dX4_fault_24 rfl ?_
        refine lv_ldc2 (v := (97 : Int64)) hx hb X.2.2.2.2.2.1 (X.2.2.2.2.2.2.1 _ w_kl_X4_93) dX4_fault_25 ?_
        refine lv_ldc2 (v := (108 : Int64)) hx hb X.2.2.2.2.2.1 (X.2.2.2.2.2.2.1 _ w_kl_X4_95) dX4_fault_28 ?_
        obtain ⟨r8, er8, h⟩ := bd_some h
        refine ro_S (As := [.long (Int32.toInt64 v4), .long 97, .long 108]) (rest := []) X hP hS hl.1 (c_X4_in l D cI cG _ _ (Int32.toInt64 v4) 97 108 er8) lk_X4_55 ⟨by decide, by decide⟩ rfl rfl (Nat.le_of_ble_eq_true rfl) dX4_fault_31 ⟨Nat.le_refl _, Nat.le_refl _⟩ (fun locs hS => ?_)
        refine lv_goto (tgt := 54) hx hb dX4_fault_34 (by decide) ?_
        exact wk_X4_fault_54 X hP ih x1 r8 ls _ (lv_sub hl [1, 2] rfl) hS h
set_option maxHeartbeats 4000000 in
set_option maxRecDepth 100000 in
theorem c_X4_fault (l : Launch) (D : va_G) (cI cG : ClassId) (q : Nat → Nat) (S : St) (H : Heap) (F : Nat) {r : Int32} (h : m_X4_fault F S = some r) : RoM l yX4_fault cX4_fault 4 (some .int) 1 25 [.ref (q 0)] D cI cG (wM cI cG q S) H r := by
  refine RoM.of (own := RX4) (by decide) rfl (Nat.le_of_ble_eq_true rfl) ?_
  intro p e s m args below meth c ls X hP hS hl0
  have hl : lv_has ls 4 [(0, .ref (q 0))] := hl0 _ (lv_entry [.ref (q 0)] (n := 4) (Nat.le_of_ble_eq_true rfl))
  have hx := X.1
  have hb := X.2.1
  rw [m_X4_fault] at h
  refine lv_iconst (v := 0) hx hb dX4_fault_0 (by decide) ?_
  refine lv_istore_n (lv' := [(1, .int 0), (0, .ref (q 0))]) hx hb dX4_fault_1 rfl hl (by decide) rfl (fun ls hl => ?_)
  exact wk_X4_fault_2 X hP F 0 ls _ (lv_sub hl [1, 0] rfl) hS h
set_option maxHeartbeats 4000000 in
set_option maxRecDepth 100000 in
theorem wk_X4_isHeld_38 {p : Program} {l : Launch} {e : Env} {s : State} {m : MethodId} {args : Array Value} {below : List Frame} {meth : Method} {c : Code} {D : va_G} {cI cG : ClassId} {q : Nat → Nat} {S : St} {H : Heap} {r : Int32} {F : Nat} {p1 p2 : Int32}  (X : Cx p s m args meth c cX4_isHeld 5 (some .boolean) RX4 D cI cG) (hP : va_P D vwCl (wM cI cG q S) H)  : ∀ (n : Nat) (x3 : Int32) (x4 : Int32) (ls : Array Slot) (locs : List Loc), lv_has ls 5 [(0, .ref (q 0)), (1, .int p1), (2, .int p2), (3, .int x3), (4, .int x4)] → va_S no s.heap H locs → m_X4_isHeld_38 F S p1 p2 n x3 x4 = some r → W p l e { frames := 0, cells := 0, slots := 0, locals := 0 } s m args below meth c H locs 0 0 (MQ below (roQ H r) args s 0 0 no) (F0 m 38 ls []) := by
  have hx := X.1
  have hb := X.2.1
  intro n
  induction n with
  | zero =>
    intro x3 x4 ls locs hl hS h
    exact no_none (show none = some r from h)
  | succ n ih =>
    intro x3 x4 ls locs hl hS h
    rw [m_X4_isHeld_38] at h
    refine lv_iload hx hb dX4_isHeld_38 (lv_at hl 4 rfl) ?_
    refine lv_aload_n hx hb dX4_isHeld_40 rfl (lv_at hl 0 rfl) ?_
    refine gf_X4_34 X hP dX4_isHeld_41 ?_
    refine lv_iload_n hx hb dX4_isHeld_44 rfl (lv_at hl 1 rfl) ?_
    obtain ⟨hi5, h⟩ := gd_some h
    refine ro_ald X hP 9 wM_9 hi5 dX4_isHeld_45 ?_
    refine lv_icmp_ge (tgt := 84) hx hb dX4_isHeld_46 (by decide) (fun c6 => ?_) (fun c6 => ?_)
    · have h := tt_some h c6
      refine lv_iload_n hx hb dX4_isHeld_84 rfl (lv_at hl 3 rfl) ?_
      obtain ⟨hz7, h⟩ := gd_some h
      exact ro_retz X hS h (bz_n hz7) dX4_isHeld_85
    · have h := ff_some h c6
      refine lv_iload_n hx hb dX4_isHeld_49 rfl (lv_at hl 3 rfl) ?_
      refine lv_if_ne (tgt := 72) hx hb dX4_isHeld_50 (by decide) (fun c8 => ?_) (fun c8 => ?_)
      · have h := ff_some h c8
        refine lv_iconst (v := 1) hx hb dX4_isHeld_72 (by decide) ?_
        refine lv_goto (tgt := 77) hx hb dX4_isHeld_73 (by decide) ?_
        refine lv_istore_n (lv' := [(3, .int 1), (0, .ref (q 0)), (1, .int p1), (2, .int p2), (4, .int x4)]) hx hb dX4_isHeld_77 rfl hl (by decide) rfl (fun ls hl => ?_)
        obtain ⟨v9, ev9⟩ : ∃ y : Int32, y = x4 + 1 := ⟨_, rfl⟩
        have h := nm_some h ev9
        refine lv_iinc (v := v9) (lv' := [(4, .int v9), (3, .int 1), (0, .ref (q 0)), (1, .int p1), (2, .int p2)]) hx hb dX4_isHeld_78 hl (k := 4) rfl (by rw [ev9]; rfl) (by decide) rfl (fun ls hl => ?_)
        refine lv_goto (tgt := 38) hx hb dX4_isHeld_81 (by decide) ?_
        exact ih 1 v9 ls _ (lv_sub hl [2, 3, 4, 1, 0] rfl) hS h
      · have h := tt_some h c8
        refine lv_aload_n hx hb dX4_isHeld_53 rfl (lv_at hl 0 rfl) ?_
        refine gf_X4_31 X hP dX4_isHeld_54 ?_
        refine lv_bipush (v := 20) hx hb dX4_isHeld_57 (by decide) ?_
        refine lv_iload_n hx hb dX4_isHeld_59 rfl (lv_at hl 1 rfl) ?_
        refine lv_imul hx hb dX4_isHeld_60 ?_
        refine lv_iload hx hb dX4_isHeld_61 (lv_at hl 4 rfl) ?_
        refine lv_iadd hx hb dX4_isHeld_63 ?_
        obtain ⟨hi10, h⟩ := gd_some h
        refine ro_ald X hP 8 wM_8 hi10 dX4_isHeld_64 ?_
        refine lv_iload_n hx hb dX4_isHeld_65 rfl (lv_at hl 2 rfl) ?_
        refine lv_iconst (v := (-1 : Int32)) hx hb dX4_isHeld_66 (by decide) ?_
        refine lv_ixor hx hb dX4_isHeld_67 ?_
        refine lv_iand hx hb dX4_isHeld_68 ?_
        refine lv_if_ne (tgt := 76) hx hb dX4_isHeld_69 (by decide) (fun c11 => ?_) (fun c11 => ?_)
        · have h := ff_some h c11
          refine lv_iconst (v := 0) hx hb dX4_isHeld_76 (by decide) ?_
          refine lv_istore_n (lv' := [(3, .int 0), (0, .ref (q 0)), (1, .int p1), (2, .int p2), (4, .int x4)]) hx hb dX4_isHeld_77 rfl hl (by decide) rfl (fun ls hl => ?_)
          obtain ⟨v12, ev12⟩ : ∃ y : Int32, y = x4 + 1 := ⟨_, rfl⟩
          have h := nm_some h ev12
          refine lv_iinc (v := v12) (lv' := [(4, .int v12), (3, .int 0), (0, .ref (q 0)), (1, .int p1), (2, .int p2)]) hx hb dX4_isHeld_78 hl (k := 4) rfl (by rw [ev12]; rfl) (by decide) rfl (fun ls hl => ?_)
          refine lv_goto (tgt := 38) hx hb dX4_isHeld_81 (by decide) ?_
          exact ih 0 v12 ls _ (lv_sub hl [2, 3, 4, 1, 0] rfl) hS h
        · have h := tt_some h c11
          refine lv_iconst (v := 1) hx hb dX4_isHeld_72 (by decide) ?_
          refine lv_goto (tgt := 77) hx hb dX4_isHeld_73 (by decide) ?_
          refine lv_istore_n (lv' := [(3, .int 1), (0, .ref (q 0)), (1, .int p1), (2, .int p2), (4, .int x4)]) hx hb dX4_isHeld_77 rfl hl (by decide) rfl (fun ls hl => ?_)
          obtain ⟨v13, ev13⟩ : ∃ y : Int32, y = x4 + 1 := ⟨_, rfl⟩
          have h := nm_some h ev13
          refine lv_iinc (v := v13) (lv' := [(4, .int v13), (3, .int 1), (0, .ref (q 0)), (1, .int p1), (2, .int p2)]) hx hb dX4_isHeld_78 hl (k := 4) rfl (by rw [ev13]; rfl) (by decide) rfl (fun ls hl => ?_)
          refine lv_goto (tgt := 38) hx hb dX4_isHeld_81 (by decide) ?_
          exact ih 1 v13 ls _ (lv_sub hl [2, 3, 4, 1, 0] rfl) hS h
set_option maxHeartbeats 4000000 in
set_option maxRecDepth 100000 in
theorem c_X4_isHeld (l : Launch) (D : va_G) (cI cG : ClassId) (q : Nat → Nat) (S : St) (H : Heap) (F : Nat) (p1 p2 : Int32) {r : Int32} (h : m_X4_isHeld F S p1 p2 = some r) : RoM l yX4_isHeld cX4_isHeld 5 (some .boolean) 0 0 [.ref (q 0), .int p1, .int p2] D cI cG (wM cI cG q S) H r := by
  refine RoM.of (own := RX4) (by decide) rfl (Nat.le_of_ble_eq_true rfl) ?_
  intro p e s m args below meth c ls X hP hS hl0
  have hl : lv_has ls 5 [(0, .ref (q 0)), (1, .int p1), (2, .int p2)] := hl0 _ (lv_entry [.ref (q 0), .int p1, .int p2] (n := 5) (Nat.le_of_ble_eq_true rfl))
  have hx := X.1
  have hb := X.2.1
  rw [m_X4_isHeld] at h
  refine lv_aload_n hx hb dX4_isHeld_0 rfl (lv_at hl 0 rfl) ?_
  refine gf_X4_34 X hP dX4_isHeld_1 ?_
  refine lv_iload_n hx hb dX4_isHeld_4 rfl (lv_at hl 1 rfl) ?_
  obtain ⟨hi1, h⟩ := gd_some h
  refine ro_ald X hP 9 wM_9 hi1 dX4_isHeld_5 ?_
  refine lv_if_eq (tgt := 29) hx hb dX4_isHeld_6 (by decide) (fun c2 => ?_) (fun c2 => ?_)
  · have h := tt_some h c2
    refine lv_iconst (v := 1) hx hb dX4_isHeld_29 (by decide) ?_
    refine lv_goto (tgt := 34) hx hb dX4_isHeld_30 (by decide) ?_
    refine lv_istore_n (lv' := [(3, .int 1), (0, .ref (q 0)), (1, .int p1), (2, .int p2)]) hx hb dX4_isHeld_34 rfl hl (by decide) rfl (fun ls hl => ?_)
    refine lv_iconst (v := 0) hx hb dX4_isHeld_35 (by decide) ?_
    refine lv_istore (lv' := [(4, .int 0), (3, .int 1), (0, .ref (q 0)), (1, .int p1), (2, .int p2)]) hx hb dX4_isHeld_36 hl (by decide) rfl (fun ls hl => ?_)
    exact wk_X4_isHeld_38 X hP F 1 0 ls _ (lv_sub hl [2, 3, 4, 1, 0] rfl) hS h
  · have h := ff_some h c2
    refine lv_aload_n hx hb dX4_isHeld_9 rfl (lv_at hl 0 rfl) ?_
    refine gf_X4_83 X hP dX4_isHeld_10 ?_
    refine lv_iconst (v := 1) hx hb dX4_isHeld_13 (by decide) ?_
    refine lv_icmp_ne (tgt := 33) hx hb dX4_isHeld_14 (by decide) (fun c3 => ?_) (fun c3 => ?_)
    · have h := ff_some h c3
      refine lv_iconst (v := 0) hx hb dX4_isHeld_33 (by decide) ?_
      refine lv_istore_n (lv' := [(3, .int 0), (0, .ref (q 0)), (1, .int p1), (2, .int p2)]) hx hb dX4_isHeld_34 rfl hl (by decide) rfl (fun ls hl => ?_)
      refine lv_iconst (v := 0) hx hb dX4_isHeld_35 (by decide) ?_
      refine lv_istore (lv' := [(4, .int 0), (3, .int 0), (0, .ref (q 0)), (1, .int p1), (2, .int p2)]) hx hb dX4_isHeld_36 hl (by decide) rfl (fun ls hl => ?_)
      exact wk_X4_isHeld_38 X hP F 0 0 ls _ (lv_sub hl [2, 3, 4, 1, 0] rfl) hS h
    · have h := tt_some h c3
      refine lv_aload_n hx hb dX4_isHeld_17 rfl (lv_at hl 0 rfl) ?_
      refine gf_X4_78 X hP dX4_isHeld_18 ?_
      refine lv_iload_n hx hb dX4_isHeld_21 rfl (lv_at hl 1 rfl) ?_
      refine lv_ishr hx hb dX4_isHeld_22 ?_
      refine lv_iconst (v := 1) hx hb dX4_isHeld_23 (by decide) ?_
      refine lv_iand hx hb dX4_isHeld_24 ?_
      refine lv_iconst (v := 1) hx hb dX4_isHeld_25 (by decide) ?_
      refine lv_icmp_ne (tgt := 33) hx hb dX4_isHeld_26 (by decide) (fun c4 => ?_) (fun c4 => ?_)
      · have h := ff_some h c4
        refine lv_iconst (v := 0) hx hb dX4_isHeld_33 (by decide) ?_
        refine lv_istore_n (lv' := [(3, .int 0), (0, .ref (q 0)), (1, .int p1), (2, .int p2)]) hx hb dX4_isHeld_34 rfl hl (by decide) rfl (fun ls hl => ?_)
        refine lv_iconst (v := 0) hx hb dX4_isHeld_35 (by decide) ?_
        refine lv_istore (lv' := [(4, .int 0), (3, .int 0), (0, .ref (q 0)), (1, .int p1), (2, .int p2)]) hx hb dX4_isHeld_36 hl (by decide) rfl (fun ls hl => ?_)
        exact wk_X4_isHeld_38 X hP F 0 0 ls _ (lv_sub hl [2, 3, 4, 1, 0] rfl) hS h
      · have h := tt_some h c4
        refine lv_iconst (v := 1) hx hb dX4_isHeld_29 (by decide) ?_
        refine lv_goto (tgt := 34) hx hb dX4_isHeld_30 (by decide) ?_
        refine lv_istore_n (lv' := [(3, .int 1), (0, .ref (q 0)), (1, .int p1), (2, .int p2)]) hx hb dX4_isHeld_34 rfl hl (by decide) rfl (fun ls hl => ?_)
        refine lv_iconst (v := 0) hx hb dX4_isHeld_35 (by decide) ?_
        refine lv_istore (lv' := [(4, .int 0), (3, .int 1), (0, .ref (q 0)), (1, .int p1), (2, .int p2)]) hx hb dX4_isHeld_36 hl (by decide) rfl (fun ls hl => ?_)
        exact wk_X4_isHeld_38 X hP F 1 0 ls _ (lv_sub hl [2, 3, 4, 1, 0] rfl) hS h
set_option maxHeartbeats 4000000 in
set_option maxRecDepth 100000 in
theorem c_X4_isHealed (l : Launch) (D : va_G) (cI cG : ClassId) (q : Nat → Nat) (S : St) (H : Heap) (p1 p2 : Int32) {r : Int32} (h : m_X4_isHealed S p1 p2 = some r) : RoM l yX4_isHealed cX4_isHealed 3 (some .boolean) 0 0 [.ref (q 0), .int p1, .int p2] D cI cG (wM cI cG q S) H r := by
  refine RoM.of (own := RX4) (by decide) rfl (Nat.le_of_ble_eq_true rfl) ?_
  intro p e s m args below meth c ls X hP hS hl0
  have hl : lv_has ls 3 [(0, .ref (q 0)), (1, .int p1), (2, .int p2)] := hl0 _ (lv_entry [.ref (q 0), .int p1, .int p2] (n := 3) (Nat.le_of_ble_eq_true rfl))
  have hx := X.1
  have hb := X.2.1
  rw [m_X4_isHealed] at h
  refine lv_aload_n hx hb dX4_isHealed_0 rfl (lv_at hl 0 rfl) ?_
  refine gf_X4_104 X hP dX4_isHealed_1 ?_
  refine lv_iload_n hx hb dX4_isHealed_4 rfl (lv_at hl 1 rfl) ?_
  refine lv_ishr hx hb dX4_isHealed_5 ?_
  refine lv_iconst (v := 1) hx hb dX4_isHealed_6 (by decide) ?_
  refine lv_iand hx hb dX4_isHealed_7 ?_
  refine lv_iconst (v := 1) hx hb dX4_isHealed_8 (by decide) ?_
  refine lv_icmp_eq (tgt := 31) hx hb dX4_isHealed_9 (by decide) (fun c1 => ?_) (fun c1 => ?_)
  · have h := tt_some h c1
    refine lv_iconst (v := 1) hx hb dX4_isHealed_31 (by decide) ?_
    refine lv_goto (tgt := 36) hx hb dX4_isHealed_32 (by decide) ?_
    exact ro_retz X hS h rfl dX4_isHealed_36
  · have h := ff_some h c1
    refine lv_aload_n hx hb dX4_isHealed_12 rfl (lv_at hl 0 rfl) ?_
    refine gf_X4_28 X hP dX4_isHealed_13 ?_
    refine lv_iload_n hx hb dX4_isHealed_16 rfl (lv_at hl 1 rfl) ?_
    obtain ⟨hi2, h⟩ := gd_some h
    refine ro_ald X hP 7 wM_7 hi2 dX4_isHealed_17 ?_
    refine lv_if_lt (tgt := 35) hx hb dX4_isHealed_18 (by decide) (fun c3 => ?_) (fun c3 => ?_)
    · have h := tt_some h c3
      refine lv_iconst (v := 0) hx hb dX4_isHealed_35 (by decide) ?_
      exact ro_retz X hS h rfl dX4_isHealed_36
    · have h := ff_some h c3
      refine lv_aload_n hx hb dX4_isHealed_21 rfl (lv_at hl 0 rfl) ?_
      refine gf_X4_28 X hP dX4_isHealed_22 ?_
      refine lv_iload_n hx hb dX4_isHealed_25 rfl (lv_at hl 1 rfl) ?_
      obtain ⟨hi4, h⟩ := gd_some h
      refine ro_ald X hP 7 wM_7 hi4 dX4_isHealed_26 ?_
      refine lv_iload_n hx hb dX4_isHealed_27 rfl (lv_at hl 2 rfl) ?_
      refine lv_icmp_gt (tgt := 35) hx hb dX4_isHealed_28 (by decide) (fun c5 => ?_) (fun c5 => ?_)
      · have h := tt_some h c5
        refine lv_iconst (v := 0) hx hb dX4_isHealed_35 (by decide) ?_
        exact ro_retz X hS h rfl dX4_isHealed_36
      · have h := ff_some h c5
        refine lv_iconst (v := 1) hx hb dX4_isHealed_31 (by decide) ?_
        refine lv_goto (tgt := 36) hx hb dX4_isHealed_32 (by decide) ?_
        exact ro_retz X hS h rfl dX4_isHealed_36
set_option maxHeartbeats 4000000 in
set_option maxRecDepth 100000 in
theorem wk_X4_wouldCount_51 {p : Program} {l : Launch} {e : Env} {s : State} {m : MethodId} {args : Array Value} {below : List Frame} {meth : Method} {c : Code} {D : va_G} {cI cG : ClassId} {q : Nat → Nat} {S : St} {H : Heap} {r : Int32} {p1 p2 p3 : Int32}  (X : Cx p s m args meth c cX4_wouldCount 6 (some .boolean) RX4 D cI cG) (hP : va_P D vwCl (wM cI cG q S) H)  : ∀ (t0 : Int32) (ls : Array Slot) (locs : List Loc), lv_has ls 6 [(0, .ref (q 0)), (1, .int p1), (3, .int p3)] → va_S no s.heap H locs → m_X4_wouldCount_51 S p1 p2 p3 t0 = some r → W p l e { frames := 1, cells := 0, slots := 0, locals := 25 } s m args below meth c H locs 0 0 (MQ below (roQ H r) args s 0 0 no) (F0 m 51 ls [.int t0]) := by
  have hx := X.1
  have hb := X.2.1
  intro t0 ls locs hl hS h
  rw [m_X4_wouldCount_51] at h
  refine lv_istore (lv' := [(5, .int t0), (0, .ref (q 0)), (1, .int p1), (3, .int p3)]) hx hb dX4_wouldCount_51 hl (by decide) rfl (fun ls hl => ?_)
  refine lv_iload hx hb dX4_wouldCount_53 (lv_at hl 0 rfl) ?_
  refine lv_if_eq (tgt := 100) hx hb dX4_wouldCount_55 (by decide) (fun c10 => ?_) (fun c10 => ?_)
  · have h := tt_some h c10
    refine lv_iconst (v := 0) hx hb dX4_wouldCount_100 (by decide) ?_
    exact ro_retz X hS h rfl dX4_wouldCount_101
  · have h := ff_some h c10
    refine lv_iload_n hx hb dX4_wouldCount_58 rfl (lv_at hl 3 rfl) ?_
    refine lv_i2l (v := Int32.toInt64 p3) hx hb dX4_wouldCount_59 rfl ?_
    refine lv_aload_n hx hb dX4_wouldCount_60 rfl (lv_at hl 1 rfl) ?_
    refine gf_X4_7 X hP dX4_wouldCount_61 ?_
    refine lv_iload_n hx hb dX4_wouldCount_64 rfl (lv_at hl 2 rfl) ?_
    obtain ⟨hi11, h⟩ := gd_some h
    refine ro_ald X hP 1 wM_1 hi11 dX4_wouldCount_65 ?_
    refine lv_i2l (v := Int32.toInt64 (S 1 (ix p1))) hx hb dX4_wouldCount_66 rfl ?_
    refine lv_aload_n hx hb dX4_wouldCount_67 rfl (lv_at hl 1 rfl) ?_
    refine gf_X4_7 X hP dX4_wouldCount_68 ?_
    refine lv_iload_n hx hb dX4_wouldCount_71 rfl (lv_at hl 2 rfl) ?_
    obtain ⟨hi12, h⟩ := gd_some h
    refine ro_ald X hP 1 wM_1 hi12 dX4_wouldCount_72 ?_
    refine lv_aload_n hx hb dX4_wouldCount_73 rfl (lv_at hl 1 rfl) ?_
    refine gf_X4_25 X hP dX4_wouldCount_74 ?_
    refine lv_iload_n hx hb dX4_wouldCount_77 rfl (lv_at hl 2 rfl) ?_
    obtain ⟨hi13, h⟩ := gd_some h
    refine ro_ald X hP 6 wM_6 hi13 dX4_wouldCount_78 ?_
    refine lv_iadd hx hb dX4_wouldCount_79 ?_
    refine lv_i2l (v := Int32.toInt64 ((S 1 (ix p1)) + (S 6 (ix p1)))) hx hb dX4_wouldCount_80 rfl ?_
    obtain ⟨r14, er14, h⟩ := bd_some h
    refine ro_S (As := [.long (Int32.toInt64 p3), .long (Int32.toInt64 (S 1 (ix p1))), .long (Int32.toInt64 ((S 1 (ix p1)) + (S 6 (ix p1))))]) (rest := []) X hP hS hl.1 (c_X4_in l D cI cG _ _ (Int32.toInt64 p3) (Int32.toInt64 (S 1 (ix p1))) (Int32.toInt64 ((S 1 (ix p1)) + (S 6 (ix p1)))) er14) lk_X4_55 ⟨by decide, by decide⟩ rfl rfl (Nat.le_of_ble_eq_true rfl) dX4_wouldCount_81 ⟨Nat.le_refl _, Nat.le_refl _⟩ (fun locs hS => ?_)
    refine lv_if_eq (tgt := 100) hx hb dX4_wouldCount_84 (by decide) (fun c15 => ?_) (fun c15 => ?_)
    · have h := tt_some h c15
      refine lv_iconst (v := 0) hx hb dX4_wouldCount_100 (by decide) ?_
      exact ro_retz X hS h rfl dX4_wouldCount_101
    · have h := ff_some h c15
      refine lv_aload_n hx hb dX4_wouldCount_87 rfl (lv_at hl 1 rfl) ?_
      refine lv_iload_n hx hb dX4_wouldCount_88 rfl (lv_at hl 2 rfl) ?_
      refine lv_iload_n hx hb dX4_wouldCount_89 rfl (lv_at hl 3 rfl) ?_
      obtain ⟨r16, er16, h⟩ := bd_some h
      refine ro_V (As := [.int p1, .int p3]) (rest := []) X hP hS hl.1 (c_X4_isHealed l D cI cG q S _ p1 p3 er16) lk_X4_107 (rc_X4_X4 X hP) ⟨by decide, by decide⟩ rfl rfl (Nat.le_of_ble_eq_true rfl) dX4_wouldCount_90 ⟨Nat.le_refl _, Nat.le_refl _⟩ (fun locs hS => ?_)
      refine lv_if_ne (tgt := 100) hx hb dX4_wouldCount_93 (by decide) (fun c17 => ?_) (fun c17 => ?_)
      · have h := ff_some h c17
        refine lv_iconst (v := 0) hx hb dX4_wouldCount_100 (by decide) ?_
        exact ro_retz X hS h rfl dX4_wouldCount_101
      · have h := tt_some h c17
        refine lv_iconst (v := 1) hx hb dX4_wouldCount_96 (by decide) ?_
        refine lv_goto (tgt := 101) hx hb dX4_wouldCount_97 (by decide) ?_
        exact ro_retz X hS h rfl dX4_wouldCount_101
set_option maxHeartbeats 4000000 in
set_option maxRecDepth 100000 in
theorem wk_X4_wouldCount_46 {p : Program} {l : Launch} {e : Env} {s : State} {m : MethodId} {args : Array Value} {below : List Frame} {meth : Method} {c : Code} {D : va_G} {cI cG : ClassId} {q : Nat → Nat} {S : St} {H : Heap} {r : Int32} {p1 p2 p3 : Int32}  (X : Cx p s m args meth c cX4_wouldCount 6 (some .boolean) RX4 D cI cG) (hP : va_P D vwCl (wM cI cG q S) H)  : ∀ (ls : Array Slot) (locs : List Loc), lv_has ls 6 [(0, .ref (q 0)), (1, .int p1), (3, .int p3)] → va_S no s.heap H locs → m_X4_wouldCount_46 S p1 p2 p3  = some r → W p l e { frames := 1, cells := 0, slots := 0, locals := 25 } s m args below meth c H locs 0 0 (MQ below (roQ H r) args s 0 0 no) (F0 m 46 ls []) := by
  have hx := X.1
  have hb := X.2.1
  intro ls locs hl hS h
  rw [m_X4_wouldCount_46] at h
  refine lv_iconst (v := 1) hx hb dX4_wouldCount_46 (by decide) ?_
  refine lv_goto (tgt := 51) hx hb dX4_wouldCount_47 (by decide) ?_
  exact wk_X4_wouldCount_51 X hP 1 ls _ (lv_sub hl [0, 1, 2] rfl) hS h
set_option maxHeartbeats 4000000 in
set_option maxRecDepth 100000 in
theorem wk_X4_wouldCount_50 {p : Program} {l : Launch} {e : Env} {s : State} {m : MethodId} {args : Array Value} {below : List Frame} {meth : Method} {c : Code} {D : va_G} {cI cG : ClassId} {q : Nat → Nat} {S : St} {H : Heap} {r : Int32} {p1 p2 p3 : Int32}  (X : Cx p s m args meth c cX4_wouldCount 6 (some .boolean) RX4 D cI cG) (hP : va_P D vwCl (wM cI cG q S) H)  : ∀ (ls : Array Slot) (locs : List Loc), lv_has ls 6 [(0, .ref (q 0)), (1, .int p1), (3, .int p3)] → va_S no s.heap H locs → m_X4_wouldCount_50 S p1 p2 p3  = some r → W p l e { frames := 1, cells := 0, slots := 0, locals := 25 } s m args below meth c H locs 0 0 (MQ below (roQ H r) args s 0 0 no) (F0 m 50 ls []) := by
  have hx := X.1
  have hb := X.2.1
  intro ls locs hl hS h
  rw [m_X4_wouldCount_50] at h
  refine lv_iconst (v := 0) hx hb dX4_wouldCount_50 (by decide) ?_
  exact wk_X4_wouldCount_51 X hP 0 ls _ (lv_sub hl [0, 1, 2] rfl) hS h
set_option maxHeartbeats 4000000 in
set_option maxRecDepth 100000 in
theorem wk_X4_wouldCount_30 {p : Program} {l : Launch} {e : Env} {s : State} {m : MethodId} {args : Array Value} {below : List Frame} {meth : Method} {c : Code} {D : va_G} {cI cG : ClassId} {q : Nat → Nat} {S : St} {H : Heap} {r : Int32} {p1 p2 p3 : Int32}  (X : Cx p s m args meth c cX4_wouldCount 6 (some .boolean) RX4 D cI cG) (hP : va_P D vwCl (wM cI cG q S) H)  : ∀ (x4 : Int32) (ls : Array Slot) (locs : List Loc), lv_has ls 6 [(0, .ref (q 0)), (1, .int p1), (2, .int p2), (3, .int p3), (4, .int x4)] → va_S no s.heap H locs → m_X4_wouldCount_30 S p1 p2 p3 x4 = some r → W p l e { frames := 1, cells := 0, slots := 0, locals := 25 } s m args below meth c H locs 0 0 (MQ below (roQ H r) args s 0 0 no) (F0 m 30 ls []) := by
  have hx := X.1
  have hb := X.2.1
  intro x4 ls locs hl hS h
  rw [m_X4_wouldCount_30] at h
  refine lv_iload hx hb dX4_wouldCount_30 (lv_at hl 4 rfl) ?_
  refine lv_iconst (v := 3) hx hb dX4_wouldCount_32 (by decide) ?_
  refine lv_icmp_ne (tgt := 50) hx hb dX4_wouldCount_33 (by decide) (fun c7 => ?_) (fun c7 => ?_)
  · have h := ff_some h c7
    exact wk_X4_wouldCount_50 X hP  ls _ (lv_sub hl [0, 1, 3] rfl) hS h
  · have h := tt_some h c7
    refine lv_aload_n hx hb dX4_wouldCount_36 rfl (lv_at hl 0 rfl) ?_
    refine gf_X4_16 X hP dX4_wouldCount_37 ?_
    refine lv_iload_n hx hb dX4_wouldCount_40 rfl (lv_at hl 1 rfl) ?_
    obtain ⟨hi8, h⟩ := gd_some h
    refine ro_ald X hP 3 wM_3 hi8 dX4_wouldCount_41 ?_
    refine lv_iload_n hx hb dX4_wouldCount_42 rfl (lv_at hl 2 rfl) ?_
    refine lv_icmp_ne (tgt := 50) hx hb dX4_wouldCount_43 (by decide) (fun c9 => ?_) (fun c9 => ?_)
    · have h := ff_some h c9
      exact wk_X4_wouldCount_50 X hP  ls _ (lv_sub hl [0, 1, 3] rfl) hS h
    · have h := tt_some h c9
      exact wk_X4_wouldCount_46 X hP  ls _ (lv_sub hl [0, 1, 3] rfl) hS h
set_option maxHeartbeats 4000000 in
set_option maxRecDepth 100000 in
theorem c_X4_wouldCount (l : Launch) (D : va_G) (cI cG : ClassId) (q : Nat → Nat) (S : St) (H : Heap) (p1 p2 p3 : Int32) {r : Int32} (h : m_X4_wouldCount S p1 p2 p3 = some r) : RoM l yX4_wouldCount cX4_wouldCount 6 (some .boolean) 1 25 [.ref (q 0), .int p1, .int p2, .int p3] D cI cG (wM cI cG q S) H r := by
  refine RoM.of (own := RX4) (by decide) rfl (Nat.le_of_ble_eq_true rfl) ?_
  intro p e s m args below meth c ls X hP hS hl0
  have hl : lv_has ls 6 [(0, .ref (q 0)), (1, .int p1), (2, .int p2), (3, .int p3)] := hl0 _ (lv_entry [.ref (q 0), .int p1, .int p2, .int p3] (n := 6) (Nat.le_of_ble_eq_true rfl))
  have hx := X.1
  have hb := X.2.1
  rw [m_X4_wouldCount] at h
  refine lv_aload_n hx hb dX4_wouldCount_0 rfl (lv_at hl 0 rfl) ?_
  refine gf_X4_22 X hP dX4_wouldCount_1 ?_
  refine lv_iload_n hx hb dX4_wouldCount_4 rfl (lv_at hl 1 rfl) ?_
  obtain ⟨hi1, h⟩ := gd_some h
  refine ro_ald X hP 5 wM_5 hi1 dX4_wouldCount_5 ?_
  refine lv_topi (fun v2 ev2 => ?_)
  have h := nm_some h ev2
  refine lv_istore (lv' := [(4, .int v2), (0, .ref (q 0)), (1, .int p1), (2, .int p2), (3, .int p3)]) hx hb dX4_wouldCount_6 hl (by decide) rfl (fun ls hl => ?_)
  refine lv_iload hx hb dX4_wouldCount_8 (lv_at hl 0 rfl) ?_
  refine lv_iconst (v := 4) hx hb dX4_wouldCount_10 (by decide) ?_
  refine lv_icmp_eq (tgt := 46) hx hb dX4_wouldCount_11 (by decide) (fun c3 => ?_) (fun c3 => ?_)
  · have h := tt_some h c3
    exact wk_X4_wouldCount_46 X hP  ls _ (lv_sub hl [1, 2, 4] rfl) hS h
  · have h := ff_some h c3
    refine lv_iload hx hb dX4_wouldCount_14 (lv_at hl 0 rfl) ?_
    refine lv_iconst (v := 2) hx hb dX4_wouldCount_16 (by decide) ?_
    refine lv_icmp_ne (tgt := 30) hx hb dX4_wouldCount_17 (by decide) (fun c4 => ?_) (fun c4 => ?_)
    · have h := ff_some h c4
      exact wk_X4_wouldCount_30 X hP v2 ls _ (lv_sub hl [1, 2, 3, 4, 0] rfl) hS h
    · have h := tt_some h c4
      refine lv_aload_n hx hb dX4_wouldCount_20 rfl (lv_at hl 1 rfl) ?_
      refine gf_X4_13 X hP dX4_wouldCount_21 ?_
      refine lv_iload_n hx hb dX4_wouldCount_24 rfl (lv_at hl 2 rfl) ?_
      obtain ⟨hi5, h⟩ := gd_some h
      refine ro_ald X hP 2 wM_2 hi5 dX4_wouldCount_25 ?_
      refine lv_iload_n hx hb dX4_wouldCount_26 rfl (lv_at hl 3 rfl) ?_
      refine lv_icmp_eq (tgt := 46) hx hb dX4_wouldCount_27 (by decide) (fun c6 => ?_) (fun c6 => ?_)
      · have h := tt_some h c6
        exact wk_X4_wouldCount_46 X hP  ls _ (lv_sub hl [1, 2, 4] rfl) hS h
      · have h := ff_some h c6
        exact wk_X4_wouldCount_30 X hP v2 ls _ (lv_sub hl [1, 2, 3, 4, 0] rfl) hS h
set_option maxHeartbeats 4000000 in
set_option maxRecDepth 100000 in
theorem c_X4_counts (l : Launch) (D : va_G) (cI cG : ClassId) (q : Nat → Nat) (S : St) (H : Heap) (p1 : Int32) {r : Int32} (h : m_X4_counts S p1 = some r) : RoM l yX4_counts cX4_counts 2 (some .int) 2 50 [.ref (q 0), .int p1] D cI cG (wM cI cG q S) H r := by
  refine RoM.of (own := RX4) (by decide) rfl (Nat.le_of_ble_eq_true rfl) ?_
  intro p e s m args below meth c ls X hP hS hl0
  have hl : lv_has ls 2 [(0, .ref (q 0)), (1, .int p1)] := hl0 _ (lv_entry [.ref (q 0), .int p1] (n := 2) (Nat.le_of_ble_eq_true rfl))
  have hx := X.1
  have hb := X.2.1
  rw [m_X4_counts] at h
  refine lv_iload_n hx hb dX4_counts_0 rfl (lv_at hl 1 rfl) ?_
  refine lv_i2l (v := Int32.toInt64 p1) hx hb dX4_counts_1 rfl ?_
  refine lv_lconst (v := 0) hx hb dX4_counts_2 (by decide) ?_
  refine lv_aload_n hx hb dX4_counts_3 rfl (lv_at hl 0 rfl) ?_
  refine gf_X4_101 X hP dX4_counts_4 ?_
  refine lv_iconst (v := 1) hx hb dX4_counts_7 (by decide) ?_
  refine lv_isub hx hb dX4_counts_8 ?_
  refine lv_i2l (v := Int32.toInt64 ((S 0 5) - 1)) hx hb dX4_counts_9 rfl ?_
  obtain ⟨r1, er1, h⟩ := bd_some h
  refine ro_S (As := [.long (Int32.toInt64 p1), .long 0, .long (Int32.toInt64 ((S 0 5) - 1))]) (rest := []) X hP hS hl.1 (c_X4_in l D cI cG _ _ (Int32.toInt64 p1) 0 (Int32.toInt64 ((S 0 5) - 1)) er1) lk_X4_55 ⟨by decide, by decide⟩ rfl rfl (Nat.le_of_ble_eq_true rfl) dX4_counts_10 ⟨Nat.le_refl _, Nat.le_refl _⟩ (fun locs hS => ?_)
  refine lv_if_ne (tgt := 18) hx hb dX4_counts_13 (by decide) (fun c2 => ?_) (fun c2 => ?_)
  · have h := ff_some h c2
    refine lv_aload_n hx hb dX4_counts_18 rfl (lv_at hl 0 rfl) ?_
    refine lv_aload_n hx hb dX4_counts_19 rfl (lv_at hl 0 rfl) ?_
    refine gf_X4_40 X hP dX4_counts_20 ?_
    refine lv_iload_n hx hb dX4_counts_23 rfl (lv_at hl 1 rfl) ?_
    obtain ⟨hi3, h⟩ := gd_some h
    refine ro_ald X hP 11 wM_11 hi3 dX4_counts_24 ?_
    refine lv_aload_n hx hb dX4_counts_25 rfl (lv_at hl 0 rfl) ?_
    refine gf_X4_43 X hP dX4_counts_26 ?_
    refine lv_iload_n hx hb dX4_counts_29 rfl (lv_at hl 1 rfl) ?_
    obtain ⟨hi4, h⟩ := gd_some h
    refine ro_ald X hP 12 wM_12 hi4 dX4_counts_30 ?_
    refine lv_aload_n hx hb dX4_counts_31 rfl (lv_at hl 0 rfl) ?_
    refine gf_X4_46 X hP dX4_counts_32 ?_
    refine lv_iload_n hx hb dX4_counts_35 rfl (lv_at hl 1 rfl) ?_
    obtain ⟨hi5, h⟩ := gd_some h
    refine ro_ald X hP 13 wM_13 hi5 dX4_counts_36 ?_
    obtain ⟨r6, er6, h⟩ := bd_some h
    refine ro_V (As := [.int (S 11 (ix p1)), .int (S 12 (ix p1)), .int (S 13 (ix p1))]) (rest := []) X hP hS hl.1 (c_X4_wouldCount l D cI cG q S _ (S 11 (ix p1)) (S 12 (ix p1)) (S 13 (ix p1)) er6) lk_X4_111 (rc_X4_X4 X hP) ⟨by decide, by decide⟩ rfl rfl (Nat.le_of_ble_eq_true rfl) dX4_counts_37 ⟨Nat.le_refl _, Nat.le_refl _⟩ (fun locs hS => ?_)
    refine lv_if_eq (tgt := 47) hx hb dX4_counts_40 (by decide) (fun c7 => ?_) (fun c7 => ?_)
    · have h := tt_some h c7
      refine lv_iconst (v := 0) hx hb dX4_counts_47 (by decide) ?_
      exact ro_ret X hS h dX4_counts_48
    · have h := ff_some h c7
      refine lv_iconst (v := 1) hx hb dX4_counts_43 (by decide) ?_
      refine lv_goto (tgt := 48) hx hb dX4_counts_44 (by decide) ?_
      exact ro_ret X hS h dX4_counts_48
  · have h := tt_some h c2
    refine lv_iconst (v := (-1 : Int32)) hx hb dX4_counts_16 (by decide) ?_
    exact ro_ret X hS h dX4_counts_17
set_option maxHeartbeats 4000000 in
set_option maxRecDepth 100000 in
theorem wk_X4_isAsked_21 {p : Program} {l : Launch} {e : Env} {s : State} {m : MethodId} {args : Array Value} {below : List Frame} {meth : Method} {c : Code} {D : va_G} {cI cG : ClassId} {q : Nat → Nat} {S : St} {H : Heap} {r : Int32} {F : Nat} {p1 p2 : Int32}  (X : Cx p s m args meth c cX4_isAsked 5 (some .boolean) RX4 D cI cG) (hP : va_P D vwCl (wM cI cG q S) H)  : ∀ (n : Nat) (x3 : Int32) (x4 : Int32) (ls : Array Slot) (locs : List Loc), lv_has ls 5 [(0, .ref (q 0)), (1, .int p1), (2, .int p2), (3, .int x3), (4, .int x4)] → va_S no s.heap H locs → m_X4_isAsked_21 F S p1 p2 n x3 x4 = some r → W p l e { frames := 2, cells := 0, slots := 0, locals := 50 } s m args below meth c H locs 0 0 (MQ below (roQ H r) args s 0 0 no) (F0 m 21 ls []) := by
  have hx := X.1
  have hb := X.2.1
  intro n
  induction n with
  | zero =>
    intro x3 x4 ls locs hl hS h
    exact no_none (show none = some r from h)
  | succ n ih =>
    intro x3 x4 ls locs hl hS h
    rw [m_X4_isAsked_21] at h
    refine lv_iload hx hb dX4_isAsked_21 (lv_at hl 4 rfl) ?_
    refine lv_aload_n hx hb dX4_isAsked_23 rfl (lv_at hl 0 rfl) ?_
    refine gf_X4_101 X hP dX4_isAsked_24 ?_
    refine lv_icmp_ge (tgt := 90) hx hb dX4_isAsked_27 (by decide) (fun c2 => ?_) (fun c2 => ?_)
    · have h := tt_some h c2
      refine lv_iload_n hx hb dX4_isAsked_90 rfl (lv_at hl 3 rfl) ?_
      obtain ⟨hz3, h⟩ := gd_some h
      exact ro_retz X hS h (bz_n hz3) dX4_isAsked_91
    · have h := ff_some h c2
      refine lv_iload_n hx hb dX4_isAsked_30 rfl (lv_at hl 3 rfl) ?_
      refine lv_if_ne (tgt := 78) hx hb dX4_isAsked_31 (by decide) (fun c4 => ?_) (fun c4 => ?_)
      · have h := ff_some h c4
        refine lv_iconst (v := 1) hx hb dX4_isAsked_78 (by decide) ?_
        refine lv_goto (tgt := 83) hx hb dX4_isAsked_79 (by decide) ?_
        refine lv_istore_n (lv' := [(3, .int 1), (0, .ref (q 0)), (1, .int p1), (2, .int p2), (4, .int x4)]) hx hb dX4_isAsked_83 rfl hl (by decide) rfl (fun ls hl => ?_)
        obtain ⟨v5, ev5⟩ : ∃ y : Int32, y = x4 + 1 := ⟨_, rfl⟩
        have h := nm_some h ev5
        refine lv_iinc (v := v5) (lv' := [(4, .int v5), (3, .int 1), (0, .ref (q 0)), (1, .int p1), (2, .int p2)]) hx hb dX4_isAsked_84 hl (k := 4) rfl (by rw [ev5]; rfl) (by decide) rfl (fun ls hl => ?_)
        refine lv_goto (tgt := 21) hx hb dX4_isAsked_87 (by decide) ?_
        exact ih 1 v5 ls _ (lv_sub hl [2, 3, 4, 1, 0] rfl) hS h
      · have h := tt_some h c4
        refine lv_aload_n hx hb dX4_isAsked_34 rfl (lv_at hl 0 rfl) ?_
        refine gf_X4_40 X hP dX4_isAsked_35 ?_
        refine lv_iload hx hb dX4_isAsked_38 (lv_at hl 4 rfl) ?_
        obtain ⟨hi6, h⟩ := gd_some h
        refine ro_ald X hP 11 wM_11 hi6 dX4_isAsked_40 ?_
        refine lv_iload_n hx hb dX4_isAsked_41 rfl (lv_at hl 1 rfl) ?_
        refine lv_icmp_ne (tgt := 82) hx hb dX4_isAsked_42 (by decide) (fun c7 => ?_) (fun c7 => ?_)
        · have h := ff_some h c7
          refine lv_iconst (v := 0) hx hb dX4_isAsked_82 (by decide) ?_
          refine lv_istore_n (lv' := [(3, .int 0), (0, .ref (q 0)), (1, .int p1), (2, .int p2), (4, .int x4)]) hx hb dX4_isAsked_83 rfl hl (by decide) rfl (fun ls hl => ?_)
          obtain ⟨v8, ev8⟩ : ∃ y : Int32, y = x4 + 1 := ⟨_, rfl⟩
          have h := nm_some h ev8
          refine lv_iinc (v := v8) (lv' := [(4, .int v8), (3, .int 0), (0, .ref (q 0)), (1, .int p1), (2, .int p2)]) hx hb dX4_isAsked_84 hl (k := 4) rfl (by rw [ev8]; rfl) (by decide) rfl (fun ls hl => ?_)
          refine lv_goto (tgt := 21) hx hb dX4_isAsked_87 (by decide) ?_
          exact ih 0 v8 ls _ (lv_sub hl [2, 3, 4, 1, 0] rfl) hS h
        · have h := tt_some h c7
          refine lv_aload_n hx hb dX4_isAsked_45 rfl (lv_at hl 0 rfl) ?_
          refine gf_X4_46 X hP dX4_isAsked_46 ?_
          refine lv_iload hx hb dX4_isAsked_49 (lv_at hl 4 rfl) ?_
          obtain ⟨hi9, h⟩ := gd_some h
          refine ro_ald X hP 13 wM_13 hi9 dX4_isAsked_51 ?_
          refine lv_iload_n hx hb dX4_isAsked_52 rfl (lv_at hl 2 rfl) ?_
          refine lv_icmp_gt (tgt := 82) hx hb dX4_isAsked_53 (by decide) (fun c10 => ?_) (fun c10 => ?_)
          · have h := tt_some h c10
            refine lv_iconst (v := 0) hx hb dX4_isAsked_82 (by decide) ?_
            refine lv_istore_n (lv' := [(3, .int 0), (0, .ref (q 0)), (1, .int p1), (2, .int p2), (4, .int x4)]) hx hb dX4_isAsked_83 rfl hl (by decide) rfl (fun ls hl => ?_)
            obtain ⟨v11, ev11⟩ : ∃ y : Int32, y = x4 + 1 := ⟨_, rfl⟩
            have h := nm_some h ev11
            refine lv_iinc (v := v11) (lv' := [(4, .int v11), (3, .int 0), (0, .ref (q 0)), (1, .int p1), (2, .int p2)]) hx hb dX4_isAsked_84 hl (k := 4) rfl (by rw [ev11]; rfl) (by decide) rfl (fun ls hl => ?_)
            refine lv_goto (tgt := 21) hx hb dX4_isAsked_87 (by decide) ?_
            exact ih 0 v11 ls _ (lv_sub hl [2, 3, 4, 1, 0] rfl) hS h
          · have h := ff_some h c10
            refine lv_aload_n hx hb dX4_isAsked_56 rfl (lv_at hl 0 rfl) ?_
            refine lv_iload_n hx hb dX4_isAsked_57 rfl (lv_at hl 1 rfl) ?_
            refine lv_aload_n hx hb dX4_isAsked_58 rfl (lv_at hl 0 rfl) ?_
            refine gf_X4_43 X hP dX4_isAsked_59 ?_
            refine lv_iload hx hb dX4_isAsked_62 (lv_at hl 4 rfl) ?_
            obtain ⟨hi12, h⟩ := gd_some h
            refine ro_ald X hP 12 wM_12 hi12 dX4_isAsked_64 ?_
            refine lv_aload_n hx hb dX4_isAsked_65 rfl (lv_at hl 0 rfl) ?_
            refine gf_X4_46 X hP dX4_isAsked_66 ?_
            refine lv_iload hx hb dX4_isAsked_69 (lv_at hl 4 rfl) ?_
            obtain ⟨hi13, h⟩ := gd_some h
            refine ro_ald X hP 13 wM_13 hi13 dX4_isAsked_71 ?_
            obtain ⟨r14, er14, h⟩ := bd_some h
            refine ro_V (As := [.int p1, .int (S 12 (ix x4)), .int (S 13 (ix x4))]) (rest := []) X hP hS hl.1 (c_X4_wouldCount l D cI cG q S _ p1 (S 12 (ix x4)) (S 13 (ix x4)) er14) lk_X4_111 (rc_X4_X4 X hP) ⟨by decide, by decide⟩ rfl rfl (Nat.le_of_ble_eq_true rfl) dX4_isAsked_72 ⟨Nat.le_refl _, Nat.le_refl _⟩ (fun locs hS => ?_)
            refine lv_if_eq (tgt := 82) hx hb dX4_isAsked_75 (by decide) (fun c15 => ?_) (fun c15 => ?_)
            · have h := tt_some h c15
              refine lv_iconst (v := 0) hx hb dX4_isAsked_82 (by decide) ?_
              refine lv_istore_n (lv' := [(3, .int 0), (0, .ref (q 0)), (1, .int p1), (2, .int p2), (4, .int x4)]) hx hb dX4_isAsked_83 rfl hl (by decide) rfl (fun ls hl => ?_)
              obtain ⟨v16, ev16⟩ : ∃ y : Int32, y = x4 + 1 := ⟨_, rfl⟩
              have h := nm_some h ev16
              refine lv_iinc (v := v16) (lv' := [(4, .int v16), (3, .int 0), (0, .ref (q 0)), (1, .int p1), (2, .int p2)]) hx hb dX4_isAsked_84 hl (k := 4) rfl (by rw [ev16]; rfl) (by decide) rfl (fun ls hl => ?_)
              refine lv_goto (tgt := 21) hx hb dX4_isAsked_87 (by decide) ?_
              exact ih 0 v16 ls _ (lv_sub hl [2, 3, 4, 1, 0] rfl) hS h
            · have h := ff_some h c15
              refine lv_iconst (v := 1) hx hb dX4_isAsked_78 (by decide) ?_
              refine lv_goto (tgt := 83) hx hb dX4_isAsked_79 (by decide) ?_
              refine lv_istore_n (lv' := [(3, .int 1), (0, .ref (q 0)), (1, .int p1), (2, .int p2), (4, .int x4)]) hx hb dX4_isAsked_83 rfl hl (by decide) rfl (fun ls hl => ?_)
              obtain ⟨v17, ev17⟩ : ∃ y : Int32, y = x4 + 1 := ⟨_, rfl⟩
              have h := nm_some h ev17
              refine lv_iinc (v := v17) (lv' := [(4, .int v17), (3, .int 1), (0, .ref (q 0)), (1, .int p1), (2, .int p2)]) hx hb dX4_isAsked_84 hl (k := 4) rfl (by rw [ev17]; rfl) (by decide) rfl (fun ls hl => ?_)
              refine lv_goto (tgt := 21) hx hb dX4_isAsked_87 (by decide) ?_
              exact ih 1 v17 ls _ (lv_sub hl [2, 3, 4, 1, 0] rfl) hS h
set_option maxHeartbeats 4000000 in
set_option maxRecDepth 100000 in
theorem c_X4_isAsked (l : Launch) (D : va_G) (cI cG : ClassId) (q : Nat → Nat) (S : St) (H : Heap) (F : Nat) (p1 p2 : Int32) {r : Int32} (h : m_X4_isAsked F S p1 p2 = some r) : RoM l yX4_isAsked cX4_isAsked 5 (some .boolean) 2 50 [.ref (q 0), .int p1, .int p2] D cI cG (wM cI cG q S) H r := by
  refine RoM.of (own := RX4) (by decide) rfl (Nat.le_of_ble_eq_true rfl) ?_
  intro p e s m args below meth c ls X hP hS hl0
  have hl : lv_has ls 5 [(0, .ref (q 0)), (1, .int p1), (2, .int p2)] := hl0 _ (lv_entry [.ref (q 0), .int p1, .int p2] (n := 5) (Nat.le_of_ble_eq_true rfl))
  have hx := X.1
  have hb := X.2.1
  rw [m_X4_isAsked] at h
  refine lv_aload_n hx hb dX4_isAsked_0 rfl (lv_at hl 0 rfl) ?_
  refine gf_X4_115 X hP dX4_isAsked_1 ?_
  refine lv_iload_n hx hb dX4_isAsked_4 rfl (lv_at hl 1 rfl) ?_
  refine lv_ishr hx hb dX4_isAsked_5 ?_
  refine lv_iconst (v := 1) hx hb dX4_isAsked_6 (by decide) ?_
  refine lv_iand hx hb dX4_isAsked_7 ?_
  refine lv_iconst (v := 1) hx hb dX4_isAsked_8 (by decide) ?_
  refine lv_icmp_ne (tgt := 16) hx hb dX4_isAsked_9 (by decide) (fun c1 => ?_) (fun c1 => ?_)
  · have h := ff_some h c1
    refine lv_iconst (v := 0) hx hb dX4_isAsked_16 (by decide) ?_
    refine lv_istore_n (lv' := [(3, .int 0), (0, .ref (q 0)), (1, .int p1), (2, .int p2)]) hx hb dX4_isAsked_17 rfl hl (by decide) rfl (fun ls hl => ?_)
    refine lv_iconst (v := 0) hx hb dX4_isAsked_18 (by decide) ?_
    refine lv_istore (lv' := [(4, .int 0), (3, .int 0), (0, .ref (q 0)), (1, .int p1), (2, .int p2)]) hx hb dX4_isAsked_19 hl (by decide) rfl (fun ls hl => ?_)
    exact wk_X4_isAsked_21 X hP F 0 0 ls _ (lv_sub hl [2, 3, 4, 1, 0] rfl) hS h
  · have h := tt_some h c1
    refine lv_iconst (v := 1) hx hb dX4_isAsked_12 (by decide) ?_
    refine lv_goto (tgt := 17) hx hb dX4_isAsked_13 (by decide) ?_
    refine lv_istore_n (lv' := [(3, .int 1), (0, .ref (q 0)), (1, .int p1), (2, .int p2)]) hx hb dX4_isAsked_17 rfl hl (by decide) rfl (fun ls hl => ?_)
    refine lv_iconst (v := 0) hx hb dX4_isAsked_18 (by decide) ?_
    refine lv_istore (lv' := [(4, .int 0), (3, .int 1), (0, .ref (q 0)), (1, .int p1), (2, .int p2)]) hx hb dX4_isAsked_19 hl (by decide) rfl (fun ls hl => ?_)
    exact wk_X4_isAsked_21 X hP F 1 0 ls _ (lv_sub hl [2, 3, 4, 1, 0] rfl) hS h
set_option maxHeartbeats 4000000 in
set_option maxRecDepth 100000 in
theorem wk_X4_isSound_29 {p : Program} {l : Launch} {e : Env} {s : State} {m : MethodId} {args : Array Value} {below : List Frame} {meth : Method} {c : Code} {D : va_G} {cI cG : ClassId} {q : Nat → Nat} {S : St} {H : Heap} {r : Int32} {F : Nat} {p1 p2 : Int32}  (X : Cx p s m args meth c cX4_isSound 3 (some .boolean) RX4 D cI cG) (hP : va_P D vwCl (wM cI cG q S) H)  : ∀ (ls : Array Slot) (locs : List Loc), lv_has ls 3 [(0, .ref (q 0)), (1, .int p1), (2, .int p2)] → va_S no s.heap H locs → m_X4_isSound_29 F S p1 p2  = some r → W p l e { frames := 3, cells := 0, slots := 0, locals := 74 } s m args below meth c H locs 0 0 (MQ below (roQ H r) args s 0 0 no) (F0 m 29 ls []) := by
  have hx := X.1
  have hb := X.2.1
  intro ls locs hl hS h
  rw [m_X4_isSound_29] at h
  refine lv_aload_n hx hb dX4_isSound_29 rfl (lv_at hl 0 rfl) ?_
  refine lv_iload_n hx hb dX4_isSound_30 rfl (lv_at hl 1 rfl) ?_
  refine lv_iload_n hx hb dX4_isSound_31 rfl (lv_at hl 2 rfl) ?_
  obtain ⟨r7, er7, h⟩ := bd_some h
  refine ro_V (As := [.int p1, .int p2]) (rest := []) X hP hS hl.1 (c_X4_isAsked l D cI cG q S _ F p1 p2 er7) lk_X4_118 (rc_X4_X4 X hP) ⟨by decide, by decide⟩ rfl rfl (Nat.le_of_ble_eq_true rfl) dX4_isSound_32 ⟨Nat.le_refl _, Nat.le_refl _⟩ (fun locs hS => ?_)
  refine lv_if_ne (tgt := 42) hx hb dX4_isSound_35 (by decide) (fun c8 => ?_) (fun c8 => ?_)
  · have h := ff_some h c8
    refine lv_iconst (v := 0) hx hb dX4_isSound_42 (by decide) ?_
    exact ro_retz X hS h rfl dX4_isSound_43
  · have h := tt_some h c8
    refine lv_iconst (v := 1) hx hb dX4_isSound_38 (by decide) ?_
    refine lv_goto (tgt := 43) hx hb dX4_isSound_39 (by decide) ?_
    exact ro_retz X hS h rfl dX4_isSound_43
set_option maxHeartbeats 4000000 in
set_option maxRecDepth 100000 in
theorem c_X4_isSound (l : Launch) (D : va_G) (cI cG : ClassId) (q : Nat → Nat) (S : St) (H : Heap) (F : Nat) (p1 p2 : Int32) {r : Int32} (h : m_X4_isSound F S p1 p2 = some r) : RoM l yX4_isSound cX4_isSound 3 (some .boolean) 3 74 [.ref (q 0), .int p1, .int p2] D cI cG (wM cI cG q S) H r := by
  refine RoM.of (own := RX4) (by decide) rfl (Nat.le_of_ble_eq_true rfl) ?_
  intro p e s m args below meth c ls X hP hS hl0
  have hl : lv_has ls 3 [(0, .ref (q 0)), (1, .int p1), (2, .int p2)] := hl0 _ (lv_entry [.ref (q 0), .int p1, .int p2] (n := 3) (Nat.le_of_ble_eq_true rfl))
  have hx := X.1
  have hb := X.2.1
  rw [m_X4_isSound] at h
  refine lv_aload_n hx hb dX4_isSound_0 rfl (lv_at hl 0 rfl) ?_
  refine gf_X4_7 X hP dX4_isSound_1 ?_
  refine lv_iload_n hx hb dX4_isSound_4 rfl (lv_at hl 1 rfl) ?_
  obtain ⟨hi1, h⟩ := gd_some h
  refine ro_ald X hP 1 wM_1 hi1 dX4_isSound_5 ?_
  refine lv_iload_n hx hb dX4_isSound_6 rfl (lv_at hl 2 rfl) ?_
  refine lv_icmp_gt (tgt := 42) hx hb dX4_isSound_7 (by decide) (fun c2 => ?_) (fun c2 => ?_)
  · have h := tt_some h c2
    refine lv_iconst (v := 0) hx hb dX4_isSound_42 (by decide) ?_
    exact ro_retz X hS h rfl dX4_isSound_43
  · have h := ff_some h c2
    refine lv_aload_n hx hb dX4_isSound_10 rfl (lv_at hl 0 rfl) ?_
    refine gf_X4_22 X hP dX4_isSound_11 ?_
    refine lv_iload_n hx hb dX4_isSound_14 rfl (lv_at hl 1 rfl) ?_
    obtain ⟨hi3, h⟩ := gd_some h
    refine ro_ald X hP 5 wM_5 hi3 dX4_isSound_15 ?_
    refine lv_iconst (v := 1) hx hb dX4_isSound_16 (by decide) ?_
    refine lv_icmp_ne (tgt := 29) hx hb dX4_isSound_17 (by decide) (fun c4 => ?_) (fun c4 => ?_)
    · have h := ff_some h c4
      exact wk_X4_isSound_29 X hP  ls _ (lv_sub hl [0, 1, 2] rfl) hS h
    · have h := tt_some h c4
      refine lv_aload_n hx hb dX4_isSound_20 rfl (lv_at hl 0 rfl) ?_
      refine lv_iload_n hx hb dX4_isSound_21 rfl (lv_at hl 1 rfl) ?_
      refine lv_iload_n hx hb dX4_isSound_22 rfl (lv_at hl 2 rfl) ?_
      obtain ⟨r5, er5, h⟩ := bd_some h
      refine ro_V (As := [.int p1, .int p2]) (rest := []) X hP hS hl.1 (c_X4_isHealed l D cI cG q S _ p1 p2 er5) lk_X4_107 (rc_X4_X4 X hP) ⟨by decide, by decide⟩ rfl rfl (Nat.le_of_ble_eq_true rfl) dX4_isSound_23 ⟨Nat.le_refl _, Nat.le_refl _⟩ (fun locs hS => ?_)
      refine lv_if_eq (tgt := 42) hx hb dX4_isSound_26 (by decide) (fun c6 => ?_) (fun c6 => ?_)
      · have h := tt_some h c6
        refine lv_iconst (v := 0) hx hb dX4_isSound_42 (by decide) ?_
        exact ro_retz X hS h rfl dX4_isSound_43
      · have h := ff_some h c6
        exact wk_X4_isSound_29 X hP  ls _ (lv_sub hl [0, 1, 2] rfl) hS h
set_option maxHeartbeats 4000000 in
set_option maxRecDepth 100000 in
theorem wk_X4_soundOf_4 {p : Program} {l : Launch} {e : Env} {s : State} {m : MethodId} {args : Array Value} {below : List Frame} {meth : Method} {c : Code} {D : va_G} {cI cG : ClassId} {q : Nat → Nat} {S : St} {H : Heap} {r : Int32} {F : Nat} {p1 : Int32}  (X : Cx p s m args meth c cX4_soundOf 4 (some .int) RX4 D cI cG) (hP : va_P D vwCl (wM cI cG q S) H)  : ∀ (n : Nat) (x2 : Int32) (x3 : Int32) (ls : Array Slot) (locs : List Loc), lv_has ls 4 [(0, .ref (q 0)), (1, .int p1), (2, .int x2), (3, .int x3)] → va_S no s.heap H locs → m_X4_soundOf_4 F S p1 n x2 x3 = some r → W p l e { frames := 4, cells := 0, slots := 0, locals := 96 } s m args below meth c H locs 0 0 (MQ below (roQ H r) args s 0 0 no) (F0 m 4 ls []) := by
  have hx := X.1
  have hb := X.2.1
  intro n
  induction n with
  | zero =>
    intro x2 x3 ls locs hl hS h
    exact no_none (show none = some r from h)
  | succ n ih =>
    intro x2 x3 ls locs hl hS h
    rw [m_X4_soundOf_4] at h
    refine lv_iload_n hx hb dX4_soundOf_4 rfl (lv_at hl 3 rfl) ?_
    refine lv_aload_n hx hb dX4_soundOf_5 rfl (lv_at hl 0 rfl) ?_
    refine gf_X4_61 X hP dX4_soundOf_6 ?_
    refine lv_icmp_ge (tgt := 37) hx hb dX4_soundOf_9 (by decide) (fun c1 => ?_) (fun c1 => ?_)
    · have h := tt_some h c1
      refine lv_iload_n hx hb dX4_soundOf_37 rfl (lv_at hl 2 rfl) ?_
      exact ro_ret X hS h dX4_soundOf_38
    · have h := ff_some h c1
      refine lv_iload_n hx hb dX4_soundOf_12 rfl (lv_at hl 2 rfl) ?_
      refine lv_aload_n hx hb dX4_soundOf_13 rfl (lv_at hl 0 rfl) ?_
      refine lv_iload_n hx hb dX4_soundOf_14 rfl (lv_at hl 3 rfl) ?_
      refine lv_iload_n hx hb dX4_soundOf_15 rfl (lv_at hl 1 rfl) ?_
      obtain ⟨r2, er2, h⟩ := bd_some h
      refine ro_V (As := [.int x3, .int p1]) (rest := [.int x2]) X hP hS hl.1 (c_X4_isSound l D cI cG q S _ F x3 p1 er2) lk_X4_121 (rc_X4_X4 X hP) ⟨by decide, by decide⟩ rfl rfl (Nat.le_of_ble_eq_true rfl) dX4_soundOf_16 ⟨Nat.le_refl _, Nat.le_refl _⟩ (fun locs hS => ?_)
      refine lv_if_eq (tgt := 28) hx hb dX4_soundOf_19 (by decide) (fun c3 => ?_) (fun c3 => ?_)
      · have h := tt_some h c3
        refine lv_iconst (v := 0) hx hb dX4_soundOf_28 (by decide) ?_
        refine lv_ior hx hb dX4_soundOf_29 ?_
        refine lv_topi (fun v4 ev4 => ?_)
        have h := nm_some h ev4
        refine lv_istore_n (lv' := [(2, .int v4), (0, .ref (q 0)), (1, .int p1), (3, .int x3)]) hx hb dX4_soundOf_30 rfl hl (by decide) rfl (fun ls hl => ?_)
        obtain ⟨v5, ev5⟩ : ∃ y : Int32, y = x3 + 1 := ⟨_, rfl⟩
        have h := nm_some h ev5
        refine lv_iinc (v := v5) (lv' := [(3, .int v5), (2, .int v4), (0, .ref (q 0)), (1, .int p1)]) hx hb dX4_soundOf_31 hl (k := 3) rfl (by rw [ev5]; rfl) (by decide) rfl (fun ls hl => ?_)
        refine lv_goto (tgt := 4) hx hb dX4_soundOf_34 (by decide) ?_
        exact ih v4 v5 ls _ (lv_sub hl [2, 3, 1, 0] rfl) hS h
      · have h := ff_some h c3
        refine lv_iconst (v := 1) hx hb dX4_soundOf_22 (by decide) ?_
        refine lv_iload_n hx hb dX4_soundOf_23 rfl (lv_at hl 3 rfl) ?_
        refine lv_ishl hx hb dX4_soundOf_24 ?_
        refine lv_goto (tgt := 29) hx hb dX4_soundOf_25 (by decide) ?_
        refine lv_ior hx hb dX4_soundOf_29 ?_
        refine lv_topi (fun v6 ev6 => ?_)
        have h := nm_some h ev6
        refine lv_istore_n (lv' := [(2, .int v6), (0, .ref (q 0)), (1, .int p1), (3, .int x3)]) hx hb dX4_soundOf_30 rfl hl (by decide) rfl (fun ls hl => ?_)
        obtain ⟨v7, ev7⟩ : ∃ y : Int32, y = x3 + 1 := ⟨_, rfl⟩
        have h := nm_some h ev7
        refine lv_iinc (v := v7) (lv' := [(3, .int v7), (2, .int v6), (0, .ref (q 0)), (1, .int p1)]) hx hb dX4_soundOf_31 hl (k := 3) rfl (by rw [ev7]; rfl) (by decide) rfl (fun ls hl => ?_)
        refine lv_goto (tgt := 4) hx hb dX4_soundOf_34 (by decide) ?_
        exact ih v6 v7 ls _ (lv_sub hl [2, 3, 1, 0] rfl) hS h
set_option maxHeartbeats 4000000 in
set_option maxRecDepth 100000 in
theorem c_X4_soundOf (l : Launch) (D : va_G) (cI cG : ClassId) (q : Nat → Nat) (S : St) (H : Heap) (F : Nat) (p1 : Int32) {r : Int32} (h : m_X4_soundOf F S p1 = some r) : RoM l yX4_soundOf cX4_soundOf 4 (some .int) 4 96 [.ref (q 0), .int p1] D cI cG (wM cI cG q S) H r := by
  refine RoM.of (own := RX4) (by decide) rfl (Nat.le_of_ble_eq_true rfl) ?_
  intro p e s m args below meth c ls X hP hS hl0
  have hl : lv_has ls 4 [(0, .ref (q 0)), (1, .int p1)] := hl0 _ (lv_entry [.ref (q 0), .int p1] (n := 4) (Nat.le_of_ble_eq_true rfl))
  have hx := X.1
  have hb := X.2.1
  rw [m_X4_soundOf] at h
  refine lv_iconst (v := 0) hx hb dX4_soundOf_0 (by decide) ?_
  refine lv_istore_n (lv' := [(2, .int 0), (0, .ref (q 0)), (1, .int p1)]) hx hb dX4_soundOf_1 rfl hl (by decide) rfl (fun ls hl => ?_)
  refine lv_iconst (v := 0) hx hb dX4_soundOf_2 (by decide) ?_
  refine lv_istore_n (lv' := [(3, .int 0), (2, .int 0), (0, .ref (q 0)), (1, .int p1)]) hx hb dX4_soundOf_3 rfl hl (by decide) rfl (fun ls hl => ?_)
  exact wk_X4_soundOf_4 X hP F 0 0 ls _ (lv_sub hl [2, 3, 1, 0] rfl) hS h
set_option maxHeartbeats 4000000 in
set_option maxRecDepth 100000 in
theorem wk_X4_loose_4 {p : Program} {l : Launch} {e : Env} {s : State} {m : MethodId} {args : Array Value} {below : List Frame} {meth : Method} {c : Code} {D : va_G} {cI cG : ClassId} {q : Nat → Nat} {S : St} {H : Heap} {r : Int32} {F : Nat} {p1 : Int32}  (X : Cx p s m args meth c cX4_loose 4 (some .int) RX4 D cI cG) (hP : va_P D vwCl (wM cI cG q S) H)  : ∀ (n : Nat) (x2 : Int32) (x3 : Int32) (ls : Array Slot) (locs : List Loc), lv_has ls 4 [(0, .ref (q 0)), (1, .int p1), (2, .int x2), (3, .int x3)] → va_S no s.heap H locs → m_X4_loose_4 F S p1 n x2 x3 = some r → W p l e { frames := 1, cells := 0, slots := 0, locals := 24 } s m args below meth c H locs 0 0 (MQ below (roQ H r) args s 0 0 no) (F0 m 4 ls []) := by
  have hx := X.1
  have hb := X.2.1
  intro n
  induction n with
  | zero =>
    intro x2 x3 ls locs hl hS h
    exact no_none (show none = some r from h)
  | succ n ih =>
    intro x2 x3 ls locs hl hS h
    rw [m_X4_loose_4] at h
    refine lv_iload_n hx hb dX4_loose_4 rfl (lv_at hl 3 rfl) ?_
    refine lv_aload_n hx hb dX4_loose_5 rfl (lv_at hl 0 rfl) ?_
    refine gf_X4_61 X hP dX4_loose_6 ?_
    refine lv_icmp_ge (tgt := 46) hx hb dX4_loose_9 (by decide) (fun c1 => ?_) (fun c1 => ?_)
    · have h := tt_some h c1
      refine lv_iload_n hx hb dX4_loose_46 rfl (lv_at hl 2 rfl) ?_
      exact ro_ret X hS h dX4_loose_47
    · have h := ff_some h c1
      refine lv_iload_n hx hb dX4_loose_12 rfl (lv_at hl 2 rfl) ?_
      refine lv_iload_n hx hb dX4_loose_13 rfl (lv_at hl 1 rfl) ?_
      refine lv_iload_n hx hb dX4_loose_14 rfl (lv_at hl 3 rfl) ?_
      refine lv_ishr hx hb dX4_loose_15 ?_
      refine lv_iconst (v := 1) hx hb dX4_loose_16 (by decide) ?_
      refine lv_iand hx hb dX4_loose_17 ?_
      refine lv_iconst (v := 1) hx hb dX4_loose_18 (by decide) ?_
      refine lv_icmp_ne (tgt := 37) hx hb dX4_loose_19 (by decide) (fun c2 => ?_) (fun c2 => ?_)
      · have h := ff_some h c2
        refine lv_iconst (v := 0) hx hb dX4_loose_37 (by decide) ?_
        refine lv_ior hx hb dX4_loose_38 ?_
        refine lv_topi (fun v3 ev3 => ?_)
        have h := nm_some h ev3
        refine lv_istore_n (lv' := [(2, .int v3), (0, .ref (q 0)), (1, .int p1), (3, .int x3)]) hx hb dX4_loose_39 rfl hl (by decide) rfl (fun ls hl => ?_)
        obtain ⟨v4, ev4⟩ : ∃ y : Int32, y = x3 + 1 := ⟨_, rfl⟩
        have h := nm_some h ev4
        refine lv_iinc (v := v4) (lv' := [(3, .int v4), (2, .int v3), (0, .ref (q 0)), (1, .int p1)]) hx hb dX4_loose_40 hl (k := 3) rfl (by rw [ev4]; rfl) (by decide) rfl (fun ls hl => ?_)
        refine lv_goto (tgt := 4) hx hb dX4_loose_43 (by decide) ?_
        exact ih v3 v4 ls _ (lv_sub hl [2, 3, 1, 0] rfl) hS h
      · have h := tt_some h c2
        refine lv_aload_n hx hb dX4_loose_22 rfl (lv_at hl 0 rfl) ?_
        refine lv_iload_n hx hb dX4_loose_23 rfl (lv_at hl 3 rfl) ?_
        refine lv_iload_n hx hb dX4_loose_24 rfl (lv_at hl 1 rfl) ?_
        obtain ⟨r5, er5, h⟩ := bd_some h
        refine ro_V (As := [.int x3, .int p1]) (rest := [.int x2]) X hP hS hl.1 (c_X4_isHeld l D cI cG q S _ F x3 p1 er5) lk_X4_124 (rc_X4_X4 X hP) ⟨by decide, by decide⟩ rfl rfl (Nat.le_of_ble_eq_true rfl) dX4_loose_25 ⟨Nat.le_refl _, Nat.le_refl _⟩ (fun locs hS => ?_)
        refine lv_if_ne (tgt := 37) hx hb dX4_loose_28 (by decide) (fun c6 => ?_) (fun c6 => ?_)
        · have h := ff_some h c6
          refine lv_iconst (v := 0) hx hb dX4_loose_37 (by decide) ?_
          refine lv_ior hx hb dX4_loose_38 ?_
          refine lv_topi (fun v7 ev7 => ?_)
          have h := nm_some h ev7
          refine lv_istore_n (lv' := [(2, .int v7), (0, .ref (q 0)), (1, .int p1), (3, .int x3)]) hx hb dX4_loose_39 rfl hl (by decide) rfl (fun ls hl => ?_)
          obtain ⟨v8, ev8⟩ : ∃ y : Int32, y = x3 + 1 := ⟨_, rfl⟩
          have h := nm_some h ev8
          refine lv_iinc (v := v8) (lv' := [(3, .int v8), (2, .int v7), (0, .ref (q 0)), (1, .int p1)]) hx hb dX4_loose_40 hl (k := 3) rfl (by rw [ev8]; rfl) (by decide) rfl (fun ls hl => ?_)
          refine lv_goto (tgt := 4) hx hb dX4_loose_43 (by decide) ?_
          exact ih v7 v8 ls _ (lv_sub hl [2, 3, 1, 0] rfl) hS h
        · have h := tt_some h c6
          refine lv_iconst (v := 1) hx hb dX4_loose_31 (by decide) ?_
          refine lv_iload_n hx hb dX4_loose_32 rfl (lv_at hl 3 rfl) ?_
          refine lv_ishl hx hb dX4_loose_33 ?_
          refine lv_goto (tgt := 38) hx hb dX4_loose_34 (by decide) ?_
          refine lv_ior hx hb dX4_loose_38 ?_
          refine lv_topi (fun v9 ev9 => ?_)
          have h := nm_some h ev9
          refine lv_istore_n (lv' := [(2, .int v9), (0, .ref (q 0)), (1, .int p1), (3, .int x3)]) hx hb dX4_loose_39 rfl hl (by decide) rfl (fun ls hl => ?_)
          obtain ⟨v10, ev10⟩ : ∃ y : Int32, y = x3 + 1 := ⟨_, rfl⟩
          have h := nm_some h ev10
          refine lv_iinc (v := v10) (lv' := [(3, .int v10), (2, .int v9), (0, .ref (q 0)), (1, .int p1)]) hx hb dX4_loose_40 hl (k := 3) rfl (by rw [ev10]; rfl) (by decide) rfl (fun ls hl => ?_)
          refine lv_goto (tgt := 4) hx hb dX4_loose_43 (by decide) ?_
          exact ih v9 v10 ls _ (lv_sub hl [2, 3, 1, 0] rfl) hS h
set_option maxHeartbeats 4000000 in
set_option maxRecDepth 100000 in
theorem c_X4_loose (l : Launch) (D : va_G) (cI cG : ClassId) (q : Nat → Nat) (S : St) (H : Heap) (F : Nat) (p1 : Int32) {r : Int32} (h : m_X4_loose F S p1 = some r) : RoM l yX4_loose cX4_loose 4 (some .int) 1 24 [.ref (q 0), .int p1] D cI cG (wM cI cG q S) H r := by
  refine RoM.of (own := RX4) (by decide) rfl (Nat.le_of_ble_eq_true rfl) ?_
  intro p e s m args below meth c ls X hP hS hl0
  have hl : lv_has ls 4 [(0, .ref (q 0)), (1, .int p1)] := hl0 _ (lv_entry [.ref (q 0), .int p1] (n := 4) (Nat.le_of_ble_eq_true rfl))
  have hx := X.1
  have hb := X.2.1
  rw [m_X4_loose] at h
  refine lv_iconst (v := 0) hx hb dX4_loose_0 (by decide) ?_
  refine lv_istore_n (lv' := [(2, .int 0), (0, .ref (q 0)), (1, .int p1)]) hx hb dX4_loose_1 rfl hl (by decide) rfl (fun ls hl => ?_)
  refine lv_iconst (v := 0) hx hb dX4_loose_2 (by decide) ?_
  refine lv_istore_n (lv' := [(3, .int 0), (2, .int 0), (0, .ref (q 0)), (1, .int p1)]) hx hb dX4_loose_3 rfl hl (by decide) rfl (fun ls hl => ?_)
  exact wk_X4_loose_4 X hP F 0 0 ls _ (lv_sub hl [2, 3, 1, 0] rfl) hS h
set_option maxHeartbeats 4000000 in
set_option maxRecDepth 100000 in
theorem wk_X4_mostOf_8 {p : Program} {l : Launch} {e : Env} {s : State} {m : MethodId} {args : Array Value} {below : List Frame} {meth : Method} {c : Code} {D : va_G} {cI cG : ClassId} {q : Nat → Nat} {S : St} {H : Heap} {r : Int32} {F : Nat} {p1 : Int32}  (X : Cx p s m args meth c cX4_mostOf 4 (some .int) RX4 D cI cG) (hP : va_P D vwCl (wM cI cG q S) H)  : ∀ (n : Nat) (x2 : Int32) (x3 : Int32) (ls : Array Slot) (locs : List Loc), lv_has ls 4 [(0, .ref (q 0)), (2, .int x2), (3, .int x3)] → va_S no s.heap H locs → m_X4_mostOf_8 F S p1 n x2 x3 = some r → W p l e { frames := 2, cells := 0, slots := 0, locals := 47 } s m args below meth c H locs 0 0 (MQ below (roQ H r) args s 0 0 no) (F0 m 8 ls []) := by
  have hx := X.1
  have hb := X.2.1
  intro n
  induction n with
  | zero =>
    intro x2 x3 ls locs hl hS h
    exact no_none (show none = some r from h)
  | succ n ih =>
    intro x2 x3 ls locs hl hS h
    rw [m_X4_mostOf_8] at h
    refine lv_iload_n hx hb dX4_mostOf_8 rfl (lv_at hl 2 rfl) ?_
    refine lv_if_eq (tgt := 27) hx hb dX4_mostOf_9 (by decide) (fun c2 => ?_) (fun c2 => ?_)
    · have h := tt_some h c2
      refine lv_iload_n hx hb dX4_mostOf_27 rfl (lv_at hl 1 rfl) ?_
      exact ro_ret X hS h dX4_mostOf_28
    · have h := ff_some h c2
      refine lv_iload_n hx hb dX4_mostOf_12 rfl (lv_at hl 1 rfl) ?_
      refine lv_iload_n hx hb dX4_mostOf_13 rfl (lv_at hl 2 rfl) ?_
      refine lv_iconst (v := (-1 : Int32)) hx hb dX4_mostOf_14 (by decide) ?_
      refine lv_ixor hx hb dX4_mostOf_15 ?_
      refine lv_iand hx hb dX4_mostOf_16 ?_
      refine lv_topi (fun v3 ev3 => ?_)
      have h := nm_some h ev3
      refine lv_istore_n (lv' := [(2, .int v3), (0, .ref (q 0)), (3, .int x3)]) hx hb dX4_mostOf_17 rfl hl (by decide) rfl (fun ls hl => ?_)
      refine lv_aload_n hx hb dX4_mostOf_18 rfl (lv_at hl 1 rfl) ?_
      refine lv_iload_n hx hb dX4_mostOf_19 rfl (lv_at hl 0 rfl) ?_
      obtain ⟨r4, er4, h⟩ := bd_some h
      refine ro_V (As := [.int v3]) (rest := []) X hP hS hl.1 (c_X4_loose l D cI cG q S _ F v3 er4) lk_X4_127 (rc_X4_X4 X hP) ⟨by decide, by decide⟩ rfl rfl (Nat.le_of_ble_eq_true rfl) dX4_mostOf_20 ⟨Nat.le_refl _, Nat.le_refl _⟩ (fun locs hS => ?_)
      refine lv_istore_n (lv' := [(3, .int r4), (2, .int v3), (0, .ref (q 0))]) hx hb dX4_mostOf_23 rfl hl (by decide) rfl (fun ls hl => ?_)
      refine lv_goto (tgt := 8) hx hb dX4_mostOf_24 (by decide) ?_
      exact ih v3 r4 ls _ (lv_sub hl [2, 1, 0] rfl) hS h
set_option maxHeartbeats 4000000 in
set_option maxRecDepth 100000 in
theorem c_X4_mostOf (l : Launch) (D : va_G) (cI cG : ClassId) (q : Nat → Nat) (S : St) (H : Heap) (F : Nat) (p1 : Int32) {r : Int32} (h : m_X4_mostOf F S p1 = some r) : RoM l yX4_mostOf cX4_mostOf 4 (some .int) 2 47 [.ref (q 0), .int p1] D cI cG (wM cI cG q S) H r := by
  refine RoM.of (own := RX4) (by decide) rfl (Nat.le_of_ble_eq_true rfl) ?_
  intro p e s m args below meth c ls X hP hS hl0
  have hl : lv_has ls 4 [(0, .ref (q 0)), (1, .int p1)] := hl0 _ (lv_entry [.ref (q 0), .int p1] (n := 4) (Nat.le_of_ble_eq_true rfl))
  have hx := X.1
  have hb := X.2.1
  rw [m_X4_mostOf] at h
  refine lv_iload_n hx hb dX4_mostOf_0 rfl (lv_at hl 1 rfl) ?_
  refine lv_istore_n (lv' := [(2, .int p1), (0, .ref (q 0)), (1, .int p1)]) hx hb dX4_mostOf_1 rfl hl (by decide) rfl (fun ls hl => ?_)
  refine lv_aload_n hx hb dX4_mostOf_2 rfl (lv_at hl 1 rfl) ?_
  refine lv_iload_n hx hb dX4_mostOf_3 rfl (lv_at hl 0 rfl) ?_
  obtain ⟨r1, er1, h⟩ := bd_some h
  refine ro_V (As := [.int p1]) (rest := []) X hP hS hl.1 (c_X4_loose l D cI cG q S _ F p1 er1) lk_X4_127 (rc_X4_X4 X hP) ⟨by decide, by decide⟩ rfl rfl (Nat.le_of_ble_eq_true rfl) dX4_mostOf_4 ⟨Nat.le_refl _, Nat.le_refl _⟩ (fun locs hS => ?_)
  refine lv_istore_n (lv' := [(3, .int r1), (2, .int p1), (0, .ref (q 0)), (1, .int p1)]) hx hb dX4_mostOf_7 rfl hl (by decide) rfl (fun ls hl => ?_)
  exact wk_X4_mostOf_8 X hP F p1 r1 ls _ (lv_sub hl [2, 1, 0] rfl) hS h
set_option maxHeartbeats 4000000 in
set_option maxRecDepth 100000 in
theorem wk_X4_leastOf_14 {p : Program} {l : Launch} {e : Env} {s : State} {m : MethodId} {args : Array Value} {below : List Frame} {meth : Method} {c : Code} {D : va_G} {cI cG : ClassId} {q : Nat → Nat} {S : St} {H : Heap} {r : Int32} {F : Nat} {p1 : Int32} {K4 : Int32 → Int32 → Option Int32} (X : Cx p s m args meth c cX4_leastOf 5 (some .int) RX4 D cI cG) (hP : va_P D vwCl (wM cI cG q S) H) (hK4 : ∀ (x2 : Int32) (x3 : Int32) (ls : Array Slot) (locs : List Loc), lv_has ls 5 [(0, .ref (q 0)), (1, .int p1), (2, .int x2), (3, .int x3)] → va_S no s.heap H locs → K4 x2 x3 = some r → W p l e { frames := 1, cells := 0, slots := 0, locals := 24 } s m args below meth c H locs 0 0 (MQ below (roQ H r) args s 0 0 no) (F0 m 4 ls [])) : ∀ (n : Nat) (x2 : Int32) (x3 : Int32) (x4 : Int32) (ls : Array Slot) (locs : List Loc), lv_has ls 5 [(0, .ref (q 0)), (1, .int p1), (2, .int x2), (3, .int x3), (4, .int x4)] → va_S no s.heap H locs → m_X4_leastOf_14 F S p1 K4 n x2 x3 x4 = some r → W p l e { frames := 1, cells := 0, slots := 0, locals := 24 } s m args below meth c H locs 0 0 (MQ below (roQ H r) args s 0 0 no) (F0 m 14 ls []) := by
  have hx := X.1
  have hb := X.2.1
  intro n
  induction n with
  | zero =>
    intro x2 x3 x4 ls locs hl hS h
    exact no_none (show none = some r from h)
  | succ n ih =>
    intro x2 x3 x4 ls locs hl hS h
    rw [m_X4_leastOf_14] at h
    refine lv_iload hx hb dX4_leastOf_14 (lv_at hl 4 rfl) ?_
    refine lv_aload_n hx hb dX4_leastOf_16 rfl (lv_at hl 0 rfl) ?_
    refine gf_X4_61 X hP dX4_leastOf_17 ?_
    refine lv_icmp_ge (tgt := 60) hx hb dX4_leastOf_20 (by decide) (fun c2 => ?_) (fun c2 => ?_)
    · have h := tt_some h c2
      refine lv_goto (tgt := 4) hx hb dX4_leastOf_60 (by decide) ?_
      exact hK4 x2 x3 ls _ (lv_sub hl [0, 1, 2, 3] rfl) hS h
    · have h := ff_some h c2
      refine lv_iload_n hx hb dX4_leastOf_23 rfl (lv_at hl 2 rfl) ?_
      refine lv_iload_n hx hb dX4_leastOf_24 rfl (lv_at hl 1 rfl) ?_
      refine lv_iload hx hb dX4_leastOf_25 (lv_at hl 4 rfl) ?_
      refine lv_ishr hx hb dX4_leastOf_27 ?_
      refine lv_iconst (v := 1) hx hb dX4_leastOf_28 (by decide) ?_
      refine lv_iand hx hb dX4_leastOf_29 ?_
      refine lv_iconst (v := 1) hx hb dX4_leastOf_30 (by decide) ?_
      refine lv_icmp_ne (tgt := 51) hx hb dX4_leastOf_31 (by decide) (fun c3 => ?_) (fun c3 => ?_)
      · have h := ff_some h c3
        refine lv_iconst (v := 0) hx hb dX4_leastOf_51 (by decide) ?_
        refine lv_ior hx hb dX4_leastOf_52 ?_
        refine lv_topi (fun v4 ev4 => ?_)
        have h := nm_some h ev4
        refine lv_istore_n (lv' := [(2, .int v4), (0, .ref (q 0)), (1, .int p1), (3, .int x3), (4, .int x4)]) hx hb dX4_leastOf_53 rfl hl (by decide) rfl (fun ls hl => ?_)
        obtain ⟨v5, ev5⟩ : ∃ y : Int32, y = x4 + 1 := ⟨_, rfl⟩
        have h := nm_some h ev5
        refine lv_iinc (v := v5) (lv' := [(4, .int v5), (2, .int v4), (0, .ref (q 0)), (1, .int p1), (3, .int x3)]) hx hb dX4_leastOf_54 hl (k := 4) rfl (by rw [ev5]; rfl) (by decide) rfl (fun ls hl => ?_)
        refine lv_goto (tgt := 14) hx hb dX4_leastOf_57 (by decide) ?_
        exact ih v4 x3 v5 ls _ (lv_sub hl [2, 3, 1, 4, 0] rfl) hS h
      · have h := tt_some h c3
        refine lv_aload_n hx hb dX4_leastOf_34 rfl (lv_at hl 0 rfl) ?_
        refine lv_iload hx hb dX4_leastOf_35 (lv_at hl 4 rfl) ?_
        refine lv_iload_n hx hb dX4_leastOf_37 rfl (lv_at hl 3 rfl) ?_
        obtain ⟨r6, er6, h⟩ := bd_some h
        refine ro_V (As := [.int x4, .int x3]) (rest := [.int x2]) X hP hS hl.1 (c_X4_isHeld l D cI cG q S _ F x4 x3 er6) lk_X4_124 (rc_X4_X4 X hP) ⟨by decide, by decide⟩ rfl rfl (Nat.le_of_ble_eq_true rfl) dX4_leastOf_38 ⟨Nat.le_refl _, Nat.le_refl _⟩ (fun locs hS => ?_)
        refine lv_if_eq (tgt := 51) hx hb dX4_leastOf_41 (by decide) (fun c7 => ?_) (fun c7 => ?_)
        · have h := tt_some h c7
          refine lv_iconst (v := 0) hx hb dX4_leastOf_51 (by decide) ?_
          refine lv_ior hx hb dX4_leastOf_52 ?_
          refine lv_topi (fun v8 ev8 => ?_)
          have h := nm_some h ev8
          refine lv_istore_n (lv' := [(2, .int v8), (0, .ref (q 0)), (1, .int p1), (3, .int x3), (4, .int x4)]) hx hb dX4_leastOf_53 rfl hl (by decide) rfl (fun ls hl => ?_)
          obtain ⟨v9, ev9⟩ : ∃ y : Int32, y = x4 + 1 := ⟨_, rfl⟩
          have h := nm_some h ev9
          refine lv_iinc (v := v9) (lv' := [(4, .int v9), (2, .int v8), (0, .ref (q 0)), (1, .int p1), (3, .int x3)]) hx hb dX4_leastOf_54 hl (k := 4) rfl (by rw [ev9]; rfl) (by decide) rfl (fun ls hl => ?_)
          refine lv_goto (tgt := 14) hx hb dX4_leastOf_57 (by decide) ?_
          exact ih v8 x3 v9 ls _ (lv_sub hl [2, 3, 1, 4, 0] rfl) hS h
        · have h := ff_some h c7
          refine lv_iconst (v := 1) hx hb dX4_leastOf_44 (by decide) ?_
          refine lv_iload hx hb dX4_leastOf_45 (lv_at hl 4 rfl) ?_
          refine lv_ishl hx hb dX4_leastOf_47 ?_
          refine lv_goto (tgt := 52) hx hb dX4_leastOf_48 (by decide) ?_
          refine lv_ior hx hb dX4_leastOf_52 ?_
          refine lv_topi (fun v10 ev10 => ?_)
          have h := nm_some h ev10
          refine lv_istore_n (lv' := [(2, .int v10), (0, .ref (q 0)), (1, .int p1), (3, .int x3), (4, .int x4)]) hx hb dX4_leastOf_53 rfl hl (by decide) rfl (fun ls hl => ?_)
          obtain ⟨v11, ev11⟩ : ∃ y : Int32, y = x4 + 1 := ⟨_, rfl⟩
          have h := nm_some h ev11
          refine lv_iinc (v := v11) (lv' := [(4, .int v11), (2, .int v10), (0, .ref (q 0)), (1, .int p1), (3, .int x3)]) hx hb dX4_leastOf_54 hl (k := 4) rfl (by rw [ev11]; rfl) (by decide) rfl (fun ls hl => ?_)
          refine lv_goto (tgt := 14) hx hb dX4_leastOf_57 (by decide) ?_
          exact ih v10 x3 v11 ls _ (lv_sub hl [2, 3, 1, 4, 0] rfl) hS h
set_option maxHeartbeats 4000000 in
set_option maxRecDepth 100000 in
theorem wk_X4_leastOf_4 {p : Program} {l : Launch} {e : Env} {s : State} {m : MethodId} {args : Array Value} {below : List Frame} {meth : Method} {c : Code} {D : va_G} {cI cG : ClassId} {q : Nat → Nat} {S : St} {H : Heap} {r : Int32} {F : Nat} {p1 : Int32}  (X : Cx p s m args meth c cX4_leastOf 5 (some .int) RX4 D cI cG) (hP : va_P D vwCl (wM cI cG q S) H)  : ∀ (n : Nat) (x2 : Int32) (x3 : Int32) (ls : Array Slot) (locs : List Loc), lv_has ls 5 [(0, .ref (q 0)), (1, .int p1), (2, .int x2), (3, .int x3)] → va_S no s.heap H locs → m_X4_leastOf_4 F S p1 n x2 x3 = some r → W p l e { frames := 1, cells := 0, slots := 0, locals := 24 } s m args below meth c H locs 0 0 (MQ below (roQ H r) args s 0 0 no) (F0 m 4 ls []) := by
  have hx := X.1
  have hb := X.2.1
  intro n
  induction n with
  | zero =>
    intro x2 x3 ls locs hl hS h
    exact no_none (show none = some r from h)
  | succ n ih =>
    intro x2 x3 ls locs hl hS h
    rw [m_X4_leastOf_4] at h
    refine lv_iload_n hx hb dX4_leastOf_4 rfl (lv_at hl 3 rfl) ?_
    refine lv_iload_n hx hb dX4_leastOf_5 rfl (lv_at hl 2 rfl) ?_
    refine lv_icmp_eq (tgt := 63) hx hb dX4_leastOf_6 (by decide) (fun c1 => ?_) (fun c1 => ?_)
    · have h := tt_some h c1
      refine lv_iload_n hx hb dX4_leastOf_63 rfl (lv_at hl 2 rfl) ?_
      exact ro_ret X hS h dX4_leastOf_64
    · have h := ff_some h c1
      refine lv_iload_n hx hb dX4_leastOf_9 rfl (lv_at hl 2 rfl) ?_
      refine lv_istore_n (lv' := [(3, .int x2), (0, .ref (q 0)), (1, .int p1), (2, .int x2)]) hx hb dX4_leastOf_10 rfl hl (by decide) rfl (fun ls hl => ?_)
      refine lv_iconst (v := 0) hx hb dX4_leastOf_11 (by decide) ?_
      refine lv_istore (lv' := [(4, .int 0), (3, .int x2), (0, .ref (q 0)), (1, .int p1), (2, .int x2)]) hx hb dX4_leastOf_12 hl (by decide) rfl (fun ls hl => ?_)
      exact wk_X4_leastOf_14 X hP ih F x2 x2 0 ls _ (lv_sub hl [2, 3, 4, 1, 0] rfl) hS h
set_option maxHeartbeats 4000000 in
set_option maxRecDepth 100000 in
theorem c_X4_leastOf (l : Launch) (D : va_G) (cI cG : ClassId) (q : Nat → Nat) (S : St) (H : Heap) (F : Nat) (p1 : Int32) {r : Int32} (h : m_X4_leastOf F S p1 = some r) : RoM l yX4_leastOf cX4_leastOf 5 (some .int) 1 24 [.ref (q 0), .int p1] D cI cG (wM cI cG q S) H r := by
  refine RoM.of (own := RX4) (by decide) rfl (Nat.le_of_ble_eq_true rfl) ?_
  intro p e s m args below meth c ls X hP hS hl0
  have hl : lv_has ls 5 [(0, .ref (q 0)), (1, .int p1)] := hl0 _ (lv_entry [.ref (q 0), .int p1] (n := 5) (Nat.le_of_ble_eq_true rfl))
  have hx := X.1
  have hb := X.2.1
  rw [m_X4_leastOf] at h
  refine lv_iconst (v := 0) hx hb dX4_leastOf_0 (by decide) ?_
  refine lv_istore_n (lv' := [(2, .int 0), (0, .ref (q 0)), (1, .int p1)]) hx hb dX4_leastOf_1 rfl hl (by decide) rfl (fun ls hl => ?_)
  refine lv_iconst (v := (-1 : Int32)) hx hb dX4_leastOf_2 (by decide) ?_
  refine lv_istore_n (lv' := [(3, .int (-1)), (2, .int 0), (0, .ref (q 0)), (1, .int p1)]) hx hb dX4_leastOf_3 rfl hl (by decide) rfl (fun ls hl => ?_)
  exact wk_X4_leastOf_4 X hP F 0 (-1) ls _ (lv_sub hl [2, 3, 1, 0] rfl) hS h
set_option maxHeartbeats 4000000 in
set_option maxRecDepth 100000 in
theorem c_X4_standing (l : Launch) (D : va_G) (cI cG : ClassId) (q : Nat → Nat) (S : St) (H : Heap) (F : Nat) (p1 : Int32) {r : Int32} (h : m_X4_standing F S p1 = some r) : RoM l yX4_standing cX4_standing 2 (some .int) 5 119 [.ref (q 0), .int p1] D cI cG (wM cI cG q S) H r := by
  refine RoM.of (own := RX4) (by decide) rfl (Nat.le_of_ble_eq_true rfl) ?_
  intro p e s m args below meth c ls X hP hS hl0
  have hl : lv_has ls 2 [(0, .ref (q 0)), (1, .int p1)] := hl0 _ (lv_entry [.ref (q 0), .int p1] (n := 2) (Nat.le_of_ble_eq_true rfl))
  have hx := X.1
  have hb := X.2.1
  rw [m_X4_standing] at h
  refine lv_aload_n hx hb dX4_standing_0 rfl (lv_at hl 0 rfl) ?_
  refine lv_aload_n hx hb dX4_standing_1 rfl (lv_at hl 0 rfl) ?_
  refine lv_iload_n hx hb dX4_standing_2 rfl (lv_at hl 1 rfl) ?_
  obtain ⟨r1, er1, h⟩ := bd_some h
  refine ro_V (As := [.int p1]) (rest := [.ref (q 0)]) X hP hS hl.1 (c_X4_soundOf l D cI cG q S _ F p1 er1) lk_X4_131 (rc_X4_X4 X hP) ⟨by decide, by decide⟩ rfl rfl (Nat.le_of_ble_eq_true rfl) dX4_standing_3 ⟨Nat.le_refl _, Nat.le_refl _⟩ (fun locs hS => ?_)
  obtain ⟨r2, er2, h⟩ := bd_some h
  refine ro_V (As := [.int r1]) (rest := []) X hP hS hl.1 (c_X4_mostOf l D cI cG q S _ F r1 er2) lk_X4_134 (rc_X4_X4 X hP) ⟨by decide, by decide⟩ rfl rfl (Nat.le_of_ble_eq_true rfl) dX4_standing_6 ⟨Nat.le_refl _, Nat.le_refl _⟩ (fun locs hS => ?_)
  exact ro_ret X hS h dX4_standing_9
set_option maxHeartbeats 4000000 in
set_option maxRecDepth 100000 in
theorem c_X4_all (l : Launch) (D : va_G) (cI cG : ClassId) (q : Nat → Nat) (S : St) (H : Heap) (F : Nat) (p1 p2 : Int32) {r : Int32} (h : m_X4_all F S p1 p2 = some r) : RoM l yX4_all cX4_all 4 (some .int) 5 119 [.ref (q 0), .int p1, .int p2] D cI cG (wM cI cG q S) H r := by
  refine RoM.of (own := RX4) (by decide) rfl (Nat.le_of_ble_eq_true rfl) ?_
  intro p e s m args below meth c ls X hP hS hl0
  have hl : lv_has ls 4 [(0, .ref (q 0)), (1, .int p1), (2, .int p2)] := hl0 _ (lv_entry [.ref (q 0), .int p1, .int p2] (n := 4) (Nat.le_of_ble_eq_true rfl))
  have hx := X.1
  have hb := X.2.1
  rw [m_X4_all] at h
  refine lv_iload_n hx hb dX4_all_0 rfl (lv_at hl 1 rfl) ?_
  obtain ⟨r1, er1, h⟩ := bd_some h
  refine ro_S (As := [.int p1]) (rest := []) X hP hS hl.1 (c_X4_isDay l D cI cG _ _ p1 er1) lk_X4_68 ⟨by decide, by decide⟩ rfl rfl (Nat.le_of_ble_eq_true rfl) dX4_all_1 ⟨Nat.le_refl _, Nat.le_refl _⟩ (fun locs hS => ?_)
  refine lv_if_eq (tgt := 19) hx hb dX4_all_4 (by decide) (fun c2 => ?_) (fun c2 => ?_)
  · have h := tt_some h c2
    refine lv_bipush (v := (-2 : Int32)) hx hb dX4_all_19 (by decide) ?_
    exact ro_ret X hS h dX4_all_21
  · have h := ff_some h c2
    refine lv_iload_n hx hb dX4_all_7 rfl (lv_at hl 2 rfl) ?_
    refine lv_i2l (v := Int32.toInt64 p2) hx hb dX4_all_8 rfl ?_
    refine lv_lconst (v := 0) hx hb dX4_all_9 (by decide) ?_
    refine lv_ldc2 (v := (2 : Int64)) hx hb X.2.2.2.2.2.1 (X.2.2.2.2.2.2.1 _ w_kl_X4_137) dX4_all_10 ?_
    obtain ⟨r3, er3, h⟩ := bd_some h
    refine ro_S (As := [.long (Int32.toInt64 p2), .long 0, .long 2]) (rest := []) X hP hS hl.1 (c_X4_in l D cI cG _ _ (Int32.toInt64 p2) 0 2 er3) lk_X4_55 ⟨by decide, by decide⟩ rfl rfl (Nat.le_of_ble_eq_true rfl) dX4_all_13 ⟨Nat.le_refl _, Nat.le_refl _⟩ (fun locs hS => ?_)
    refine lv_if_ne (tgt := 22) hx hb dX4_all_16 (by decide) (fun c4 => ?_) (fun c4 => ?_)
    · have h := ff_some h c4
      refine lv_aload_n hx hb dX4_all_22 rfl (lv_at hl 0 rfl) ?_
      refine lv_iload_n hx hb dX4_all_23 rfl (lv_at hl 1 rfl) ?_
      obtain ⟨r5, er5, h⟩ := bd_some h
      refine ro_V (As := [.int p1]) (rest := []) X hP hS hl.1 (c_X4_soundOf l D cI cG q S _ F p1 er5) lk_X4_131 (rc_X4_X4 X hP) ⟨by decide, by decide⟩ rfl rfl (Nat.le_of_ble_eq_true rfl) dX4_all_24 ⟨Nat.le_refl _, Nat.le_refl _⟩ (fun locs hS => ?_)
      refine lv_istore_n (lv' := [(3, .int r5), (0, .ref (q 0)), (1, .int p1), (2, .int p2)]) hx hb dX4_all_27 rfl hl (by decide) rfl (fun ls hl => ?_)
      refine lv_iload_n hx hb dX4_all_28 rfl (lv_at hl 3 rfl) ?_
      refine lv_if_ne (tgt := 36) hx hb dX4_all_29 (by decide) (fun c6 => ?_) (fun c6 => ?_)
      · have h := ff_some h c6
        refine lv_iload_n hx hb dX4_all_36 rfl (lv_at hl 3 rfl) ?_
        refine lv_iconst (v := 1) hx hb dX4_all_37 (by decide) ?_
        refine lv_icmp_ne (tgt := 49) hx hb dX4_all_38 (by decide) (fun c7 => ?_) (fun c7 => ?_)
        · have h := ff_some h c7
          refine lv_aload_n hx hb dX4_all_49 rfl (lv_at hl 1 rfl) ?_
          refine lv_iload_n hx hb dX4_all_50 rfl (lv_at hl 0 rfl) ?_
          obtain ⟨r8, er8, h⟩ := bd_some h
          refine ro_V (As := [.int r5]) (rest := []) X hP hS hl.1 (c_X4_leastOf l D cI cG q S _ F r5 er8) lk_X4_139 (rc_X4_X4 X hP) ⟨by decide, by decide⟩ rfl rfl (Nat.le_of_ble_eq_true rfl) dX4_all_51 ⟨Nat.le_refl _, Nat.le_refl _⟩ (fun locs hS => ?_)
          exact ro_ret X hS h dX4_all_54
        · have h := tt_some h c7
          refine lv_aload_n hx hb dX4_all_41 rfl (lv_at hl 1 rfl) ?_
          refine lv_iload_n hx hb dX4_all_42 rfl (lv_at hl 0 rfl) ?_
          obtain ⟨r9, er9, h⟩ := bd_some h
          refine ro_V (As := [.int r5]) (rest := []) X hP hS hl.1 (c_X4_mostOf l D cI cG q S _ F r5 er9) lk_X4_134 (rc_X4_X4 X hP) ⟨by decide, by decide⟩ rfl rfl (Nat.le_of_ble_eq_true rfl) dX4_all_43 ⟨Nat.le_refl _, Nat.le_refl _⟩ (fun locs hS => ?_)
          refine lv_goto (tgt := 54) hx hb dX4_all_46 (by decide) ?_
          exact ro_ret X hS h dX4_all_54
      · have h := tt_some h c6
        refine lv_iload_n hx hb dX4_all_32 rfl (lv_at hl 0 rfl) ?_
        refine lv_goto (tgt := 54) hx hb dX4_all_33 (by decide) ?_
        exact ro_ret X hS h dX4_all_54
    · have h := tt_some h c4
      refine lv_bipush (v := (-2 : Int32)) hx hb dX4_all_19 (by decide) ?_
      exact ro_ret X hS h dX4_all_21
set_option maxHeartbeats 4000000 in
set_option maxRecDepth 100000 in
theorem wk_X4_why_70 {p : Program} {l : Launch} {e : Env} {s : State} {m : MethodId} {args : Array Value} {below : List Frame} {meth : Method} {c : Code} {D : va_G} {cI cG : ClassId} {q : Nat → Nat} {S : St} {H : Heap} {r : Int32} {F : Nat} {p1 p2 : Int32}  (X : Cx p s m args meth c cX4_why 3 (some .int) RX4 D cI cG) (hP : va_P D vwCl (wM cI cG q S) H)  : ∀ (ls : Array Slot) (locs : List Loc), lv_has ls 3 [(0, .ref (q 0)), (1, .int p1), (2, .int p2)] → va_S no s.heap H locs → m_X4_why_70 F S p1 p2  = some r → W p l e { frames := 6, cells := 0, slots := 0, locals := 140 } s m args below meth c H locs 0 0 (MQ below (roQ H r) args s 0 0 no) (F0 m 70 ls []) := by
  have hx := X.1
  have hb := X.2.1
  intro ls locs hl hS h
  rw [m_X4_why_70] at h
  refine lv_aload_n hx hb dX4_why_70 rfl (lv_at hl 0 rfl) ?_
  refine lv_iload_n hx hb dX4_why_71 rfl (lv_at hl 1 rfl) ?_
  refine lv_iload_n hx hb dX4_why_72 rfl (lv_at hl 2 rfl) ?_
  obtain ⟨r13, er13, h⟩ := bd_some h
  refine ro_V (As := [.int p1, .int p2]) (rest := []) X hP hS hl.1 (c_X4_isAsked l D cI cG q S _ F p1 p2 er13) lk_X4_118 (rc_X4_X4 X hP) ⟨by decide, by decide⟩ rfl rfl (Nat.le_of_ble_eq_true rfl) dX4_why_73 ⟨Nat.le_refl _, Nat.le_refl _⟩ (fun locs hS => ?_)
  refine lv_if_eq (tgt := 83) hx hb dX4_why_76 (by decide) (fun c14 => ?_) (fun c14 => ?_)
  · have h := tt_some h c14
    refine lv_iconst (v := 4) hx hb dX4_why_83 (by decide) ?_
    exact ro_ret X hS h dX4_why_84
  · have h := ff_some h c14
    refine lv_iconst (v := 3) hx hb dX4_why_79 (by decide) ?_
    refine lv_goto (tgt := 84) hx hb dX4_why_80 (by decide) ?_
    exact ro_ret X hS h dX4_why_84
set_option maxHeartbeats 4000000 in
set_option maxRecDepth 100000 in
theorem c_X4_why (l : Launch) (D : va_G) (cI cG : ClassId) (q : Nat → Nat) (S : St) (H : Heap) (F : Nat) (p1 p2 : Int32) {r : Int32} (h : m_X4_why F S p1 p2 = some r) : RoM l yX4_why cX4_why 3 (some .int) 6 140 [.ref (q 0), .int p1, .int p2] D cI cG (wM cI cG q S) H r := by
  refine RoM.of (own := RX4) (by decide) rfl (Nat.le_of_ble_eq_true rfl) ?_
  intro p e s m args below meth c ls X hP hS hl0
  have hl : lv_has ls 3 [(0, .ref (q 0)), (1, .int p1), (2, .int p2)] := hl0 _ (lv_entry [.ref (q 0), .int p1, .int p2] (n := 3) (Nat.le_of_ble_eq_true rfl))
  have hx := X.1
  have hb := X.2.1
  rw [m_X4_why] at h
  refine lv_aload_n hx hb dX4_why_0 rfl (lv_at hl 0 rfl) ?_
  refine lv_iload_n hx hb dX4_why_1 rfl (lv_at hl 1 rfl) ?_
  obtain ⟨r1, er1, h⟩ := bd_some h
  refine ro_V (As := [.int p1]) (rest := []) X hP hS hl.1 (c_X4_isAct l D cI cG q S _ p1 er1) lk_X4_71 (rc_X4_X4 X hP) ⟨by decide, by decide⟩ rfl rfl (Nat.le_of_ble_eq_true rfl) dX4_why_2 ⟨Nat.le_refl _, Nat.le_refl _⟩ (fun locs hS => ?_)
  refine lv_if_ne (tgt := 10) hx hb dX4_why_5 (by decide) (fun c2 => ?_) (fun c2 => ?_)
  · have h := ff_some h c2
    refine lv_iload_n hx hb dX4_why_10 rfl (lv_at hl 2 rfl) ?_
    obtain ⟨r3, er3, h⟩ := bd_some h
    refine ro_S (As := [.int p2]) (rest := []) X hP hS hl.1 (c_X4_isDay l D cI cG _ _ p2 er3) lk_X4_68 ⟨by decide, by decide⟩ rfl rfl (Nat.le_of_ble_eq_true rfl) dX4_why_11 ⟨Nat.le_refl _, Nat.le_refl _⟩ (fun locs hS => ?_)
    refine lv_if_ne (tgt := 20) hx hb dX4_why_14 (by decide) (fun c4 => ?_) (fun c4 => ?_)
    · have h := ff_some h c4
      refine lv_aload_n hx hb dX4_why_20 rfl (lv_at hl 0 rfl) ?_
      refine lv_iload_n hx hb dX4_why_21 rfl (lv_at hl 2 rfl) ?_
      obtain ⟨r5, er5, h⟩ := bd_some h
      refine ro_V (As := [.int p2]) (rest := []) X hP hS hl.1 (c_X4_standing l D cI cG q S _ F p2 er5) lk_X4_142 (rc_X4_X4 X hP) ⟨by decide, by decide⟩ rfl rfl (Nat.le_of_ble_eq_true rfl) dX4_why_22 ⟨Nat.le_refl _, Nat.le_refl _⟩ (fun locs hS => ?_)
      refine lv_iload_n hx hb dX4_why_25 rfl (lv_at hl 1 rfl) ?_
      refine lv_ishr hx hb dX4_why_26 ?_
      refine lv_iconst (v := 1) hx hb dX4_why_27 (by decide) ?_
      refine lv_iand hx hb dX4_why_28 ?_
      refine lv_iconst (v := 1) hx hb dX4_why_29 (by decide) ?_
      refine lv_icmp_ne (tgt := 35) hx hb dX4_why_30 (by decide) (fun c6 => ?_) (fun c6 => ?_)
      · have h := ff_some h c6
        refine lv_aload_n hx hb dX4_why_35 rfl (lv_at hl 0 rfl) ?_
        refine gf_X4_7 X hP dX4_why_36 ?_
        refine lv_iload_n hx hb dX4_why_39 rfl (lv_at hl 1 rfl) ?_
        obtain ⟨hi7, h⟩ := gd_some h
        refine ro_ald X hP 1 wM_1 hi7 dX4_why_40 ?_
        refine lv_iload_n hx hb dX4_why_41 rfl (lv_at hl 2 rfl) ?_
        refine lv_icmp_le (tgt := 47) hx hb dX4_why_42 (by decide) (fun c8 => ?_) (fun c8 => ?_)
        · have h := tt_some h c8
          refine lv_aload_n hx hb dX4_why_47 rfl (lv_at hl 0 rfl) ?_
          refine gf_X4_22 X hP dX4_why_48 ?_
          refine lv_iload_n hx hb dX4_why_51 rfl (lv_at hl 1 rfl) ?_
          obtain ⟨hi9, h⟩ := gd_some h
          refine ro_ald X hP 5 wM_5 hi9 dX4_why_52 ?_
          refine lv_iconst (v := 1) hx hb dX4_why_53 (by decide) ?_
          refine lv_icmp_ne (tgt := 70) hx hb dX4_why_54 (by decide) (fun c10 => ?_) (fun c10 => ?_)
          · have h := ff_some h c10
            exact wk_X4_why_70 X hP  ls _ (lv_sub hl [0, 1, 2] rfl) hS h
          · have h := tt_some h c10
            refine lv_aload_n hx hb dX4_why_57 rfl (lv_at hl 0 rfl) ?_
            refine lv_iload_n hx hb dX4_why_58 rfl (lv_at hl 1 rfl) ?_
            refine lv_iload_n hx hb dX4_why_59 rfl (lv_at hl 2 rfl) ?_
            obtain ⟨r11, er11, h⟩ := bd_some h
            refine ro_V (As := [.int p1, .int p2]) (rest := []) X hP hS hl.1 (c_X4_isHealed l D cI cG q S _ p1 p2 er11) lk_X4_107 (rc_X4_X4 X hP) ⟨by decide, by decide⟩ rfl rfl (Nat.le_of_ble_eq_true rfl) dX4_why_60 ⟨Nat.le_refl _, Nat.le_refl _⟩ (fun locs hS => ?_)
            refine lv_if_ne (tgt := 70) hx hb dX4_why_63 (by decide) (fun c12 => ?_) (fun c12 => ?_)
            · have h := ff_some h c12
              exact wk_X4_why_70 X hP  ls _ (lv_sub hl [0, 1, 2] rfl) hS h
            · have h := tt_some h c12
              refine lv_iconst (v := 2) hx hb dX4_why_66 (by decide) ?_
              refine lv_goto (tgt := 84) hx hb dX4_why_67 (by decide) ?_
              exact ro_ret X hS h dX4_why_84
        · have h := ff_some h c8
          refine lv_iconst (v := 1) hx hb dX4_why_45 (by decide) ?_
          exact ro_ret X hS h dX4_why_46
      · have h := tt_some h c6
        refine lv_iconst (v := 0) hx hb dX4_why_33 (by decide) ?_
        exact ro_ret X hS h dX4_why_34
    · have h := tt_some h c4
      refine lv_bipush (v := (-2 : Int32)) hx hb dX4_why_17 (by decide) ?_
      exact ro_ret X hS h dX4_why_19
  · have h := tt_some h c2
    refine lv_iconst (v := (-1 : Int32)) hx hb dX4_why_8 (by decide) ?_
    exact ro_ret X hS h dX4_why_9
set_option maxHeartbeats 4000000 in
set_option maxRecDepth 100000 in
theorem wk_X4_namedBy_4 {p : Program} {l : Launch} {e : Env} {s : State} {m : MethodId} {args : Array Value} {below : List Frame} {meth : Method} {c : Code} {D : va_G} {cI cG : ClassId} {q : Nat → Nat} {S : St} {H : Heap} {r : Int32} {F : Nat} {p1 : Int32}  (X : Cx p s m args meth c cX4_namedBy 4 (some .int) RX4 D cI cG) (hP : va_P D vwCl (wM cI cG q S) H)  : ∀ (n : Nat) (x2 : Int32) (x3 : Int32) (ls : Array Slot) (locs : List Loc), lv_has ls 4 [(0, .ref (q 0)), (1, .int p1), (2, .int x2), (3, .int x3)] → va_S no s.heap H locs → m_X4_namedBy_4 F S p1 n x2 x3 = some r → W p l e { frames := 0, cells := 0, slots := 0, locals := 0 } s m args below meth c H locs 0 0 (MQ below (roQ H r) args s 0 0 no) (F0 m 4 ls []) := by
  have hx := X.1
  have hb := X.2.1
  intro n
  induction n with
  | zero =>
    intro x2 x3 ls locs hl hS h
    exact no_none (show none = some r from h)
  | succ n ih =>
    intro x2 x3 ls locs hl hS h
    rw [m_X4_namedBy_4] at h
    refine lv_iload_n hx hb dX4_namedBy_4 rfl (lv_at hl 3 rfl) ?_
    refine lv_aload_n hx hb dX4_namedBy_5 rfl (lv_at hl 0 rfl) ?_
    refine gf_X4_34 X hP dX4_namedBy_6 ?_
    refine lv_iload_n hx hb dX4_namedBy_9 rfl (lv_at hl 1 rfl) ?_
    obtain ⟨hi1, h⟩ := gd_some h
    refine ro_ald X hP 9 wM_9 hi1 dX4_namedBy_10 ?_
    refine lv_icmp_ge (tgt := 34) hx hb dX4_namedBy_11 (by decide) (fun c2 => ?_) (fun c2 => ?_)
    · have h := tt_some h c2
      refine lv_iload_n hx hb dX4_namedBy_34 rfl (lv_at hl 2 rfl) ?_
      refine lv_iconst (v := 1) hx hb dX4_namedBy_35 (by decide) ?_
      refine lv_aload_n hx hb dX4_namedBy_36 rfl (lv_at hl 0 rfl) ?_
      refine gf_X4_61 X hP dX4_namedBy_37 ?_
      refine lv_ishl hx hb dX4_namedBy_40 ?_
      refine lv_iconst (v := 1) hx hb dX4_namedBy_41 (by decide) ?_
      refine lv_isub hx hb dX4_namedBy_42 ?_
      refine lv_iand hx hb dX4_namedBy_43 ?_
      exact ro_ret X hS h dX4_namedBy_44
    · have h := ff_some h c2
      refine lv_iload_n hx hb dX4_namedBy_14 rfl (lv_at hl 2 rfl) ?_
      refine lv_aload_n hx hb dX4_namedBy_15 rfl (lv_at hl 0 rfl) ?_
      refine gf_X4_31 X hP dX4_namedBy_16 ?_
      refine lv_bipush (v := 20) hx hb dX4_namedBy_19 (by decide) ?_
      refine lv_iload_n hx hb dX4_namedBy_21 rfl (lv_at hl 1 rfl) ?_
      refine lv_imul hx hb dX4_namedBy_22 ?_
      refine lv_iload_n hx hb dX4_namedBy_23 rfl (lv_at hl 3 rfl) ?_
      refine lv_iadd hx hb dX4_namedBy_24 ?_
      obtain ⟨hi3, h⟩ := gd_some h
      refine ro_ald X hP 8 wM_8 hi3 dX4_namedBy_25 ?_
      refine lv_ior hx hb dX4_namedBy_26 ?_
      refine lv_topi (fun v4 ev4 => ?_)
      have h := nm_some h ev4
      refine lv_istore_n (lv' := [(2, .int v4), (0, .ref (q 0)), (1, .int p1), (3, .int x3)]) hx hb dX4_namedBy_27 rfl hl (by decide) rfl (fun ls hl => ?_)
      obtain ⟨v5, ev5⟩ : ∃ y : Int32, y = x3 + 1 := ⟨_, rfl⟩
      have h := nm_some h ev5
      refine lv_iinc (v := v5) (lv' := [(3, .int v5), (2, .int v4), (0, .ref (q 0)), (1, .int p1)]) hx hb dX4_namedBy_28 hl (k := 3) rfl (by rw [ev5]; rfl) (by decide) rfl (fun ls hl => ?_)
      refine lv_goto (tgt := 4) hx hb dX4_namedBy_31 (by decide) ?_
      exact ih v4 v5 ls _ (lv_sub hl [2, 3, 1, 0] rfl) hS h
set_option maxHeartbeats 4000000 in
set_option maxRecDepth 100000 in
theorem c_X4_namedBy (l : Launch) (D : va_G) (cI cG : ClassId) (q : Nat → Nat) (S : St) (H : Heap) (F : Nat) (p1 : Int32) {r : Int32} (h : m_X4_namedBy F S p1 = some r) : RoM l yX4_namedBy cX4_namedBy 4 (some .int) 0 0 [.ref (q 0), .int p1] D cI cG (wM cI cG q S) H r := by
  refine RoM.of (own := RX4) (by decide) rfl (Nat.le_of_ble_eq_true rfl) ?_
  intro p e s m args below meth c ls X hP hS hl0
  have hl : lv_has ls 4 [(0, .ref (q 0)), (1, .int p1)] := hl0 _ (lv_entry [.ref (q 0), .int p1] (n := 4) (Nat.le_of_ble_eq_true rfl))
  have hx := X.1
  have hb := X.2.1
  rw [m_X4_namedBy] at h
  refine lv_iconst (v := 0) hx hb dX4_namedBy_0 (by decide) ?_
  refine lv_istore_n (lv' := [(2, .int 0), (0, .ref (q 0)), (1, .int p1)]) hx hb dX4_namedBy_1 rfl hl (by decide) rfl (fun ls hl => ?_)
  refine lv_iconst (v := 0) hx hb dX4_namedBy_2 (by decide) ?_
  refine lv_istore_n (lv' := [(3, .int 0), (2, .int 0), (0, .ref (q 0)), (1, .int p1)]) hx hb dX4_namedBy_3 rfl hl (by decide) rfl (fun ls hl => ?_)
  exact wk_X4_namedBy_4 X hP F 0 0 ls _ (lv_sub hl [2, 3, 1, 0] rfl) hS h
set_option maxHeartbeats 4000000 in
set_option maxRecDepth 100000 in
theorem wk_X4_under_28 {p : Program} {l : Launch} {e : Env} {s : State} {m : MethodId} {args : Array Value} {below : List Frame} {meth : Method} {c : Code} {D : va_G} {cI cG : ClassId} {q : Nat → Nat} {S : St} {H : Heap} {r : Int32} {F : Nat} {p1 : Int32} {K18 : Int32 → Int32 → Option Int32} (X : Cx p s m args meth c cX4_under 5 (some .int) RX4 D cI cG) (hP : va_P D vwCl (wM cI cG q S) H) (hK18 : ∀ (x2 : Int32) (x3 : Int32) (ls : Array Slot) (locs : List Loc), lv_has ls 5 [(0, .ref (q 0)), (2, .int x2), (3, .int x3)] → va_S no s.heap H locs → K18 x2 x3 = some r → W p l e { frames := 2, cells := 0, slots := 0, locals := 46 } s m args below meth c H locs 0 0 (MQ below (roQ H r) args s 0 0 no) (F0 m 18 ls [])) : ∀ (n : Nat) (x2 : Int32) (x3 : Int32) (x4 : Int32) (ls : Array Slot) (locs : List Loc), lv_has ls 5 [(0, .ref (q 0)), (2, .int x2), (3, .int x3), (4, .int x4)] → va_S no s.heap H locs → m_X4_under_28 F S p1 K18 n x2 x3 x4 = some r → W p l e { frames := 2, cells := 0, slots := 0, locals := 46 } s m args below meth c H locs 0 0 (MQ below (roQ H r) args s 0 0 no) (F0 m 28 ls []) := by
  have hx := X.1
  have hb := X.2.1
  intro n
  induction n with
  | zero =>
    intro x2 x3 x4 ls locs hl hS h
    exact no_none (show none = some r from h)
  | succ n ih =>
    intro x2 x3 x4 ls locs hl hS h
    rw [m_X4_under_28] at h
    refine lv_iload hx hb dX4_under_28 (lv_at hl 3 rfl) ?_
    refine lv_aload_n hx hb dX4_under_30 rfl (lv_at hl 0 rfl) ?_
    refine gf_X4_61 X hP dX4_under_31 ?_
    refine lv_icmp_ge (tgt := 66) hx hb dX4_under_34 (by decide) (fun c5 => ?_) (fun c5 => ?_)
    · have h := tt_some h c5
      refine lv_goto (tgt := 18) hx hb dX4_under_66 (by decide) ?_
      exact hK18 x2 x3 ls _ (lv_sub hl [0, 1, 2] rfl) hS h
    · have h := ff_some h c5
      refine lv_iload_n hx hb dX4_under_37 rfl (lv_at hl 1 rfl) ?_
      refine lv_iload_n hx hb dX4_under_38 rfl (lv_at hl 2 rfl) ?_
      refine lv_iload hx hb dX4_under_39 (lv_at hl 3 rfl) ?_
      refine lv_ishr hx hb dX4_under_41 ?_
      refine lv_iconst (v := 1) hx hb dX4_under_42 (by decide) ?_
      refine lv_iand hx hb dX4_under_43 ?_
      refine lv_iconst (v := 1) hx hb dX4_under_44 (by decide) ?_
      refine lv_icmp_ne (tgt := 57) hx hb dX4_under_45 (by decide) (fun c6 => ?_) (fun c6 => ?_)
      · have h := ff_some h c6
        refine lv_iconst (v := 0) hx hb dX4_under_57 (by decide) ?_
        refine lv_ior hx hb dX4_under_58 ?_
        refine lv_topi (fun v7 ev7 => ?_)
        have h := nm_some h ev7
        refine lv_istore_n (lv' := [(2, .int v7), (0, .ref (q 0)), (3, .int x3), (4, .int x4)]) hx hb dX4_under_59 rfl hl (by decide) rfl (fun ls hl => ?_)
        obtain ⟨v8, ev8⟩ : ∃ y : Int32, y = x4 + 1 := ⟨_, rfl⟩
        have h := nm_some h ev8
        refine lv_iinc (v := v8) (lv' := [(4, .int v8), (2, .int v7), (0, .ref (q 0)), (3, .int x3)]) hx hb dX4_under_60 hl (k := 3) rfl (by rw [ev8]; rfl) (by decide) rfl (fun ls hl => ?_)
        refine lv_goto (tgt := 28) hx hb dX4_under_63 (by decide) ?_
        exact ih v7 x3 v8 ls _ (lv_sub hl [2, 1, 3, 0] rfl) hS h
      · have h := tt_some h c6
        refine lv_aload_n hx hb dX4_under_48 rfl (lv_at hl 0 rfl) ?_
        refine lv_iload hx hb dX4_under_49 (lv_at hl 3 rfl) ?_
        obtain ⟨r9, er9, h⟩ := bd_some h
        refine ro_V (As := [.int x4]) (rest := [.int x2]) X hP hS hl.1 (c_X4_namedBy l D cI cG q S _ F x4 er9) lk_X4_145 (rc_X4_X4 X hP) ⟨by decide, by decide⟩ rfl rfl (Nat.le_of_ble_eq_true rfl) dX4_under_51 ⟨Nat.le_refl _, Nat.le_refl _⟩ (fun locs hS => ?_)
        refine lv_goto (tgt := 58) hx hb dX4_under_54 (by decide) ?_
        refine lv_ior hx hb dX4_under_58 ?_
        refine lv_topi (fun v10 ev10 => ?_)
        have h := nm_some h ev10
        refine lv_istore_n (lv' := [(2, .int v10), (0, .ref (q 0)), (3, .int x3), (4, .int x4)]) hx hb dX4_under_59 rfl hl (by decide) rfl (fun ls hl => ?_)
        obtain ⟨v11, ev11⟩ : ∃ y : Int32, y = x4 + 1 := ⟨_, rfl⟩
        have h := nm_some h ev11
        refine lv_iinc (v := v11) (lv' := [(4, .int v11), (2, .int v10), (0, .ref (q 0)), (3, .int x3)]) hx hb dX4_under_60 hl (k := 3) rfl (by rw [ev11]; rfl) (by decide) rfl (fun ls hl => ?_)
        refine lv_goto (tgt := 28) hx hb dX4_under_63 (by decide) ?_
        exact ih v10 x3 v11 ls _ (lv_sub hl [2, 1, 3, 0] rfl) hS h
set_option maxHeartbeats 4000000 in
set_option maxRecDepth 100000 in
theorem wk_X4_under_18 {p : Program} {l : Launch} {e : Env} {s : State} {m : MethodId} {args : Array Value} {below : List Frame} {meth : Method} {c : Code} {D : va_G} {cI cG : ClassId} {q : Nat → Nat} {S : St} {H : Heap} {r : Int32} {F : Nat} {p1 : Int32}  (X : Cx p s m args meth c cX4_under 5 (some .int) RX4 D cI cG) (hP : va_P D vwCl (wM cI cG q S) H)  : ∀ (n : Nat) (x2 : Int32) (x3 : Int32) (ls : Array Slot) (locs : List Loc), lv_has ls 5 [(0, .ref (q 0)), (2, .int x2), (3, .int x3)] → va_S no s.heap H locs → m_X4_under_18 F S p1 n x2 x3 = some r → W p l e { frames := 2, cells := 0, slots := 0, locals := 46 } s m args below meth c H locs 0 0 (MQ below (roQ H r) args s 0 0 no) (F0 m 18 ls []) := by
  have hx := X.1
  have hb := X.2.1
  intro n
  induction n with
  | zero =>
    intro x2 x3 ls locs hl hS h
    exact no_none (show none = some r from h)
  | succ n ih =>
    intro x2 x3 ls locs hl hS h
    rw [m_X4_under_18] at h
    refine lv_iload_n hx hb dX4_under_18 rfl (lv_at hl 2 rfl) ?_
    refine lv_iload_n hx hb dX4_under_19 rfl (lv_at hl 1 rfl) ?_
    refine lv_icmp_eq (tgt := 69) hx hb dX4_under_20 (by decide) (fun c4 => ?_) (fun c4 => ?_)
    · have h := tt_some h c4
      refine lv_iload_n hx hb dX4_under_69 rfl (lv_at hl 1 rfl) ?_
      exact ro_ret X hS h dX4_under_70
    · have h := ff_some h c4
      refine lv_iload_n hx hb dX4_under_23 rfl (lv_at hl 1 rfl) ?_
      refine lv_istore_n (lv' := [(3, .int x2), (0, .ref (q 0)), (2, .int x2)]) hx hb dX4_under_24 rfl hl (by decide) rfl (fun ls hl => ?_)
      refine lv_iconst (v := 0) hx hb dX4_under_25 (by decide) ?_
      refine lv_istore (lv' := [(4, .int 0), (3, .int x2), (0, .ref (q 0)), (2, .int x2)]) hx hb dX4_under_26 hl (by decide) rfl (fun ls hl => ?_)
      exact wk_X4_under_28 X hP ih F x2 x2 0 ls _ (lv_sub hl [2, 3, 1, 0] rfl) hS h
set_option maxHeartbeats 4000000 in
set_option maxRecDepth 100000 in
theorem c_X4_under (l : Launch) (D : va_G) (cI cG : ClassId) (q : Nat → Nat) (S : St) (H : Heap) (F : Nat) (p1 : Int32) {r : Int32} (h : m_X4_under F S p1 = some r) : RoM l yX4_under cX4_under 5 (some .int) 2 46 [.ref (q 0), .int p1] D cI cG (wM cI cG q S) H r := by
  refine RoM.of (own := RX4) (by decide) rfl (Nat.le_of_ble_eq_true rfl) ?_
  intro p e s m args below meth c ls X hP hS hl0
  have hl : lv_has ls 5 [(0, .ref (q 0)), (1, .int p1)] := hl0 _ (lv_entry [.ref (q 0), .int p1] (n := 5) (Nat.le_of_ble_eq_true rfl))
  have hx := X.1
  have hb := X.2.1
  rw [m_X4_under] at h
  refine lv_aload_n hx hb dX4_under_0 rfl (lv_at hl 0 rfl) ?_
  refine lv_iload_n hx hb dX4_under_1 rfl (lv_at hl 1 rfl) ?_
  obtain ⟨r1, er1, h⟩ := bd_some h
  refine ro_V (As := [.int p1]) (rest := []) X hP hS hl.1 (c_X4_isAct l D cI cG q S _ p1 er1) lk_X4_71 (rc_X4_X4 X hP) ⟨by decide, by decide⟩ rfl rfl (Nat.le_of_ble_eq_true rfl) dX4_under_2 ⟨Nat.le_refl _, Nat.le_refl _⟩ (fun locs hS => ?_)
  refine lv_if_ne (tgt := 10) hx hb dX4_under_5 (by decide) (fun c2 => ?_) (fun c2 => ?_)
  · have h := ff_some h c2
    refine lv_aload_n hx hb dX4_under_10 rfl (lv_at hl 0 rfl) ?_
    refine lv_iload_n hx hb dX4_under_11 rfl (lv_at hl 1 rfl) ?_
    obtain ⟨r3, er3, h⟩ := bd_some h
    refine ro_V (As := [.int p1]) (rest := []) X hP hS hl.1 (c_X4_namedBy l D cI cG q S _ F p1 er3) lk_X4_145 (rc_X4_X4 X hP) ⟨by decide, by decide⟩ rfl rfl (Nat.le_of_ble_eq_true rfl) dX4_under_12 ⟨Nat.le_refl _, Nat.le_refl _⟩ (fun locs hS => ?_)
    refine lv_istore_n (lv' := [(2, .int r3), (0, .ref (q 0)), (1, .int p1)]) hx hb dX4_under_15 rfl hl (by decide) rfl (fun ls hl => ?_)
    refine lv_iconst (v := 0) hx hb dX4_under_16 (by decide) ?_
    refine lv_istore_n (lv' := [(3, .int 0), (2, .int r3), (0, .ref (q 0)), (1, .int p1)]) hx hb dX4_under_17 rfl hl (by decide) rfl (fun ls hl => ?_)
    exact wk_X4_under_18 X hP F r3 0 ls _ (lv_sub hl [2, 1, 0] rfl) hS h
  · have h := tt_some h c2
    refine lv_iconst (v := (-1 : Int32)) hx hb dX4_under_8 (by decide) ?_
    exact ro_ret X hS h dX4_under_9
set_option maxHeartbeats 4000000 in
set_option maxRecDepth 100000 in
theorem c_X4_fallOf (l : Launch) (D : va_G) (cI cG : ClassId) (q : Nat → Nat) (S : St) (H : Heap) (F : Nat) (p1 p2 : Int32) {r : Int32} (h : m_X4_fallOf F S p1 p2 = some r) : RoM l yX4_fallOf cX4_fallOf 4 (some .int) 5 119 [.ref (q 0), .int p1, .int p2] D cI cG (wM cI cG q S) H r := by
  refine RoM.of (own := RX4) (by decide) rfl (Nat.le_of_ble_eq_true rfl) ?_
  intro p e s m args below meth c ls X hP hS hl0
  have hl : lv_has ls 4 [(0, .ref (q 0)), (1, .int p1), (2, .int p2)] := hl0 _ (lv_entry [.ref (q 0), .int p1, .int p2] (n := 4) (Nat.le_of_ble_eq_true rfl))
  have hx := X.1
  have hb := X.2.1
  rw [m_X4_fallOf] at h
  refine lv_aload_n hx hb dX4_fallOf_0 rfl (lv_at hl 0 rfl) ?_
  refine lv_iload_n hx hb dX4_fallOf_1 rfl (lv_at hl 2 rfl) ?_
  obtain ⟨r1, er1, h⟩ := bd_some h
  refine ro_V (As := [.int p2]) (rest := []) X hP hS hl.1 (c_X4_soundOf l D cI cG q S _ F p2 er1) lk_X4_131 (rc_X4_X4 X hP) ⟨by decide, by decide⟩ rfl rfl (Nat.le_of_ble_eq_true rfl) dX4_fallOf_2 ⟨Nat.le_refl _, Nat.le_refl _⟩ (fun locs hS => ?_)
  refine lv_istore_n (lv' := [(3, .int r1), (0, .ref (q 0)), (1, .int p1), (2, .int p2)]) hx hb dX4_fallOf_5 rfl hl (by decide) rfl (fun ls hl => ?_)
  refine lv_aload_n hx hb dX4_fallOf_6 rfl (lv_at hl 1 rfl) ?_
  refine lv_iload_n hx hb dX4_fallOf_7 rfl (lv_at hl 0 rfl) ?_
  obtain ⟨r2, er2, h⟩ := bd_some h
  refine ro_V (As := [.int r1]) (rest := []) X hP hS hl.1 (c_X4_mostOf l D cI cG q S _ F r1 er2) lk_X4_134 (rc_X4_X4 X hP) ⟨by decide, by decide⟩ rfl rfl (Nat.le_of_ble_eq_true rfl) dX4_fallOf_8 ⟨Nat.le_refl _, Nat.le_refl _⟩ (fun locs hS => ?_)
  refine lv_aload_n hx hb dX4_fallOf_11 rfl (lv_at hl 1 rfl) ?_
  refine lv_iload_n hx hb dX4_fallOf_12 rfl (lv_at hl 0 rfl) ?_
  refine lv_iconst (v := 1) hx hb dX4_fallOf_13 (by decide) ?_
  refine lv_iload_n hx hb dX4_fallOf_14 rfl (lv_at hl 2 rfl) ?_
  refine lv_ishl hx hb dX4_fallOf_15 ?_
  refine lv_iconst (v := (-1 : Int32)) hx hb dX4_fallOf_16 (by decide) ?_
  refine lv_ixor hx hb dX4_fallOf_17 ?_
  refine lv_iand hx hb dX4_fallOf_18 ?_
  obtain ⟨r3, er3, h⟩ := bd_some h
  refine ro_V (As := [.int (r1 &&& ((1 <<< (p1 &&& 31)) ^^^ (-1)))]) (rest := [.int r2]) X hP hS hl.1 (c_X4_mostOf l D cI cG q S _ F (r1 &&& ((1 <<< (p1 &&& 31)) ^^^ (-1))) er3) lk_X4_134 (rc_X4_X4 X hP) ⟨by decide, by decide⟩ rfl rfl (Nat.le_of_ble_eq_true rfl) dX4_fallOf_19 ⟨Nat.le_refl _, Nat.le_refl _⟩ (fun locs hS => ?_)
  refine lv_iconst (v := (-1 : Int32)) hx hb dX4_fallOf_22 (by decide) ?_
  refine lv_ixor hx hb dX4_fallOf_23 ?_
  refine lv_iand hx hb dX4_fallOf_24 ?_
  exact ro_ret X hS h dX4_fallOf_25
set_option maxHeartbeats 4000000 in
set_option maxRecDepth 100000 in
theorem wk_X4_fall_72 {p : Program} {l : Launch} {e : Env} {s : State} {m : MethodId} {args : Array Value} {below : List Frame} {meth : Method} {c : Code} {D : va_G} {cI cG : ClassId} {q : Nat → Nat} {S : St} {H : Heap} {r : Int32} {F : Nat} {p1 p2 p3 p4 : Int32}  (X : Cx p s m args meth c cX4_fall 8 (some .int) RX4 D cI cG) (hP : va_P D vwCl (wM cI cG q S) H)  : ∀ (n : Nat) (x5 : Int32) (x6 : Int32) (x7 : Int32) (ls : Array Slot) (locs : List Loc), lv_has ls 8 [(0, .ref (q 0)), (4, .int p4), (5, .int x5), (6, .int x6), (7, .int x7)] → va_S no s.heap H locs → m_X4_fall_72 F S p1 p2 p3 p4 n x5 x6 x7 = some r → W p l e { frames := 6, cells := 0, slots := 0, locals := 142 } s m args below meth c H locs 0 0 (MQ below (roQ H r) args s 0 0 no) (F0 m 72 ls []) := by
  have hx := X.1
  have hb := X.2.1
  intro n
  induction n with
  | zero =>
    intro x5 x6 x7 ls locs hl hS h
    exact no_none (show none = some r from h)
  | succ n ih =>
    intro x5 x6 x7 ls locs hl hS h
    rw [m_X4_fall_72] at h
    refine lv_iload hx hb dX4_fall_72 (lv_at hl 3 rfl) ?_
    refine lv_if_eq (tgt := 110) hx hb dX4_fall_74 (by decide) (fun c13 => ?_) (fun c13 => ?_)
    · have h := tt_some h c13
      refine lv_iload hx hb dX4_fall_110 (lv_at hl 1 rfl) ?_
      refine lv_iconst (v := (-1 : Int32)) hx hb dX4_fall_112 (by decide) ?_
      refine lv_icmp_ne (tgt := 121) hx hb dX4_fall_113 (by decide) (fun c14 => ?_) (fun c14 => ?_)
      · have h := ff_some h c14
        refine lv_bipush (v := (-6 : Int32)) hx hb dX4_fall_121 (by decide) ?_
        exact ro_ret X hS h dX4_fall_123
      · have h := tt_some h c14
        refine lv_iload hx hb dX4_fall_116 (lv_at hl 4 rfl) ?_
        refine lv_goto (tgt := 123) hx hb dX4_fall_118 (by decide) ?_
        exact ro_ret X hS h dX4_fall_123
    · have h := ff_some h c13
      refine lv_iload hx hb dX4_fall_77 (lv_at hl 4 rfl) ?_
      refine lv_iload hx hb dX4_fall_79 (lv_at hl 1 rfl) ?_
      refine lv_icmp_ne (tgt := 87) hx hb dX4_fall_81 (by decide) (fun c15 => ?_) (fun c15 => ?_)
      · have h := ff_some h c15
        obtain ⟨v16, ev16⟩ : ∃ y : Int32, y = x7 + 1 := ⟨_, rfl⟩
        have h := nm_some h ev16
        refine lv_iinc (v := v16) (lv' := [(7, .int v16), (0, .ref (q 0)), (4, .int p4), (5, .int x5), (6, .int x6)]) hx hb dX4_fall_87 hl (k := 4) rfl (by rw [ev16]; rfl) (by decide) rfl (fun ls hl => ?_)
        refine lv_iload hx hb dX4_fall_90 (lv_at hl 3 rfl) ?_
        refine lv_iload hx hb dX4_fall_92 (lv_at hl 4 rfl) ?_
        refine lv_iconst (v := (-1 : Int32)) hx hb dX4_fall_94 (by decide) ?_
        refine lv_ixor hx hb dX4_fall_95 ?_
        refine lv_iand hx hb dX4_fall_96 ?_
        refine lv_topi (fun v17 ev17 => ?_)
        have h := nm_some h ev17
        refine lv_istore (lv' := [(5, .int v17), (7, .int v16), (0, .ref (q 0)), (4, .int p4), (6, .int x6)]) hx hb dX4_fall_97 hl (by decide) rfl (fun ls hl => ?_)
        refine lv_aload_n hx hb dX4_fall_99 rfl (lv_at hl 2 rfl) ?_
        refine lv_iload hx hb dX4_fall_100 (lv_at hl 0 rfl) ?_
        obtain ⟨r18, er18, h⟩ := bd_some h
        refine ro_V (As := [.int v17]) (rest := []) X hP hS hl.1 (c_X4_loose l D cI cG q S _ F v17 er18) lk_X4_127 (rc_X4_X4 X hP) ⟨by decide, by decide⟩ rfl rfl (Nat.le_of_ble_eq_true rfl) dX4_fall_102 ⟨Nat.le_refl _, Nat.le_refl _⟩ (fun locs hS => ?_)
        refine lv_istore (lv' := [(6, .int r18), (5, .int v17), (7, .int v16), (0, .ref (q 0)), (4, .int p4)]) hx hb dX4_fall_105 hl (by decide) rfl (fun ls hl => ?_)
        refine lv_goto (tgt := 72) hx hb dX4_fall_107 (by decide) ?_
        exact ih v17 r18 v16 ls _ (lv_sub hl [3, 4, 1, 0, 2] rfl) hS h
      · have h := tt_some h c15
        refine lv_iload hx hb dX4_fall_84 (lv_at hl 3 rfl) ?_
        exact ro_ret X hS h dX4_fall_86
set_option maxHeartbeats 4000000 in
set_option maxRecDepth 100000 in
theorem c_X4_fall (l : Launch) (D : va_G) (cI cG : ClassId) (q : Nat → Nat) (S : St) (H : Heap) (F : Nat) (p1 p2 p3 p4 : Int32) {r : Int32} (h : m_X4_fall F S p1 p2 p3 p4 = some r) : RoM l yX4_fall cX4_fall 8 (some .int) 6 142 [.ref (q 0), .int p1, .int p2, .int p3, .int p4] D cI cG (wM cI cG q S) H r := by
  refine RoM.of (own := RX4) (by decide) rfl (Nat.le_of_ble_eq_true rfl) ?_
  intro p e s m args below meth c ls X hP hS hl0
  have hl : lv_has ls 8 [(0, .ref (q 0)), (1, .int p1), (2, .int p2), (3, .int p3), (4, .int p4)] := hl0 _ (lv_entry [.ref (q 0), .int p1, .int p2, .int p3, .int p4] (n := 8) (Nat.le_of_ble_eq_true rfl))
  have hx := X.1
  have hb := X.2.1
  rw [m_X4_fall] at h
  refine lv_aload_n hx hb dX4_fall_0 rfl (lv_at hl 0 rfl) ?_
  refine lv_iload_n hx hb dX4_fall_1 rfl (lv_at hl 1 rfl) ?_
  obtain ⟨r1, er1, h⟩ := bd_some h
  refine ro_V (As := [.int p1]) (rest := []) X hP hS hl.1 (c_X4_isAct l D cI cG q S _ p1 er1) lk_X4_71 (rc_X4_X4 X hP) ⟨by decide, by decide⟩ rfl rfl (Nat.le_of_ble_eq_true rfl) dX4_fall_2 ⟨Nat.le_refl _, Nat.le_refl _⟩ (fun locs hS => ?_)
  refine lv_if_eq (tgt := 15) hx hb dX4_fall_5 (by decide) (fun c2 => ?_) (fun c2 => ?_)
  · have h := tt_some h c2
    refine lv_iconst (v := (-1 : Int32)) hx hb dX4_fall_15 (by decide) ?_
    exact ro_ret X hS h dX4_fall_16
  · have h := ff_some h c2
    refine lv_iload_n hx hb dX4_fall_8 rfl (lv_at hl 2 rfl) ?_
    obtain ⟨r3, er3, h⟩ := bd_some h
    refine ro_S (As := [.int p2]) (rest := []) X hP hS hl.1 (c_X4_isWho l D cI cG _ _ p2 er3) lk_X4_64 ⟨by decide, by decide⟩ rfl rfl (Nat.le_of_ble_eq_true rfl) dX4_fall_9 ⟨Nat.le_refl _, Nat.le_refl _⟩ (fun locs hS => ?_)
    refine lv_if_ne (tgt := 17) hx hb dX4_fall_12 (by decide) (fun c4 => ?_) (fun c4 => ?_)
    · have h := ff_some h c4
      refine lv_iload_n hx hb dX4_fall_17 rfl (lv_at hl 3 rfl) ?_
      obtain ⟨r5, er5, h⟩ := bd_some h
      refine ro_S (As := [.int p3]) (rest := []) X hP hS hl.1 (c_X4_isDay l D cI cG _ _ p3 er5) lk_X4_68 ⟨by decide, by decide⟩ rfl rfl (Nat.le_of_ble_eq_true rfl) dX4_fall_18 ⟨Nat.le_refl _, Nat.le_refl _⟩ (fun locs hS => ?_)
      refine lv_if_ne (tgt := 27) hx hb dX4_fall_21 (by decide) (fun c6 => ?_) (fun c6 => ?_)
      · have h := ff_some h c6
        refine lv_aload_n hx hb dX4_fall_27 rfl (lv_at hl 0 rfl) ?_
        refine lv_iload_n hx hb dX4_fall_28 rfl (lv_at hl 1 rfl) ?_
        refine lv_iload_n hx hb dX4_fall_29 rfl (lv_at hl 2 rfl) ?_
        refine lv_iload_n hx hb dX4_fall_30 rfl (lv_at hl 3 rfl) ?_
        obtain ⟨r7, er7, h⟩ := bd_some h
        refine ro_V (As := [.int p1, .int p2, .int p3]) (rest := []) X hP hS hl.1 (c_X4_wouldCount l D cI cG q S _ p1 p2 p3 er7) lk_X4_111 (rc_X4_X4 X hP) ⟨by decide, by decide⟩ rfl rfl (Nat.le_of_ble_eq_true rfl) dX4_fall_31 ⟨Nat.le_refl _, Nat.le_refl _⟩ (fun locs hS => ?_)
        refine lv_if_ne (tgt := 40) hx hb dX4_fall_34 (by decide) (fun c8 => ?_) (fun c8 => ?_)
        · have h := ff_some h c8
          refine lv_aload_n hx hb dX4_fall_40 rfl (lv_at hl 0 rfl) ?_
          refine lv_iload_n hx hb dX4_fall_41 rfl (lv_at hl 3 rfl) ?_
          obtain ⟨r9, er9, h⟩ := bd_some h
          refine ro_V (As := [.int p3]) (rest := []) X hP hS hl.1 (c_X4_standing l D cI cG q S _ F p3 er9) lk_X4_142 (rc_X4_X4 X hP) ⟨by decide, by decide⟩ rfl rfl (Nat.le_of_ble_eq_true rfl) dX4_fall_42 ⟨Nat.le_refl _, Nat.le_refl _⟩ (fun locs hS => ?_)
          refine lv_istore (lv' := [(5, .int r9), (0, .ref (q 0)), (1, .int p1), (2, .int p2), (3, .int p3), (4, .int p4)]) hx hb dX4_fall_45 hl (by decide) rfl (fun ls hl => ?_)
          refine lv_iload hx hb dX4_fall_47 (lv_at hl 0 rfl) ?_
          refine lv_iconst (v := 1) hx hb dX4_fall_49 (by decide) ?_
          refine lv_iload_n hx hb dX4_fall_50 rfl (lv_at hl 2 rfl) ?_
          refine lv_ishl hx hb dX4_fall_51 ?_
          refine lv_iand hx hb dX4_fall_52 ?_
          refine lv_topi (fun v10 ev10 => ?_)
          have h := nm_some h ev10
          refine lv_istore (lv' := [(6, .int v10), (5, .int r9), (0, .ref (q 0)), (1, .int p1), (2, .int p2), (3, .int p3), (4, .int p4)]) hx hb dX4_fall_53 hl (by decide) rfl (fun ls hl => ?_)
          refine lv_iload hx hb dX4_fall_55 (lv_at hl 6 rfl) ?_
          refine lv_bipush (v := (-2 : Int32)) hx hb dX4_fall_57 (by decide) ?_
          refine lv_icmp_ne (tgt := 69) hx hb dX4_fall_59 (by decide) (fun c11 => ?_) (fun c11 => ?_)
          · have h := ff_some h c11
            refine lv_iconst (v := 0) hx hb dX4_fall_69 (by decide) ?_
            refine lv_istore (lv' := [(7, .int 0), (6, .int v10), (5, .int r9), (0, .ref (q 0)), (1, .int p1), (2, .int p2), (3, .int p3), (4, .int p4)]) hx hb dX4_fall_70 hl (by decide) rfl (fun ls hl => ?_)
            exact wk_X4_fall_72 X hP F r9 v10 0 ls _ (lv_sub hl [3, 7, 2, 1, 0] rfl) hS h
          · have h := tt_some h c11
            refine lv_aload_n hx hb dX4_fall_62 rfl (lv_at hl 2 rfl) ?_
            refine lv_iload_n hx hb dX4_fall_63 rfl (lv_at hl 3 rfl) ?_
            refine lv_iload_n hx hb dX4_fall_64 rfl (lv_at hl 5 rfl) ?_
            obtain ⟨r12, er12, h⟩ := bd_some h
            refine ro_V (As := [.int p1, .int p3]) (rest := []) X hP hS hl.1 (c_X4_fallOf l D cI cG q S _ F p1 p3 er12) lk_X4_148 (rc_X4_X4 X hP) ⟨by decide, by decide⟩ rfl rfl (Nat.le_of_ble_eq_true rfl) dX4_fall_65 ⟨Nat.le_refl _, Nat.le_refl _⟩ (fun locs hS => ?_)
            exact ro_ret X hS h dX4_fall_68
        · have h := tt_some h c8
          refine lv_bipush (v := (-5 : Int32)) hx hb dX4_fall_37 (by decide) ?_
          exact ro_ret X hS h dX4_fall_39
      · have h := tt_some h c6
        refine lv_bipush (v := (-2 : Int32)) hx hb dX4_fall_24 (by decide) ?_
        exact ro_ret X hS h dX4_fall_26
    · have h := tt_some h c4
      refine lv_iconst (v := (-1 : Int32)) hx hb dX4_fall_15 (by decide) ?_
      exact ro_ret X hS h dX4_fall_16
set_option maxHeartbeats 4000000 in
set_option maxRecDepth 100000 in
theorem wk_X4_backOf_14 {p : Program} {l : Launch} {e : Env} {s : State} {m : MethodId} {args : Array Value} {below : List Frame} {meth : Method} {c : Code} {D : va_G} {cI cG : ClassId} {q : Nat → Nat} {S : St} {H : Heap} {r : Int32} {F : Nat} {p1 p2 p3 : Int32}  (X : Cx p s m args meth c cX4_backOf 8 (some .int) RX4 D cI cG) (hP : va_P D vwCl (wM cI cG q S) H)  : ∀ (n : Nat) (x4 : Int32) (x5 : Int32) (x6 : Int32) (ls : Array Slot) (locs : List Loc), lv_has ls 8 [(0, .ref (q 0)), (2, .int p2), (3, .int p3), (4, .int x4), (5, .int x5), (6, .int x6)] → va_S no s.heap H locs → m_X4_backOf_14 F S p1 p2 p3 n x4 x5 x6 = some r → W p l e { frames := 6, cells := 0, slots := 0, locals := 142 } s m args below meth c H locs 0 0 (MQ below (roQ H r) args s 0 0 no) (F0 m 14 ls []) := by
  have hx := X.1
  have hb := X.2.1
  intro n
  induction n with
  | zero =>
    intro x4 x5 x6 ls locs hl hS h
    exact no_none (show none = some r from h)
  | succ n ih =>
    intro x4 x5 x6 ls locs hl hS h
    rw [m_X4_backOf_14] at h
    refine lv_iload hx hb dX4_backOf_14 (lv_at hl 5 rfl) ?_
    refine lv_aload_n hx hb dX4_backOf_16 rfl (lv_at hl 0 rfl) ?_
    refine gf_X4_61 X hP dX4_backOf_17 ?_
    refine lv_icmp_ge (tgt := 114) hx hb dX4_backOf_20 (by decide) (fun c2 => ?_) (fun c2 => ?_)
    · have h := tt_some h c2
      refine lv_iload hx hb dX4_backOf_114 (lv_at hl 4 rfl) ?_
      exact ro_ret X hS h dX4_backOf_116
    · have h := ff_some h c2
      refine lv_iload hx hb dX4_backOf_23 (lv_at hl 3 rfl) ?_
      refine lv_iload hx hb dX4_backOf_25 (lv_at hl 5 rfl) ?_
      refine lv_ishr hx hb dX4_backOf_27 ?_
      refine lv_iconst (v := 1) hx hb dX4_backOf_28 (by decide) ?_
      refine lv_iand hx hb dX4_backOf_29 ?_
      refine lv_iconst (v := 1) hx hb dX4_backOf_30 (by decide) ?_
      refine lv_icmp_ne (tgt := 108) hx hb dX4_backOf_31 (by decide) (fun c3 => ?_) (fun c3 => ?_)
      · have h := ff_some h c3
        obtain ⟨v4, ev4⟩ : ∃ y : Int32, y = x6 + 1 := ⟨_, rfl⟩
        have h := nm_some h ev4
        refine lv_iinc (v := v4) (lv' := [(6, .int v4), (0, .ref (q 0)), (2, .int p2), (3, .int p3), (4, .int x4), (5, .int x5)]) hx hb dX4_backOf_108 hl (k := 5) rfl (by rw [ev4]; rfl) (by decide) rfl (fun ls hl => ?_)
        refine lv_goto (tgt := 14) hx hb dX4_backOf_111 (by decide) ?_
        exact ih x4 x5 v4 ls _ (lv_sub hl [1, 2, 3, 4, 5, 0] rfl) hS h
      · have h := tt_some h c3
        refine lv_aload_n hx hb dX4_backOf_34 rfl (lv_at hl 0 rfl) ?_
        refine gf_X4_19 X hP dX4_backOf_35 ?_
        refine lv_iload hx hb dX4_backOf_38 (lv_at hl 5 rfl) ?_
        obtain ⟨hi5, h⟩ := gd_some h
        refine ro_ald X hP 4 wM_4 hi5 dX4_backOf_40 ?_
        refine lv_aload_n hx hb dX4_backOf_41 rfl (lv_at hl 0 rfl) ?_
        refine gf_X4_19 X hP dX4_backOf_42 ?_
        refine lv_iload hx hb dX4_backOf_45 (lv_at hl 5 rfl) ?_
        obtain ⟨hi6, h⟩ := gd_some h
        refine ro_ald X hP 4 wM_4 hi6 dX4_backOf_47 ?_
        refine lv_aload_n hx hb dX4_backOf_48 rfl (lv_at hl 0 rfl) ?_
        refine gf_X4_49 X hP dX4_backOf_49 ?_
        refine lv_imul hx hb dX4_backOf_52 ?_
        refine lv_iload_n hx hb dX4_backOf_53 rfl (lv_at hl 1 rfl) ?_
        refine lv_aload_n hx hb dX4_backOf_54 rfl (lv_at hl 0 rfl) ?_
        refine gf_X4_7 X hP dX4_backOf_55 ?_
        refine lv_iload hx hb dX4_backOf_58 (lv_at hl 5 rfl) ?_
        obtain ⟨hi7, h⟩ := gd_some h
        refine ro_ald X hP 1 wM_1 hi7 dX4_backOf_60 ?_
        refine lv_isub hx hb dX4_backOf_61 ?_
        refine lv_imul hx hb dX4_backOf_62 ?_
        refine lv_bipush (v := 100) hx hb dX4_backOf_63 (by decide) ?_
        refine lv_idiv hx hb dX4_backOf_65 (by decide) ?_
        refine lv_iadd hx hb dX4_backOf_66 ?_
        refine lv_topi (fun v8 ev8 => ?_)
        have h := nm_some h ev8
        refine lv_istore (lv' := [(7, .int v8), (0, .ref (q 0)), (2, .int p2), (3, .int p3), (4, .int x4), (5, .int x5), (6, .int x6)]) hx hb dX4_backOf_67 hl (by decide) rfl (fun ls hl => ?_)
        refine lv_iload hx hb dX4_backOf_69 (lv_at hl 5 rfl) ?_
        refine lv_aload_n hx hb dX4_backOf_71 rfl (lv_at hl 1 rfl) ?_
        refine gf_X4_13 X hP dX4_backOf_72 ?_
        refine lv_iload hx hb dX4_backOf_75 (lv_at hl 6 rfl) ?_
        obtain ⟨hi9, h⟩ := gd_some h
        refine ro_ald X hP 2 wM_2 hi9 dX4_backOf_77 ?_
        refine lv_iload_n hx hb dX4_backOf_78 rfl (lv_at hl 3 rfl) ?_
        refine lv_icmp_ne (tgt := 87) hx hb dX4_backOf_79 (by decide) (fun c10 => ?_) (fun c10 => ?_)
        · have h := ff_some h c10
          refine lv_aload_n hx hb dX4_backOf_87 rfl (lv_at hl 1 rfl) ?_
          refine gf_X4_16 X hP dX4_backOf_88 ?_
          refine lv_iload hx hb dX4_backOf_91 (lv_at hl 6 rfl) ?_
          obtain ⟨hi11, h⟩ := gd_some h
          refine ro_ald X hP 3 wM_3 hi11 dX4_backOf_93 ?_
          refine lv_iload_n hx hb dX4_backOf_94 rfl (lv_at hl 3 rfl) ?_
          refine lv_icmp_ne (tgt := 104) hx hb dX4_backOf_95 (by decide) (fun c12 => ?_) (fun c12 => ?_)
          · have h := ff_some h c12
            refine lv_iconst (v := 0) hx hb dX4_backOf_104 (by decide) ?_
            refine lv_iadd hx hb dX4_backOf_105 ?_
            refine lv_topi (fun v13 ev13 => ?_)
            have h := nm_some h ev13
            refine lv_istore (lv' := [(5, .int v13), (7, .int v8), (0, .ref (q 0)), (2, .int p2), (3, .int p3), (4, .int x4), (6, .int x6)]) hx hb dX4_backOf_106 hl (by decide) rfl (fun ls hl => ?_)
            obtain ⟨v14, ev14⟩ : ∃ y : Int32, y = x6 + 1 := ⟨_, rfl⟩
            have h := nm_some h ev14
            refine lv_iinc (v := v14) (lv' := [(6, .int v14), (5, .int v13), (7, .int v8), (0, .ref (q 0)), (2, .int p2), (3, .int p3), (4, .int x4)]) hx hb dX4_backOf_108 hl (k := 6) rfl (by rw [ev14]; rfl) (by decide) rfl (fun ls hl => ?_)
            refine lv_goto (tgt := 14) hx hb dX4_backOf_111 (by decide) ?_
            exact ih x4 v13 v14 ls _ (lv_sub hl [3, 4, 5, 6, 1, 0] rfl) hS h
          · have h := tt_some h c12
            refine lv_iload hx hb dX4_backOf_98 (lv_at hl 0 rfl) ?_
            refine lv_ineg hx hb dX4_backOf_100 ?_
            refine lv_goto (tgt := 105) hx hb dX4_backOf_101 (by decide) ?_
            refine lv_iadd hx hb dX4_backOf_105 ?_
            refine lv_topi (fun v15 ev15 => ?_)
            have h := nm_some h ev15
            refine lv_istore (lv' := [(5, .int v15), (7, .int v8), (0, .ref (q 0)), (2, .int p2), (3, .int p3), (4, .int x4), (6, .int x6)]) hx hb dX4_backOf_106 hl (by decide) rfl (fun ls hl => ?_)
            obtain ⟨v16, ev16⟩ : ∃ y : Int32, y = x6 + 1 := ⟨_, rfl⟩
            have h := nm_some h ev16
            refine lv_iinc (v := v16) (lv' := [(6, .int v16), (5, .int v15), (7, .int v8), (0, .ref (q 0)), (2, .int p2), (3, .int p3), (4, .int x4)]) hx hb dX4_backOf_108 hl (k := 6) rfl (by rw [ev16]; rfl) (by decide) rfl (fun ls hl => ?_)
            refine lv_goto (tgt := 14) hx hb dX4_backOf_111 (by decide) ?_
            exact ih x4 v15 v16 ls _ (lv_sub hl [3, 4, 5, 6, 1, 0] rfl) hS h
        · have h := tt_some h c10
          refine lv_iload hx hb dX4_backOf_82 (lv_at hl 0 rfl) ?_
          refine lv_goto (tgt := 105) hx hb dX4_backOf_84 (by decide) ?_
          refine lv_iadd hx hb dX4_backOf_105 ?_
          refine lv_topi (fun v17 ev17 => ?_)
          have h := nm_some h ev17
          refine lv_istore (lv' := [(5, .int v17), (7, .int v8), (0, .ref (q 0)), (2, .int p2), (3, .int p3), (4, .int x4), (6, .int x6)]) hx hb dX4_backOf_106 hl (by decide) rfl (fun ls hl => ?_)
          obtain ⟨v18, ev18⟩ : ∃ y : Int32, y = x6 + 1 := ⟨_, rfl⟩
          have h := nm_some h ev18
          refine lv_iinc (v := v18) (lv' := [(6, .int v18), (5, .int v17), (7, .int v8), (0, .ref (q 0)), (2, .int p2), (3, .int p3), (4, .int x4)]) hx hb dX4_backOf_108 hl (k := 6) rfl (by rw [ev18]; rfl) (by decide) rfl (fun ls hl => ?_)
          refine lv_goto (tgt := 14) hx hb dX4_backOf_111 (by decide) ?_
          exact ih x4 v17 v18 ls _ (lv_sub hl [3, 4, 5, 6, 1, 0] rfl) hS h
set_option maxHeartbeats 4000000 in
set_option maxRecDepth 100000 in
theorem c_X4_backOf (l : Launch) (D : va_G) (cI cG : ClassId) (q : Nat → Nat) (S : St) (H : Heap) (F : Nat) (p1 p2 p3 : Int32) {r : Int32} (h : m_X4_backOf F S p1 p2 p3 = some r) : RoM l yX4_backOf cX4_backOf 8 (some .int) 6 142 [.ref (q 0), .int p1, .int p2, .int p3] D cI cG (wM cI cG q S) H r := by
  refine RoM.of (own := RX4) (by decide) rfl (Nat.le_of_ble_eq_true rfl) ?_
  intro p e s m args below meth c ls X hP hS hl0
  have hl : lv_has ls 8 [(0, .ref (q 0)), (1, .int p1), (2, .int p2), (3, .int p3)] := hl0 _ (lv_entry [.ref (q 0), .int p1, .int p2, .int p3] (n := 8) (Nat.le_of_ble_eq_true rfl))
  have hx := X.1
  have hb := X.2.1
  rw [m_X4_backOf] at h
  refine lv_aload_n hx hb dX4_backOf_0 rfl (lv_at hl 0 rfl) ?_
  refine lv_iload_n hx hb dX4_backOf_1 rfl (lv_at hl 1 rfl) ?_
  refine lv_iload_n hx hb dX4_backOf_2 rfl (lv_at hl 2 rfl) ?_
  obtain ⟨r1, er1, h⟩ := bd_some h
  refine ro_V (As := [.int p1, .int p2]) (rest := []) X hP hS hl.1 (c_X4_fallOf l D cI cG q S _ F p1 p2 er1) lk_X4_148 (rc_X4_X4 X hP) ⟨by decide, by decide⟩ rfl rfl (Nat.le_of_ble_eq_true rfl) dX4_backOf_3 ⟨Nat.le_refl _, Nat.le_refl _⟩ (fun locs hS => ?_)
  refine lv_istore (lv' := [(4, .int r1), (0, .ref (q 0)), (1, .int p1), (2, .int p2), (3, .int p3)]) hx hb dX4_backOf_6 hl (by decide) rfl (fun ls hl => ?_)
  refine lv_iconst (v := 0) hx hb dX4_backOf_8 (by decide) ?_
  refine lv_istore (lv' := [(5, .int 0), (4, .int r1), (0, .ref (q 0)), (1, .int p1), (2, .int p2), (3, .int p3)]) hx hb dX4_backOf_9 hl (by decide) rfl (fun ls hl => ?_)
  refine lv_iconst (v := 0) hx hb dX4_backOf_11 (by decide) ?_
  refine lv_istore (lv' := [(6, .int 0), (5, .int 0), (4, .int r1), (0, .ref (q 0)), (1, .int p1), (2, .int p2), (3, .int p3)]) hx hb dX4_backOf_12 hl (by decide) rfl (fun ls hl => ?_)
  exact wk_X4_backOf_14 X hP F r1 0 0 ls _ (lv_sub hl [3, 5, 6, 2, 1, 0] rfl) hS h
set_option maxHeartbeats 4000000 in
set_option maxRecDepth 100000 in
theorem c_X4_back (l : Launch) (D : va_G) (cI cG : ClassId) (q : Nat → Nat) (S : St) (H : Heap) (F : Nat) (p1 p2 p3 p4 : Int32) {r : Int32} (h : m_X4_back F S p1 p2 p3 p4 = some r) : RoM l yX4_back cX4_back 5 (some .int) 7 169 [.ref (q 0), .int p1, .int p2, .int p3, .int p4] D cI cG (wM cI cG q S) H r := by
  refine RoM.of (own := RX4) (by decide) rfl (Nat.le_of_ble_eq_true rfl) ?_
  intro p e s m args below meth c ls X hP hS hl0
  have hl : lv_has ls 5 [(0, .ref (q 0)), (1, .int p1), (2, .int p2), (3, .int p3), (4, .int p4)] := hl0 _ (lv_entry [.ref (q 0), .int p1, .int p2, .int p3, .int p4] (n := 5) (Nat.le_of_ble_eq_true rfl))
  have hx := X.1
  have hb := X.2.1
  rw [m_X4_back] at h
  refine lv_aload_n hx hb dX4_back_0 rfl (lv_at hl 0 rfl) ?_
  refine lv_iload_n hx hb dX4_back_1 rfl (lv_at hl 1 rfl) ?_
  obtain ⟨r1, er1, h⟩ := bd_some h
  refine ro_V (As := [.int p1]) (rest := []) X hP hS hl.1 (c_X4_isAct l D cI cG q S _ p1 er1) lk_X4_71 (rc_X4_X4 X hP) ⟨by decide, by decide⟩ rfl rfl (Nat.le_of_ble_eq_true rfl) dX4_back_2 ⟨Nat.le_refl _, Nat.le_refl _⟩ (fun locs hS => ?_)
  refine lv_if_eq (tgt := 23) hx hb dX4_back_5 (by decide) (fun c2 => ?_) (fun c2 => ?_)
  · have h := tt_some h c2
    refine lv_ldc (v := (-1000000001 : Int32)) hx hb X.2.2.2.2.2.1 (X.2.2.2.2.2.2.1 _ w_k_X4_152) dX4_back_23 ?_
    exact ro_ret X hS h dX4_back_25
  · have h := ff_some h c2
    refine lv_iload_n hx hb dX4_back_8 rfl (lv_at hl 2 rfl) ?_
    obtain ⟨r3, er3, h⟩ := bd_some h
    refine ro_S (As := [.int p2]) (rest := []) X hP hS hl.1 (c_X4_isWho l D cI cG _ _ p2 er3) lk_X4_64 ⟨by decide, by decide⟩ rfl rfl (Nat.le_of_ble_eq_true rfl) dX4_back_9 ⟨Nat.le_refl _, Nat.le_refl _⟩ (fun locs hS => ?_)
    refine lv_if_eq (tgt := 23) hx hb dX4_back_12 (by decide) (fun c4 => ?_) (fun c4 => ?_)
    · have h := tt_some h c4
      refine lv_ldc (v := (-1000000001 : Int32)) hx hb X.2.2.2.2.2.1 (X.2.2.2.2.2.2.1 _ w_k_X4_152) dX4_back_23 ?_
      exact ro_ret X hS h dX4_back_25
    · have h := ff_some h c4
      refine lv_iload hx hb dX4_back_15 (lv_at hl 4 rfl) ?_
      obtain ⟨r5, er5, h⟩ := bd_some h
      refine ro_S (As := [.int p4]) (rest := []) X hP hS hl.1 (c_X4_isWho l D cI cG _ _ p4 er5) lk_X4_64 ⟨by decide, by decide⟩ rfl rfl (Nat.le_of_ble_eq_true rfl) dX4_back_17 ⟨Nat.le_refl _, Nat.le_refl _⟩ (fun locs hS => ?_)
      refine lv_if_ne (tgt := 26) hx hb dX4_back_20 (by decide) (fun c6 => ?_) (fun c6 => ?_)
      · have h := ff_some h c6
        refine lv_iload_n hx hb dX4_back_26 rfl (lv_at hl 3 rfl) ?_
        obtain ⟨r7, er7, h⟩ := bd_some h
        refine ro_S (As := [.int p3]) (rest := []) X hP hS hl.1 (c_X4_isDay l D cI cG _ _ p3 er7) lk_X4_68 ⟨by decide, by decide⟩ rfl rfl (Nat.le_of_ble_eq_true rfl) dX4_back_27 ⟨Nat.le_refl _, Nat.le_refl _⟩ (fun locs hS => ?_)
        refine lv_if_ne (tgt := 36) hx hb dX4_back_30 (by decide) (fun c8 => ?_) (fun c8 => ?_)
        · have h := ff_some h c8
          refine lv_aload_n hx hb dX4_back_36 rfl (lv_at hl 0 rfl) ?_
          refine lv_iload_n hx hb dX4_back_37 rfl (lv_at hl 1 rfl) ?_
          refine lv_iload_n hx hb dX4_back_38 rfl (lv_at hl 2 rfl) ?_
          refine lv_iload_n hx hb dX4_back_39 rfl (lv_at hl 3 rfl) ?_
          obtain ⟨r9, er9, h⟩ := bd_some h
          refine ro_V (As := [.int p1, .int p2, .int p3]) (rest := []) X hP hS hl.1 (c_X4_wouldCount l D cI cG q S _ p1 p2 p3 er9) lk_X4_111 (rc_X4_X4 X hP) ⟨by decide, by decide⟩ rfl rfl (Nat.le_of_ble_eq_true rfl) dX4_back_40 ⟨Nat.le_refl _, Nat.le_refl _⟩ (fun locs hS => ?_)
          refine lv_if_eq (tgt := 57) hx hb dX4_back_43 (by decide) (fun c10 => ?_) (fun c10 => ?_)
          · have h := tt_some h c10
            refine lv_ldc (v := (-1000000005 : Int32)) hx hb X.2.2.2.2.2.1 (X.2.2.2.2.2.2.1 _ w_k_X4_158) dX4_back_57 ?_
            exact ro_ret X hS h dX4_back_59
          · have h := ff_some h c10
            refine lv_aload_n hx hb dX4_back_46 rfl (lv_at hl 0 rfl) ?_
            refine lv_iload_n hx hb dX4_back_47 rfl (lv_at hl 1 rfl) ?_
            refine lv_iload_n hx hb dX4_back_48 rfl (lv_at hl 3 rfl) ?_
            refine lv_iload hx hb dX4_back_49 (lv_at hl 4 rfl) ?_
            obtain ⟨r11, er11, h⟩ := bd_some h
            refine ro_V (As := [.int p1, .int p3, .int p4]) (rest := []) X hP hS hl.1 (c_X4_backOf l D cI cG q S _ F p1 p3 p4 er11) lk_X4_154 (rc_X4_X4 X hP) ⟨by decide, by decide⟩ rfl rfl (Nat.le_of_ble_eq_true rfl) dX4_back_51 ⟨Nat.le_refl _, Nat.le_refl _⟩ (fun locs hS => ?_)
            refine lv_goto (tgt := 59) hx hb dX4_back_54 (by decide) ?_
            exact ro_ret X hS h dX4_back_59
        · have h := tt_some h c8
          refine lv_ldc (v := (-1000000002 : Int32)) hx hb X.2.2.2.2.2.1 (X.2.2.2.2.2.2.1 _ w_k_X4_153) dX4_back_33 ?_
          exact ro_ret X hS h dX4_back_35
      · have h := tt_some h c6
        refine lv_ldc (v := (-1000000001 : Int32)) hx hb X.2.2.2.2.2.1 (X.2.2.2.2.2.2.1 _ w_k_X4_152) dX4_back_23 ?_
        exact ro_ret X hS h dX4_back_25
set_option maxHeartbeats 4000000 in
set_option maxRecDepth 100000 in
theorem wk_X4_wiseOf_2 {p : Program} {l : Launch} {e : Env} {s : State} {m : MethodId} {args : Array Value} {below : List Frame} {meth : Method} {c : Code} {D : va_G} {cI cG : ClassId} {q : Nat → Nat} {S : St} {H : Heap} {r : Int32} {F : Nat} {p1 p2 : Int32}  (X : Cx p s m args meth c cX4_wiseOf 4 (some .int) RX4 D cI cG) (hP : va_P D vwCl (wM cI cG q S) H)  : ∀ (n : Nat) (x3 : Int32) (ls : Array Slot) (locs : List Loc), lv_has ls 4 [(0, .ref (q 0)), (1, .int p1), (2, .int p2), (3, .int x3)] → va_S no s.heap H locs → m_X4_wiseOf_2 F S p1 p2 n x3 = some r → W p l e { frames := 7, cells := 0, slots := 0, locals := 169 } s m args below meth c H locs 0 0 (MQ below (roQ H r) args s 0 0 no) (F0 m 2 ls []) := by
  have hx := X.1
  have hb := X.2.1
  intro n
  induction n with
  | zero =>
    intro x3 ls locs hl hS h
    exact no_none (show none = some r from h)
  | succ n ih =>
    intro x3 ls locs hl hS h
    rw [m_X4_wiseOf_2] at h
    refine lv_iload_n hx hb dX4_wiseOf_2 rfl (lv_at hl 3 rfl) ?_
    refine lv_iconst (v := 4) hx hb dX4_wiseOf_3 (by decide) ?_
    refine lv_icmp_ge (tgt := 35) hx hb dX4_wiseOf_4 (by decide) (fun c1 => ?_) (fun c1 => ?_)
    · have h := tt_some h c1
      refine lv_bipush (v := (-6 : Int32)) hx hb dX4_wiseOf_35 (by decide) ?_
      exact ro_ret X hS h dX4_wiseOf_37
    · have h := ff_some h c1
      refine lv_aload_n hx hb dX4_wiseOf_7 rfl (lv_at hl 0 rfl) ?_
      refine lv_iload_n hx hb dX4_wiseOf_8 rfl (lv_at hl 1 rfl) ?_
      refine lv_iload_n hx hb dX4_wiseOf_9 rfl (lv_at hl 3 rfl) ?_
      refine lv_iload_n hx hb dX4_wiseOf_10 rfl (lv_at hl 2 rfl) ?_
      obtain ⟨r2, er2, h⟩ := bd_some h
      refine ro_V (As := [.int p1, .int x3, .int p2]) (rest := []) X hP hS hl.1 (c_X4_wouldCount l D cI cG q S _ p1 x3 p2 er2) lk_X4_111 (rc_X4_X4 X hP) ⟨by decide, by decide⟩ rfl rfl (Nat.le_of_ble_eq_true rfl) dX4_wiseOf_11 ⟨Nat.le_refl _, Nat.le_refl _⟩ (fun locs hS => ?_)
      refine lv_if_eq (tgt := 29) hx hb dX4_wiseOf_14 (by decide) (fun c3 => ?_) (fun c3 => ?_)
      · have h := tt_some h c3
        obtain ⟨v4, ev4⟩ : ∃ y : Int32, y = x3 + 1 := ⟨_, rfl⟩
        have h := nm_some h ev4
        refine lv_iinc (v := v4) (lv' := [(3, .int v4), (0, .ref (q 0)), (1, .int p1), (2, .int p2)]) hx hb dX4_wiseOf_29 hl (k := 3) rfl (by rw [ev4]; rfl) (by decide) rfl (fun ls hl => ?_)
        refine lv_goto (tgt := 2) hx hb dX4_wiseOf_32 (by decide) ?_
        exact ih v4 ls _ (lv_sub hl [1, 2, 3, 0] rfl) hS h
      · have h := ff_some h c3
        refine lv_aload_n hx hb dX4_wiseOf_17 rfl (lv_at hl 0 rfl) ?_
        refine lv_iload_n hx hb dX4_wiseOf_18 rfl (lv_at hl 1 rfl) ?_
        refine lv_iload_n hx hb dX4_wiseOf_19 rfl (lv_at hl 2 rfl) ?_
        refine lv_iload_n hx hb dX4_wiseOf_20 rfl (lv_at hl 3 rfl) ?_
        obtain ⟨r5, er5, h⟩ := bd_some h
        refine ro_V (As := [.int p1, .int p2, .int x3]) (rest := []) X hP hS hl.1 (c_X4_backOf l D cI cG q S _ F p1 p2 x3 er5) lk_X4_154 (rc_X4_X4 X hP) ⟨by decide, by decide⟩ rfl rfl (Nat.le_of_ble_eq_true rfl) dX4_wiseOf_21 ⟨Nat.le_refl _, Nat.le_refl _⟩ (fun locs hS => ?_)
        refine lv_if_le (tgt := 29) hx hb dX4_wiseOf_24 (by decide) (fun c6 => ?_) (fun c6 => ?_)
        · have h := tt_some h c6
          obtain ⟨v7, ev7⟩ : ∃ y : Int32, y = x3 + 1 := ⟨_, rfl⟩
          have h := nm_some h ev7
          refine lv_iinc (v := v7) (lv' := [(3, .int v7), (0, .ref (q 0)), (1, .int p1), (2, .int p2)]) hx hb dX4_wiseOf_29 hl (k := 3) rfl (by rw [ev7]; rfl) (by decide) rfl (fun ls hl => ?_)
          refine lv_goto (tgt := 2) hx hb dX4_wiseOf_32 (by decide) ?_
          exact ih v7 ls _ (lv_sub hl [1, 2, 3, 0] rfl) hS h
        · have h := ff_some h c6
          refine lv_iload_n hx hb dX4_wiseOf_27 rfl (lv_at hl 3 rfl) ?_
          exact ro_ret X hS h dX4_wiseOf_28
set_option maxHeartbeats 4000000 in
set_option maxRecDepth 100000 in
theorem c_X4_wiseOf (l : Launch) (D : va_G) (cI cG : ClassId) (q : Nat → Nat) (S : St) (H : Heap) (F : Nat) (p1 p2 : Int32) {r : Int32} (h : m_X4_wiseOf F S p1 p2 = some r) : RoM l yX4_wiseOf cX4_wiseOf 4 (some .int) 7 169 [.ref (q 0), .int p1, .int p2] D cI cG (wM cI cG q S) H r := by
  refine RoM.of (own := RX4) (by decide) rfl (Nat.le_of_ble_eq_true rfl) ?_
  intro p e s m args below meth c ls X hP hS hl0
  have hl : lv_has ls 4 [(0, .ref (q 0)), (1, .int p1), (2, .int p2)] := hl0 _ (lv_entry [.ref (q 0), .int p1, .int p2] (n := 4) (Nat.le_of_ble_eq_true rfl))
  have hx := X.1
  have hb := X.2.1
  rw [m_X4_wiseOf] at h
  refine lv_iconst (v := 0) hx hb dX4_wiseOf_0 (by decide) ?_
  refine lv_istore_n (lv' := [(3, .int 0), (0, .ref (q 0)), (1, .int p1), (2, .int p2)]) hx hb dX4_wiseOf_1 rfl hl (by decide) rfl (fun ls hl => ?_)
  exact wk_X4_wiseOf_2 X hP F 0 ls _ (lv_sub hl [1, 2, 3, 0] rfl) hS h
set_option maxHeartbeats 4000000 in
set_option maxRecDepth 100000 in
theorem c_X4_wise (l : Launch) (D : va_G) (cI cG : ClassId) (q : Nat → Nat) (S : St) (H : Heap) (F : Nat) (p1 p2 : Int32) {r : Int32} (h : m_X4_wise F S p1 p2 = some r) : RoM l yX4_wise cX4_wise 3 (some .int) 8 192 [.ref (q 0), .int p1, .int p2] D cI cG (wM cI cG q S) H r := by
  refine RoM.of (own := RX4) (by decide) rfl (Nat.le_of_ble_eq_true rfl) ?_
  intro p e s m args below meth c ls X hP hS hl0
  have hl : lv_has ls 3 [(0, .ref (q 0)), (1, .int p1), (2, .int p2)] := hl0 _ (lv_entry [.ref (q 0), .int p1, .int p2] (n := 3) (Nat.le_of_ble_eq_true rfl))
  have hx := X.1
  have hb := X.2.1
  rw [m_X4_wise] at h
  refine lv_aload_n hx hb dX4_wise_0 rfl (lv_at hl 0 rfl) ?_
  refine lv_iload_n hx hb dX4_wise_1 rfl (lv_at hl 1 rfl) ?_
  obtain ⟨r1, er1, h⟩ := bd_some h
  refine ro_V (As := [.int p1]) (rest := []) X hP hS hl.1 (c_X4_isAct l D cI cG q S _ p1 er1) lk_X4_71 (rc_X4_X4 X hP) ⟨by decide, by decide⟩ rfl rfl (Nat.le_of_ble_eq_true rfl) dX4_wise_2 ⟨Nat.le_refl _, Nat.le_refl _⟩ (fun locs hS => ?_)
  refine lv_if_ne (tgt := 10) hx hb dX4_wise_5 (by decide) (fun c2 => ?_) (fun c2 => ?_)
  · have h := ff_some h c2
    refine lv_iload_n hx hb dX4_wise_10 rfl (lv_at hl 2 rfl) ?_
    obtain ⟨r3, er3, h⟩ := bd_some h
    refine ro_S (As := [.int p2]) (rest := []) X hP hS hl.1 (c_X4_isDay l D cI cG _ _ p2 er3) lk_X4_68 ⟨by decide, by decide⟩ rfl rfl (Nat.le_of_ble_eq_true rfl) dX4_wise_11 ⟨Nat.le_refl _, Nat.le_refl _⟩ (fun locs hS => ?_)
    refine lv_if_eq (tgt := 26) hx hb dX4_wise_14 (by decide) (fun c4 => ?_) (fun c4 => ?_)
    · have h := tt_some h c4
      refine lv_bipush (v := (-2 : Int32)) hx hb dX4_wise_26 (by decide) ?_
      exact ro_ret X hS h dX4_wise_28
    · have h := ff_some h c4
      refine lv_aload_n hx hb dX4_wise_17 rfl (lv_at hl 0 rfl) ?_
      refine lv_iload_n hx hb dX4_wise_18 rfl (lv_at hl 1 rfl) ?_
      refine lv_iload_n hx hb dX4_wise_19 rfl (lv_at hl 2 rfl) ?_
      obtain ⟨r5, er5, h⟩ := bd_some h
      refine ro_V (As := [.int p1, .int p2]) (rest := []) X hP hS hl.1 (c_X4_wiseOf l D cI cG q S _ F p1 p2 er5) lk_X4_159 (rc_X4_X4 X hP) ⟨by decide, by decide⟩ rfl rfl (Nat.le_of_ble_eq_true rfl) dX4_wise_20 ⟨Nat.le_refl _, Nat.le_refl _⟩ (fun locs hS => ?_)
      refine lv_goto (tgt := 28) hx hb dX4_wise_23 (by decide) ?_
      exact ro_ret X hS h dX4_wise_28
  · have h := tt_some h c2
    refine lv_iconst (v := (-1 : Int32)) hx hb dX4_wise_8 (by decide) ?_
    exact ro_ret X hS h dX4_wise_9
set_option maxHeartbeats 4000000 in
set_option maxRecDepth 100000 in
theorem c_X4_isSet (l : Launch) (D : va_G) (cI cG : ClassId) (q : Nat → Nat) (S : St) (H : Heap) (p1 : Int32) {r : Int32} (h : m_X4_isSet S p1 = some r) : RoM l yX4_isSet cX4_isSet 2 (some .boolean) 1 25 [.ref (q 0), .int p1] D cI cG (wM cI cG q S) H r := by
  refine RoM.of (own := RX4) (by decide) rfl (Nat.le_of_ble_eq_true rfl) ?_
  intro p e s m args below meth c ls X hP hS hl0
  have hl : lv_has ls 2 [(0, .ref (q 0)), (1, .int p1)] := hl0 _ (lv_entry [.ref (q 0), .int p1] (n := 2) (Nat.le_of_ble_eq_true rfl))
  have hx := X.1
  have hb := X.2.1
  rw [m_X4_isSet] at h
  refine lv_iload_n hx hb dX4_isSet_0 rfl (lv_at hl 1 rfl) ?_
  refine lv_i2l (v := Int32.toInt64 p1) hx hb dX4_isSet_1 rfl ?_
  refine lv_lconst (v := 0) hx hb dX4_isSet_2 (by decide) ?_
  refine lv_iconst (v := 1) hx hb dX4_isSet_3 (by decide) ?_
  refine lv_aload_n hx hb dX4_isSet_4 rfl (lv_at hl 0 rfl) ?_
  refine gf_X4_61 X hP dX4_isSet_5 ?_
  refine lv_ishl hx hb dX4_isSet_8 ?_
  refine lv_iconst (v := 1) hx hb dX4_isSet_9 (by decide) ?_
  refine lv_isub hx hb dX4_isSet_10 ?_
  refine lv_i2l (v := Int32.toInt64 ((1 <<< ((S 0 1) &&& 31)) - 1)) hx hb dX4_isSet_11 rfl ?_
  obtain ⟨r1, er1, h⟩ := bd_some h
  refine ro_S (As := [.long (Int32.toInt64 p1), .long 0, .long (Int32.toInt64 ((1 <<< ((S 0 1) &&& 31)) - 1))]) (rest := []) X hP hS hl.1 (c_X4_in l D cI cG _ _ (Int32.toInt64 p1) 0 (Int32.toInt64 ((1 <<< ((S 0 1) &&& 31)) - 1)) er1) lk_X4_55 ⟨by decide, by decide⟩ rfl rfl (Nat.le_of_ble_eq_true rfl) dX4_isSet_12 ⟨Nat.le_refl _, Nat.le_refl _⟩ (fun locs hS => ?_)
  obtain ⟨hz2, h⟩ := gd_some h
  exact ro_retz X hS h (bz_n hz2) dX4_isSet_15
set_option maxHeartbeats 4000000 in
set_option maxRecDepth 100000 in
theorem wk_X4_pillar_43 {p : Program} {l : Launch} {e : Env} {s : State} {m : MethodId} {args : Array Value} {below : List Frame} {meth : Method} {c : Code} {D : va_G} {cI cG : ClassId} {q : Nat → Nat} {S : St} {H : Heap} {r : Int32} {F : Nat} {p1 p2 : Int32}  (X : Cx p s m args meth c cX4_pillar 9 (some .int) RX4 D cI cG) (hP : va_P D vwCl (wM cI cG q S) H)  : ∀ (n : Nat) (x3 : Int32) (x4 : Int32) (x5 : Int32) (x6 : Int32) (x7 : Int32) (ls : Array Slot) (locs : List Loc), lv_has ls 9 [(0, .ref (q 0)), (2, .int p2), (3, .int x3), (4, .int x4), (5, .int x5), (6, .int x6), (7, .int x7)] → va_S no s.heap H locs → m_X4_pillar_43 F S p1 p2 n x3 x4 x5 x6 x7 = some r → W p l e { frames := 5, cells := 0, slots := 0, locals := 119 } s m args below meth c H locs 0 0 (MQ below (roQ H r) args s 0 0 no) (F0 m 43 ls []) := by
  have hx := X.1
  have hb := X.2.1
  intro n
  induction n with
  | zero =>
    intro x3 x4 x5 x6 x7 ls locs hl hS h
    exact no_none (show none = some r from h)
  | succ n ih =>
    intro x3 x4 x5 x6 x7 ls locs hl hS h
    rw [m_X4_pillar_43] at h
    refine lv_iload hx hb dX4_pillar_43 (lv_at hl 6 rfl) ?_
    refine lv_aload_n hx hb dX4_pillar_45 rfl (lv_at hl 0 rfl) ?_
    refine gf_X4_61 X hP dX4_pillar_46 ?_
    refine lv_icmp_ge (tgt := 113) hx hb dX4_pillar_49 (by decide) (fun c7 => ?_) (fun c7 => ?_)
    · have h := tt_some h c7
      refine lv_iload_n hx hb dX4_pillar_113 rfl (lv_at hl 1 rfl) ?_
      refine lv_if_ne (tgt := 122) hx hb dX4_pillar_114 (by decide) (fun c8 => ?_) (fun c8 => ?_)
      · have h := ff_some h c8
        refine lv_iload hx hb dX4_pillar_122 (lv_at hl 5 rfl) ?_
        exact ro_ret X hS h dX4_pillar_124
      · have h := tt_some h c8
        refine lv_iload hx hb dX4_pillar_117 (lv_at hl 4 rfl) ?_
        refine lv_goto (tgt := 124) hx hb dX4_pillar_119 (by decide) ?_
        exact ro_ret X hS h dX4_pillar_124
    · have h := ff_some h c7
      refine lv_iload hx hb dX4_pillar_52 (lv_at hl 3 rfl) ?_
      refine lv_iload hx hb dX4_pillar_54 (lv_at hl 6 rfl) ?_
      refine lv_ishr hx hb dX4_pillar_56 ?_
      refine lv_iconst (v := 1) hx hb dX4_pillar_57 (by decide) ?_
      refine lv_iand hx hb dX4_pillar_58 ?_
      refine lv_iconst (v := 1) hx hb dX4_pillar_59 (by decide) ?_
      refine lv_icmp_ne (tgt := 107) hx hb dX4_pillar_60 (by decide) (fun c9 => ?_) (fun c9 => ?_)
      · have h := ff_some h c9
        obtain ⟨v10, ev10⟩ : ∃ y : Int32, y = x7 + 1 := ⟨_, rfl⟩
        have h := nm_some h ev10
        refine lv_iinc (v := v10) (lv' := [(7, .int v10), (0, .ref (q 0)), (2, .int p2), (3, .int x3), (4, .int x4), (5, .int x5), (6, .int x6)]) hx hb dX4_pillar_107 hl (k := 6) rfl (by rw [ev10]; rfl) (by decide) rfl (fun ls hl => ?_)
        refine lv_goto (tgt := 43) hx hb dX4_pillar_110 (by decide) ?_
        exact ih x3 x4 x5 x6 v10 ls _ (lv_sub hl [1, 2, 3, 4, 5, 6, 0] rfl) hS h
      · have h := tt_some h c9
        refine lv_iload hx hb dX4_pillar_63 (lv_at hl 3 rfl) ?_
        refine lv_aload_n hx hb dX4_pillar_65 rfl (lv_at hl 0 rfl) ?_
        refine lv_iload_n hx hb dX4_pillar_66 rfl (lv_at hl 2 rfl) ?_
        refine lv_iconst (v := 1) hx hb dX4_pillar_67 (by decide) ?_
        refine lv_iload hx hb dX4_pillar_68 (lv_at hl 6 rfl) ?_
        refine lv_ishl hx hb dX4_pillar_70 ?_
        refine lv_iconst (v := (-1 : Int32)) hx hb dX4_pillar_71 (by decide) ?_
        refine lv_ixor hx hb dX4_pillar_72 ?_
        refine lv_iand hx hb dX4_pillar_73 ?_
        obtain ⟨r11, er11, h⟩ := bd_some h
        refine ro_V (As := [.int (x3 &&& ((1 <<< (x7 &&& 31)) ^^^ (-1)))]) (rest := [.int x4]) X hP hS hl.1 (c_X4_mostOf l D cI cG q S _ F (x3 &&& ((1 <<< (x7 &&& 31)) ^^^ (-1))) er11) lk_X4_134 (rc_X4_X4 X hP) ⟨by decide, by decide⟩ rfl rfl (Nat.le_of_ble_eq_true rfl) dX4_pillar_74 ⟨Nat.le_refl _, Nat.le_refl _⟩ (fun locs hS => ?_)
        refine lv_iconst (v := (-1 : Int32)) hx hb dX4_pillar_77 (by decide) ?_
        refine lv_ixor hx hb dX4_pillar_78 ?_
        refine lv_iand hx hb dX4_pillar_79 ?_
        obtain ⟨r12, er12, h⟩ := bd_some h
        refine ro_S (As := [.int (x4 &&& (r11 ^^^ (-1)))]) (rest := []) X hP hS hl.1 (c_X4_ones l D cI cG _ _ F (x4 &&& (r11 ^^^ (-1))) er12) lk_X4_165 ⟨by decide, by decide⟩ rfl rfl (Nat.le_of_ble_eq_true rfl) dX4_pillar_80 ⟨Nat.le_refl _, Nat.le_refl _⟩ (fun locs hS => ?_)
        refine lv_iconst (v := 1) hx hb dX4_pillar_83 (by decide) ?_
        refine lv_isub hx hb dX4_pillar_84 ?_
        refine lv_topi (fun v13 ev13 => ?_)
        have h := nm_some h ev13
        refine lv_istore (lv' := [(8, .int v13), (0, .ref (q 0)), (2, .int p2), (3, .int x3), (4, .int x4), (5, .int x5), (6, .int x6), (7, .int x7)]) hx hb dX4_pillar_85 hl (by decide) rfl (fun ls hl => ?_)
        refine lv_iload hx hb dX4_pillar_87 (lv_at hl 5 rfl) ?_
        refine lv_if_lt (tgt := 99) hx hb dX4_pillar_89 (by decide) (fun c14 => ?_) (fun c14 => ?_)
        · have h := tt_some h c14
          refine lv_iload hx hb dX4_pillar_99 (lv_at hl 7 rfl) ?_
          refine lv_istore (lv' := [(5, .int x7), (8, .int v13), (0, .ref (q 0)), (2, .int p2), (3, .int x3), (4, .int x4), (6, .int x6), (7, .int x7)]) hx hb dX4_pillar_101 hl (by decide) rfl (fun ls hl => ?_)
          refine lv_iload hx hb dX4_pillar_103 (lv_at hl 1 rfl) ?_
          refine lv_istore (lv' := [(6, .int v13), (5, .int x7), (8, .int v13), (0, .ref (q 0)), (2, .int p2), (3, .int x3), (4, .int x4), (7, .int x7)]) hx hb dX4_pillar_105 hl (by decide) rfl (fun ls hl => ?_)
          obtain ⟨v15, ev15⟩ : ∃ y : Int32, y = x7 + 1 := ⟨_, rfl⟩
          have h := nm_some h ev15
          refine lv_iinc (v := v15) (lv' := [(7, .int v15), (6, .int v13), (5, .int x7), (8, .int v13), (0, .ref (q 0)), (2, .int p2), (3, .int x3), (4, .int x4)]) hx hb dX4_pillar_107 hl (k := 7) rfl (by rw [ev15]; rfl) (by decide) rfl (fun ls hl => ?_)
          refine lv_goto (tgt := 43) hx hb dX4_pillar_110 (by decide) ?_
          exact ih x3 x4 x7 v13 v15 ls _ (lv_sub hl [4, 5, 6, 7, 2, 1, 0] rfl) hS h
        · have h := ff_some h c14
          refine lv_iload hx hb dX4_pillar_92 (lv_at hl 0 rfl) ?_
          refine lv_iload hx hb dX4_pillar_94 (lv_at hl 6 rfl) ?_
          refine lv_icmp_le (tgt := 107) hx hb dX4_pillar_96 (by decide) (fun c16 => ?_) (fun c16 => ?_)
          · have h := tt_some h c16
            obtain ⟨v17, ev17⟩ : ∃ y : Int32, y = x7 + 1 := ⟨_, rfl⟩
            have h := nm_some h ev17
            refine lv_iinc (v := v17) (lv' := [(7, .int v17), (8, .int v13), (0, .ref (q 0)), (2, .int p2), (3, .int x3), (4, .int x4), (5, .int x5), (6, .int x6)]) hx hb dX4_pillar_107 hl (k := 7) rfl (by rw [ev17]; rfl) (by decide) rfl (fun ls hl => ?_)
            refine lv_goto (tgt := 43) hx hb dX4_pillar_110 (by decide) ?_
            exact ih x3 x4 x5 x6 v17 ls _ (lv_sub hl [2, 3, 4, 5, 6, 7, 0] rfl) hS h
          · have h := ff_some h c16
            refine lv_iload hx hb dX4_pillar_99 (lv_at hl 7 rfl) ?_
            refine lv_istore (lv' := [(5, .int x7), (8, .int v13), (0, .ref (q 0)), (2, .int p2), (3, .int x3), (4, .int x4), (6, .int x6), (7, .int x7)]) hx hb dX4_pillar_101 hl (by decide) rfl (fun ls hl => ?_)
            refine lv_iload hx hb dX4_pillar_103 (lv_at hl 1 rfl) ?_
            refine lv_istore (lv' := [(6, .int v13), (5, .int x7), (8, .int v13), (0, .ref (q 0)), (2, .int p2), (3, .int x3), (4, .int x4), (7, .int x7)]) hx hb dX4_pillar_105 hl (by decide) rfl (fun ls hl => ?_)
            obtain ⟨v18, ev18⟩ : ∃ y : Int32, y = x7 + 1 := ⟨_, rfl⟩
            have h := nm_some h ev18
            refine lv_iinc (v := v18) (lv' := [(7, .int v18), (6, .int v13), (5, .int x7), (8, .int v13), (0, .ref (q 0)), (2, .int p2), (3, .int x3), (4, .int x4)]) hx hb dX4_pillar_107 hl (k := 7) rfl (by rw [ev18]; rfl) (by decide) rfl (fun ls hl => ?_)
            refine lv_goto (tgt := 43) hx hb dX4_pillar_110 (by decide) ?_
            exact ih x3 x4 x7 v13 v18 ls _ (lv_sub hl [4, 5, 6, 7, 2, 1, 0] rfl) hS h
set_option maxHeartbeats 4000000 in
set_option maxRecDepth 100000 in
theorem c_X4_pillar (l : Launch) (D : va_G) (cI cG : ClassId) (q : Nat → Nat) (S : St) (H : Heap) (F : Nat) (p1 p2 : Int32) {r : Int32} (h : m_X4_pillar F S p1 p2 = some r) : RoM l yX4_pillar cX4_pillar 9 (some .int) 5 119 [.ref (q 0), .int p1, .int p2] D cI cG (wM cI cG q S) H r := by
  refine RoM.of (own := RX4) (by decide) rfl (Nat.le_of_ble_eq_true rfl) ?_
  intro p e s m args below meth c ls X hP hS hl0
  have hl : lv_has ls 9 [(0, .ref (q 0)), (1, .int p1), (2, .int p2)] := hl0 _ (lv_entry [.ref (q 0), .int p1, .int p2] (n := 9) (Nat.le_of_ble_eq_true rfl))
  have hx := X.1
  have hb := X.2.1
  rw [m_X4_pillar] at h
  refine lv_iload_n hx hb dX4_pillar_0 rfl (lv_at hl 1 rfl) ?_
  obtain ⟨r1, er1, h⟩ := bd_some h
  refine ro_S (As := [.int p1]) (rest := []) X hP hS hl.1 (c_X4_isDay l D cI cG _ _ p1 er1) lk_X4_68 ⟨by decide, by decide⟩ rfl rfl (Nat.le_of_ble_eq_true rfl) dX4_pillar_1 ⟨Nat.le_refl _, Nat.le_refl _⟩ (fun locs hS => ?_)
  refine lv_if_eq (tgt := 17) hx hb dX4_pillar_4 (by decide) (fun c2 => ?_) (fun c2 => ?_)
  · have h := tt_some h c2
    refine lv_bipush (v := (-2 : Int32)) hx hb dX4_pillar_17 (by decide) ?_
    exact ro_ret X hS h dX4_pillar_19
  · have h := ff_some h c2
    refine lv_iload_n hx hb dX4_pillar_7 rfl (lv_at hl 2 rfl) ?_
    refine lv_i2l (v := Int32.toInt64 p2) hx hb dX4_pillar_8 rfl ?_
    refine lv_lconst (v := 0) hx hb dX4_pillar_9 (by decide) ?_
    refine lv_lconst (v := 1) hx hb dX4_pillar_10 (by decide) ?_
    obtain ⟨r3, er3, h⟩ := bd_some h
    refine ro_S (As := [.long (Int32.toInt64 p2), .long 0, .long 1]) (rest := []) X hP hS hl.1 (c_X4_in l D cI cG _ _ (Int32.toInt64 p2) 0 1 er3) lk_X4_55 ⟨by decide, by decide⟩ rfl rfl (Nat.le_of_ble_eq_true rfl) dX4_pillar_11 ⟨Nat.le_refl _, Nat.le_refl _⟩ (fun locs hS => ?_)
    refine lv_if_ne (tgt := 20) hx hb dX4_pillar_14 (by decide) (fun c4 => ?_) (fun c4 => ?_)
    · have h := ff_some h c4
      refine lv_aload_n hx hb dX4_pillar_20 rfl (lv_at hl 0 rfl) ?_
      refine lv_iload_n hx hb dX4_pillar_21 rfl (lv_at hl 1 rfl) ?_
      obtain ⟨r5, er5, h⟩ := bd_some h
      refine ro_V (As := [.int p1]) (rest := []) X hP hS hl.1 (c_X4_soundOf l D cI cG q S _ F p1 er5) lk_X4_131 (rc_X4_X4 X hP) ⟨by decide, by decide⟩ rfl rfl (Nat.le_of_ble_eq_true rfl) dX4_pillar_22 ⟨Nat.le_refl _, Nat.le_refl _⟩ (fun locs hS => ?_)
      refine lv_istore_n (lv' := [(3, .int r5), (0, .ref (q 0)), (1, .int p1), (2, .int p2)]) hx hb dX4_pillar_25 rfl hl (by decide) rfl (fun ls hl => ?_)
      refine lv_aload_n hx hb dX4_pillar_26 rfl (lv_at hl 1 rfl) ?_
      refine lv_iload_n hx hb dX4_pillar_27 rfl (lv_at hl 0 rfl) ?_
      obtain ⟨r6, er6, h⟩ := bd_some h
      refine ro_V (As := [.int r5]) (rest := []) X hP hS hl.1 (c_X4_mostOf l D cI cG q S _ F r5 er6) lk_X4_134 (rc_X4_X4 X hP) ⟨by decide, by decide⟩ rfl rfl (Nat.le_of_ble_eq_true rfl) dX4_pillar_28 ⟨Nat.le_refl _, Nat.le_refl _⟩ (fun locs hS => ?_)
      refine lv_istore (lv' := [(4, .int r6), (3, .int r5), (0, .ref (q 0)), (1, .int p1), (2, .int p2)]) hx hb dX4_pillar_31 hl (by decide) rfl (fun ls hl => ?_)
      refine lv_bipush (v := (-6 : Int32)) hx hb dX4_pillar_33 (by decide) ?_
      refine lv_istore (lv' := [(5, .int (-6)), (4, .int r6), (3, .int r5), (0, .ref (q 0)), (1, .int p1), (2, .int p2)]) hx hb dX4_pillar_35 hl (by decide) rfl (fun ls hl => ?_)
      refine lv_iconst (v := 0) hx hb dX4_pillar_37 (by decide) ?_
      refine lv_istore (lv' := [(6, .int 0), (5, .int (-6)), (4, .int r6), (3, .int r5), (0, .ref (q 0)), (1, .int p1), (2, .int p2)]) hx hb dX4_pillar_38 hl (by decide) rfl (fun ls hl => ?_)
      refine lv_iconst (v := 0) hx hb dX4_pillar_40 (by decide) ?_
      refine lv_istore (lv' := [(7, .int 0), (6, .int 0), (5, .int (-6)), (4, .int r6), (3, .int r5), (0, .ref (q 0)), (1, .int p1), (2, .int p2)]) hx hb dX4_pillar_41 hl (by decide) rfl (fun ls hl => ?_)
      exact wk_X4_pillar_43 X hP F r5 r6 (-6) 0 0 ls _ (lv_sub hl [5, 7, 4, 3, 2, 1, 0] rfl) hS h
    · have h := tt_some h c4
      refine lv_bipush (v := (-2 : Int32)) hx hb dX4_pillar_17 (by decide) ?_
      exact ro_ret X hS h dX4_pillar_19
set_option maxHeartbeats 4000000 in
set_option maxRecDepth 100000 in
theorem wk_X4_isSafeOn_49 {p : Program} {l : Launch} {e : Env} {s : State} {m : MethodId} {args : Array Value} {below : List Frame} {meth : Method} {c : Code} {D : va_G} {cI cG : ClassId} {q : Nat → Nat} {S : St} {H : Heap} {r : Int32} {F : Nat} {p1 p2 : Int32} {K29 : Int32 → Int32 → Int32 → Option Int32} (X : Cx p s m args meth c cX4_isSafeOn 8 (some .boolean) RX4 D cI cG) (hP : va_P D vwCl (wM cI cG q S) H) (hK29 : ∀ (x3 : Int32) (x4 : Int32) (x5 : Int32) (ls : Array Slot) (locs : List Loc), lv_has ls 8 [(0, .ref (q 0)), (1, .int p1), (2, .int p2), (3, .int x3), (4, .int x4), (5, .int x5)] → va_S no s.heap H locs → K29 x3 x4 x5 = some r → W p l e { frames := 5, cells := 0, slots := 0, locals := 119 } s m args below meth c H locs 0 0 (MQ below (roQ H r) args s 0 0 no) (F0 m 29 ls [])) : ∀ (n : Nat) (x3 : Int32) (x5 : Int32) (x6 : Int32) (x7 : Int32) (ls : Array Slot) (locs : List Loc), lv_has ls 8 [(0, .ref (q 0)), (1, .int p1), (2, .int p2), (3, .int x3), (5, .int x5), (6, .int x6), (7, .int x7)] → va_S no s.heap H locs → m_X4_isSafeOn_49 F S p1 p2 K29 n x3 x5 x6 x7 = some r → W p l e { frames := 5, cells := 0, slots := 0, locals := 119 } s m args below meth c H locs 0 0 (MQ below (roQ H r) args s 0 0 no) (F0 m 49 ls []) := by
  have hx := X.1
  have hb := X.2.1
  intro n
  induction n with
  | zero =>
    intro x3 x5 x6 x7 ls locs hl hS h
    exact no_none (show none = some r from h)
  | succ n ih =>
    intro x3 x5 x6 x7 ls locs hl hS h
    rw [m_X4_isSafeOn_49] at h
    refine lv_iload hx hb dX4_isSafeOn_49 (lv_at hl 6 rfl) ?_
    refine lv_iconst (v := 4) hx hb dX4_isSafeOn_51 (by decide) ?_
    refine lv_icmp_ge (tgt := 85) hx hb dX4_isSafeOn_52 (by decide) (fun c8 => ?_) (fun c8 => ?_)
    · have h := tt_some h c8
      refine lv_iload hx hb dX4_isSafeOn_85 (lv_at hl 5 rfl) ?_
      refine lv_if_eq (tgt := 110) hx hb dX4_isSafeOn_87 (by decide) (fun c9 => ?_) (fun c9 => ?_)
      · have h := tt_some h c9
        refine lv_iconst (v := 1) hx hb dX4_isSafeOn_110 (by decide) ?_
        refine lv_goto (tgt := 115) hx hb dX4_isSafeOn_111 (by decide) ?_
        refine lv_istore (lv' := [(4, .int 1), (0, .ref (q 0)), (1, .int p1), (2, .int p2), (3, .int x3), (5, .int x5), (6, .int x6), (7, .int x7)]) hx hb dX4_isSafeOn_115 hl (by decide) rfl (fun ls hl => ?_)
        obtain ⟨v10, ev10⟩ : ∃ y : Int32, y = x5 + 1 := ⟨_, rfl⟩
        have h := nm_some h ev10
        refine lv_iinc (v := v10) (lv' := [(5, .int v10), (4, .int 1), (0, .ref (q 0)), (1, .int p1), (2, .int p2), (3, .int x3), (6, .int x6), (7, .int x7)]) hx hb dX4_isSafeOn_117 hl (k := 5) rfl (by rw [ev10]; rfl) (by decide) rfl (fun ls hl => ?_)
        refine lv_goto (tgt := 29) hx hb dX4_isSafeOn_120 (by decide) ?_
        exact hK29 x3 1 v10 ls _ (lv_sub hl [2, 3, 4, 5, 1, 0] rfl) hS h
      · have h := ff_some h c9
        refine lv_aload_n hx hb dX4_isSafeOn_90 rfl (lv_at hl 0 rfl) ?_
        refine lv_iload_n hx hb dX4_isSafeOn_91 rfl (lv_at hl 3 rfl) ?_
        refine lv_iconst (v := 1) hx hb dX4_isSafeOn_92 (by decide) ?_
        refine lv_iload hx hb dX4_isSafeOn_93 (lv_at hl 4 rfl) ?_
        refine lv_ishl hx hb dX4_isSafeOn_95 ?_
        refine lv_iconst (v := (-1 : Int32)) hx hb dX4_isSafeOn_96 (by decide) ?_
        refine lv_ixor hx hb dX4_isSafeOn_97 ?_
        refine lv_iand hx hb dX4_isSafeOn_98 ?_
        obtain ⟨r11, er11, h⟩ := bd_some h
        refine ro_V (As := [.int (x3 &&& ((1 <<< (x5 &&& 31)) ^^^ (-1)))]) (rest := []) X hP hS hl.1 (c_X4_mostOf l D cI cG q S _ F (x3 &&& ((1 <<< (x5 &&& 31)) ^^^ (-1))) er11) lk_X4_134 (rc_X4_X4 X hP) ⟨by decide, by decide⟩ rfl rfl (Nat.le_of_ble_eq_true rfl) dX4_isSafeOn_99 ⟨Nat.le_refl _, Nat.le_refl _⟩ (fun locs hS => ?_)
        refine lv_iload_n hx hb dX4_isSafeOn_102 rfl (lv_at hl 1 rfl) ?_
        refine lv_ishr hx hb dX4_isSafeOn_103 ?_
        refine lv_iconst (v := 1) hx hb dX4_isSafeOn_104 (by decide) ?_
        refine lv_iand hx hb dX4_isSafeOn_105 ?_
        refine lv_iconst (v := 1) hx hb dX4_isSafeOn_106 (by decide) ?_
        refine lv_icmp_ne (tgt := 114) hx hb dX4_isSafeOn_107 (by decide) (fun c12 => ?_) (fun c12 => ?_)
        · have h := ff_some h c12
          refine lv_iconst (v := 0) hx hb dX4_isSafeOn_114 (by decide) ?_
          refine lv_istore (lv' := [(4, .int 0), (0, .ref (q 0)), (1, .int p1), (2, .int p2), (3, .int x3), (5, .int x5), (6, .int x6), (7, .int x7)]) hx hb dX4_isSafeOn_115 hl (by decide) rfl (fun ls hl => ?_)
          obtain ⟨v13, ev13⟩ : ∃ y : Int32, y = x5 + 1 := ⟨_, rfl⟩
          have h := nm_some h ev13
          refine lv_iinc (v := v13) (lv' := [(5, .int v13), (4, .int 0), (0, .ref (q 0)), (1, .int p1), (2, .int p2), (3, .int x3), (6, .int x6), (7, .int x7)]) hx hb dX4_isSafeOn_117 hl (k := 5) rfl (by rw [ev13]; rfl) (by decide) rfl (fun ls hl => ?_)
          refine lv_goto (tgt := 29) hx hb dX4_isSafeOn_120 (by decide) ?_
          exact hK29 x3 0 v13 ls _ (lv_sub hl [2, 3, 4, 5, 1, 0] rfl) hS h
        · have h := tt_some h c12
          refine lv_iconst (v := 1) hx hb dX4_isSafeOn_110 (by decide) ?_
          refine lv_goto (tgt := 115) hx hb dX4_isSafeOn_111 (by decide) ?_
          refine lv_istore (lv' := [(4, .int 1), (0, .ref (q 0)), (1, .int p1), (2, .int p2), (3, .int x3), (5, .int x5), (6, .int x6), (7, .int x7)]) hx hb dX4_isSafeOn_115 hl (by decide) rfl (fun ls hl => ?_)
          obtain ⟨v14, ev14⟩ : ∃ y : Int32, y = x5 + 1 := ⟨_, rfl⟩
          have h := nm_some h ev14
          refine lv_iinc (v := v14) (lv' := [(5, .int v14), (4, .int 1), (0, .ref (q 0)), (1, .int p1), (2, .int p2), (3, .int x3), (6, .int x6), (7, .int x7)]) hx hb dX4_isSafeOn_117 hl (k := 5) rfl (by rw [ev14]; rfl) (by decide) rfl (fun ls hl => ?_)
          refine lv_goto (tgt := 29) hx hb dX4_isSafeOn_120 (by decide) ?_
          exact hK29 x3 1 v14 ls _ (lv_sub hl [2, 3, 4, 5, 1, 0] rfl) hS h
    · have h := ff_some h c8
      refine lv_iload hx hb dX4_isSafeOn_55 (lv_at hl 5 rfl) ?_
      refine lv_if_ne (tgt := 72) hx hb dX4_isSafeOn_57 (by decide) (fun c15 => ?_) (fun c15 => ?_)
      · have h := ff_some h c15
        refine lv_iconst (v := 1) hx hb dX4_isSafeOn_72 (by decide) ?_
        refine lv_goto (tgt := 77) hx hb dX4_isSafeOn_73 (by decide) ?_
        refine lv_istore (lv' := [(6, .int 1), (0, .ref (q 0)), (1, .int p1), (2, .int p2), (3, .int x3), (5, .int x5), (7, .int x7)]) hx hb dX4_isSafeOn_77 hl (by decide) rfl (fun ls hl => ?_)
        obtain ⟨v16, ev16⟩ : ∃ y : Int32, y = x7 + 1 := ⟨_, rfl⟩
        have h := nm_some h ev16
        refine lv_iinc (v := v16) (lv' := [(7, .int v16), (6, .int 1), (0, .ref (q 0)), (1, .int p1), (2, .int p2), (3, .int x3), (5, .int x5)]) hx hb dX4_isSafeOn_79 hl (k := 6) rfl (by rw [ev16]; rfl) (by decide) rfl (fun ls hl => ?_)
        refine lv_goto (tgt := 49) hx hb dX4_isSafeOn_82 (by decide) ?_
        exact ih x3 x5 1 v16 ls _ (lv_sub hl [2, 3, 4, 5, 6, 1, 0] rfl) hS h
      · have h := tt_some h c15
        refine lv_aload_n hx hb dX4_isSafeOn_60 rfl (lv_at hl 0 rfl) ?_
        refine lv_iload hx hb dX4_isSafeOn_61 (lv_at hl 4 rfl) ?_
        refine lv_iload hx hb dX4_isSafeOn_63 (lv_at hl 6 rfl) ?_
        refine lv_iload_n hx hb dX4_isSafeOn_65 rfl (lv_at hl 2 rfl) ?_
        obtain ⟨r17, er17, h⟩ := bd_some h
        refine ro_V (As := [.int x5, .int x7, .int p2]) (rest := []) X hP hS hl.1 (c_X4_wouldCount l D cI cG q S _ x5 x7 p2 er17) lk_X4_111 (rc_X4_X4 X hP) ⟨by decide, by decide⟩ rfl rfl (Nat.le_of_ble_eq_true rfl) dX4_isSafeOn_66 ⟨Nat.le_refl _, Nat.le_refl _⟩ (fun locs hS => ?_)
        refine lv_if_eq (tgt := 76) hx hb dX4_isSafeOn_69 (by decide) (fun c18 => ?_) (fun c18 => ?_)
        · have h := tt_some h c18
          refine lv_iconst (v := 0) hx hb dX4_isSafeOn_76 (by decide) ?_
          refine lv_istore (lv' := [(6, .int 0), (0, .ref (q 0)), (1, .int p1), (2, .int p2), (3, .int x3), (5, .int x5), (7, .int x7)]) hx hb dX4_isSafeOn_77 hl (by decide) rfl (fun ls hl => ?_)
          obtain ⟨v19, ev19⟩ : ∃ y : Int32, y = x7 + 1 := ⟨_, rfl⟩
          have h := nm_some h ev19
          refine lv_iinc (v := v19) (lv' := [(7, .int v19), (6, .int 0), (0, .ref (q 0)), (1, .int p1), (2, .int p2), (3, .int x3), (5, .int x5)]) hx hb dX4_isSafeOn_79 hl (k := 6) rfl (by rw [ev19]; rfl) (by decide) rfl (fun ls hl => ?_)
          refine lv_goto (tgt := 49) hx hb dX4_isSafeOn_82 (by decide) ?_
          exact ih x3 x5 0 v19 ls _ (lv_sub hl [2, 3, 4, 5, 6, 1, 0] rfl) hS h
        · have h := ff_some h c18
          refine lv_iconst (v := 1) hx hb dX4_isSafeOn_72 (by decide) ?_
          refine lv_goto (tgt := 77) hx hb dX4_isSafeOn_73 (by decide) ?_
          refine lv_istore (lv' := [(6, .int 1), (0, .ref (q 0)), (1, .int p1), (2, .int p2), (3, .int x3), (5, .int x5), (7, .int x7)]) hx hb dX4_isSafeOn_77 hl (by decide) rfl (fun ls hl => ?_)
          obtain ⟨v20, ev20⟩ : ∃ y : Int32, y = x7 + 1 := ⟨_, rfl⟩
          have h := nm_some h ev20
          refine lv_iinc (v := v20) (lv' := [(7, .int v20), (6, .int 1), (0, .ref (q 0)), (1, .int p1), (2, .int p2), (3, .int x3), (5, .int x5)]) hx hb dX4_isSafeOn_79 hl (k := 6) rfl (by rw [ev20]; rfl) (by decide) rfl (fun ls hl => ?_)
          refine lv_goto (tgt := 49) hx hb dX4_isSafeOn_82 (by decide) ?_
          exact ih x3 x5 1 v20 ls _ (lv_sub hl [2, 3, 4, 5, 6, 1, 0] rfl) hS h
set_option maxHeartbeats 4000000 in
set_option maxRecDepth 100000 in
theorem wk_X4_isSafeOn_29 {p : Program} {l : Launch} {e : Env} {s : State} {m : MethodId} {args : Array Value} {below : List Frame} {meth : Method} {c : Code} {D : va_G} {cI cG : ClassId} {q : Nat → Nat} {S : St} {H : Heap} {r : Int32} {F : Nat} {p1 p2 : Int32}  (X : Cx p s m args meth c cX4_isSafeOn 8 (some .boolean) RX4 D cI cG) (hP : va_P D vwCl (wM cI cG q S) H)  : ∀ (n : Nat) (x3 : Int32) (x4 : Int32) (x5 : Int32) (ls : Array Slot) (locs : List Loc), lv_has ls 8 [(0, .ref (q 0)), (1, .int p1), (2, .int p2), (3, .int x3), (4, .int x4), (5, .int x5)] → va_S no s.heap H locs → m_X4_isSafeOn_29 F S p1 p2 n x3 x4 x5 = some r → W p l e { frames := 5, cells := 0, slots := 0, locals := 119 } s m args below meth c H locs 0 0 (MQ below (roQ H r) args s 0 0 no) (F0 m 29 ls []) := by
  have hx := X.1
  have hb := X.2.1
  intro n
  induction n with
  | zero =>
    intro x3 x4 x5 ls locs hl hS h
    exact no_none (show none = some r from h)
  | succ n ih =>
    intro x3 x4 x5 ls locs hl hS h
    rw [m_X4_isSafeOn_29] at h
    refine lv_iload hx hb dX4_isSafeOn_29 (lv_at hl 5 rfl) ?_
    refine lv_aload_n hx hb dX4_isSafeOn_31 rfl (lv_at hl 0 rfl) ?_
    refine gf_X4_61 X hP dX4_isSafeOn_32 ?_
    refine lv_icmp_ge (tgt := 123) hx hb dX4_isSafeOn_35 (by decide) (fun c4 => ?_) (fun c4 => ?_)
    · have h := tt_some h c4
      refine lv_iload hx hb dX4_isSafeOn_123 (lv_at hl 4 rfl) ?_
      obtain ⟨hz5, h⟩ := gd_some h
      exact ro_retz X hS h (bz_n hz5) dX4_isSafeOn_125
    · have h := ff_some h c4
      refine lv_iload hx hb dX4_isSafeOn_38 (lv_at hl 4 rfl) ?_
      refine lv_if_eq (tgt := 123) hx hb dX4_isSafeOn_40 (by decide) (fun c6 => ?_) (fun c6 => ?_)
      · have h := tt_some h c6
        refine lv_iload hx hb dX4_isSafeOn_123 (lv_at hl 4 rfl) ?_
        obtain ⟨hz7, h⟩ := gd_some h
        exact ro_retz X hS h (bz_n hz7) dX4_isSafeOn_125
      · have h := ff_some h c6
        refine lv_iconst (v := 0) hx hb dX4_isSafeOn_43 (by decide) ?_
        refine lv_istore (lv' := [(6, .int 0), (0, .ref (q 0)), (1, .int p1), (2, .int p2), (3, .int x3), (4, .int x4), (5, .int x5)]) hx hb dX4_isSafeOn_44 hl (by decide) rfl (fun ls hl => ?_)
        refine lv_iconst (v := 0) hx hb dX4_isSafeOn_46 (by decide) ?_
        refine lv_istore (lv' := [(7, .int 0), (6, .int 0), (0, .ref (q 0)), (1, .int p1), (2, .int p2), (3, .int x3), (4, .int x4), (5, .int x5)]) hx hb dX4_isSafeOn_47 hl (by decide) rfl (fun ls hl => ?_)
        exact wk_X4_isSafeOn_49 X hP ih F x3 x5 0 0 ls _ (lv_sub hl [2, 3, 4, 5, 7, 1, 0] rfl) hS h
set_option maxHeartbeats 4000000 in
set_option maxRecDepth 100000 in
theorem c_X4_isSafeOn (l : Launch) (D : va_G) (cI cG : ClassId) (q : Nat → Nat) (S : St) (H : Heap) (F : Nat) (p1 p2 : Int32) {r : Int32} (h : m_X4_isSafeOn F S p1 p2 = some r) : RoM l yX4_isSafeOn cX4_isSafeOn 8 (some .boolean) 5 119 [.ref (q 0), .int p1, .int p2] D cI cG (wM cI cG q S) H r := by
  refine RoM.of (own := RX4) (by decide) rfl (Nat.le_of_ble_eq_true rfl) ?_
  intro p e s m args below meth c ls X hP hS hl0
  have hl : lv_has ls 8 [(0, .ref (q 0)), (1, .int p1), (2, .int p2)] := hl0 _ (lv_entry [.ref (q 0), .int p1, .int p2] (n := 8) (Nat.le_of_ble_eq_true rfl))
  have hx := X.1
  have hb := X.2.1
  rw [m_X4_isSafeOn] at h
  refine lv_aload_n hx hb dX4_isSafeOn_0 rfl (lv_at hl 0 rfl) ?_
  refine lv_iload_n hx hb dX4_isSafeOn_1 rfl (lv_at hl 2 rfl) ?_
  obtain ⟨r1, er1, h⟩ := bd_some h
  refine ro_V (As := [.int p2]) (rest := []) X hP hS hl.1 (c_X4_soundOf l D cI cG q S _ F p2 er1) lk_X4_131 (rc_X4_X4 X hP) ⟨by decide, by decide⟩ rfl rfl (Nat.le_of_ble_eq_true rfl) dX4_isSafeOn_2 ⟨Nat.le_refl _, Nat.le_refl _⟩ (fun locs hS => ?_)
  refine lv_istore_n (lv' := [(3, .int r1), (0, .ref (q 0)), (1, .int p1), (2, .int p2)]) hx hb dX4_isSafeOn_5 rfl hl (by decide) rfl (fun ls hl => ?_)
  refine lv_aload_n hx hb dX4_isSafeOn_6 rfl (lv_at hl 1 rfl) ?_
  refine lv_iload_n hx hb dX4_isSafeOn_7 rfl (lv_at hl 0 rfl) ?_
  obtain ⟨r2, er2, h⟩ := bd_some h
  refine ro_V (As := [.int r1]) (rest := []) X hP hS hl.1 (c_X4_mostOf l D cI cG q S _ F r1 er2) lk_X4_134 (rc_X4_X4 X hP) ⟨by decide, by decide⟩ rfl rfl (Nat.le_of_ble_eq_true rfl) dX4_isSafeOn_8 ⟨Nat.le_refl _, Nat.le_refl _⟩ (fun locs hS => ?_)
  refine lv_iload_n hx hb dX4_isSafeOn_11 rfl (lv_at hl 2 rfl) ?_
  refine lv_ishr hx hb dX4_isSafeOn_12 ?_
  refine lv_iconst (v := 1) hx hb dX4_isSafeOn_13 (by decide) ?_
  refine lv_iand hx hb dX4_isSafeOn_14 ?_
  refine lv_iconst (v := 1) hx hb dX4_isSafeOn_15 (by decide) ?_
  refine lv_icmp_ne (tgt := 23) hx hb dX4_isSafeOn_16 (by decide) (fun c3 => ?_) (fun c3 => ?_)
  · have h := ff_some h c3
    refine lv_iconst (v := 0) hx hb dX4_isSafeOn_23 (by decide) ?_
    refine lv_istore (lv' := [(4, .int 0), (3, .int r1), (0, .ref (q 0)), (1, .int p1), (2, .int p2)]) hx hb dX4_isSafeOn_24 hl (by decide) rfl (fun ls hl => ?_)
    refine lv_iconst (v := 0) hx hb dX4_isSafeOn_26 (by decide) ?_
    refine lv_istore (lv' := [(5, .int 0), (4, .int 0), (3, .int r1), (0, .ref (q 0)), (1, .int p1), (2, .int p2)]) hx hb dX4_isSafeOn_27 hl (by decide) rfl (fun ls hl => ?_)
    exact wk_X4_isSafeOn_29 X hP F r1 0 0 ls _ (lv_sub hl [3, 4, 5, 2, 1, 0] rfl) hS h
  · have h := tt_some h c3
    refine lv_iconst (v := 1) hx hb dX4_isSafeOn_19 (by decide) ?_
    refine lv_goto (tgt := 24) hx hb dX4_isSafeOn_20 (by decide) ?_
    refine lv_istore (lv' := [(4, .int 1), (3, .int r1), (0, .ref (q 0)), (1, .int p1), (2, .int p2)]) hx hb dX4_isSafeOn_24 hl (by decide) rfl (fun ls hl => ?_)
    refine lv_iconst (v := 0) hx hb dX4_isSafeOn_26 (by decide) ?_
    refine lv_istore (lv' := [(5, .int 0), (4, .int 1), (3, .int r1), (0, .ref (q 0)), (1, .int p1), (2, .int p2)]) hx hb dX4_isSafeOn_27 hl (by decide) rfl (fun ls hl => ?_)
    exact wk_X4_isSafeOn_29 X hP F r1 1 0 ls _ (lv_sub hl [3, 4, 5, 2, 1, 0] rfl) hS h
set_option maxHeartbeats 4000000 in
set_option maxRecDepth 100000 in
theorem wk_X4_safe_40 {p : Program} {l : Launch} {e : Env} {s : State} {m : MethodId} {args : Array Value} {below : List Frame} {meth : Method} {c : Code} {D : va_G} {cI cG : ClassId} {q : Nat → Nat} {S : St} {H : Heap} {r : Int32} {F : Nat} {p1 : Int32}  (X : Cx p s m args meth c cX4_safe 3 (some .int) RX4 D cI cG) (hP : va_P D vwCl (wM cI cG q S) H)  : ∀ (x2 : Int32) (ls : Array Slot) (locs : List Loc), lv_has ls 3 [(2, .int x2)] → va_S no s.heap H locs → m_X4_safe_40 F S p1 x2 = some r → W p l e { frames := 6, cells := 0, slots := 0, locals := 146 } s m args below meth c H locs 0 0 (MQ below (roQ H r) args s 0 0 no) (F0 m 40 ls []) := by
  have hx := X.1
  have hb := X.2.1
  intro x2 ls locs hl hS h
  rw [m_X4_safe_40] at h
  refine lv_iload_n hx hb dX4_safe_40 rfl (lv_at hl 0 rfl) ?_
  refine lv_bipush (v := 99) hx hb dX4_safe_41 (by decide) ?_
  refine lv_icmp_le (tgt := 51) hx hb dX4_safe_43 (by decide) (fun c8 => ?_) (fun c8 => ?_)
  · have h := tt_some h c8
    refine lv_iload_n hx hb dX4_safe_51 rfl (lv_at hl 0 rfl) ?_
    exact ro_ret X hS h dX4_safe_52
  · have h := ff_some h c8
    refine lv_bipush (v := (-6 : Int32)) hx hb dX4_safe_46 (by decide) ?_
    refine lv_goto (tgt := 52) hx hb dX4_safe_48 (by decide) ?_
    exact ro_ret X hS h dX4_safe_52
set_option maxHeartbeats 4000000 in
set_option maxRecDepth 100000 in
theorem wk_X4_safe_13 {p : Program} {l : Launch} {e : Env} {s : State} {m : MethodId} {args : Array Value} {below : List Frame} {meth : Method} {c : Code} {D : va_G} {cI cG : ClassId} {q : Nat → Nat} {S : St} {H : Heap} {r : Int32} {F : Nat} {p1 : Int32}  (X : Cx p s m args meth c cX4_safe 3 (some .int) RX4 D cI cG) (hP : va_P D vwCl (wM cI cG q S) H)  : ∀ (n : Nat) (x2 : Int32) (ls : Array Slot) (locs : List Loc), lv_has ls 3 [(0, .ref (q 0)), (1, .int p1), (2, .int x2)] → va_S no s.heap H locs → m_X4_safe_13 F S p1 n x2 = some r → W p l e { frames := 6, cells := 0, slots := 0, locals := 146 } s m args below meth c H locs 0 0 (MQ below (roQ H r) args s 0 0 no) (F0 m 13 ls []) := by
  have hx := X.1
  have hb := X.2.1
  intro n
  induction n with
  | zero =>
    intro x2 ls locs hl hS h
    exact no_none (show none = some r from h)
  | succ n ih =>
    intro x2 ls locs hl hS h
    rw [m_X4_safe_13] at h
    refine lv_iload_n hx hb dX4_safe_13 rfl (lv_at hl 2 rfl) ?_
    refine lv_aload_n hx hb dX4_safe_14 rfl (lv_at hl 0 rfl) ?_
    refine gf_X4_7 X hP dX4_safe_15 ?_
    refine lv_iload_n hx hb dX4_safe_18 rfl (lv_at hl 1 rfl) ?_
    obtain ⟨hi3, h⟩ := gd_some h
    refine ro_ald X hP 1 wM_1 hi3 dX4_safe_19 ?_
    refine lv_icmp_le (tgt := 40) hx hb dX4_safe_20 (by decide) (fun c4 => ?_) (fun c4 => ?_)
    · have h := tt_some h c4
      exact wk_X4_safe_40 X hP x2 ls _ (lv_sub hl [2] rfl) hS h
    · have h := ff_some h c4
      refine lv_aload_n hx hb dX4_safe_23 rfl (lv_at hl 0 rfl) ?_
      refine lv_iload_n hx hb dX4_safe_24 rfl (lv_at hl 1 rfl) ?_
      refine lv_iload_n hx hb dX4_safe_25 rfl (lv_at hl 2 rfl) ?_
      refine lv_iconst (v := 1) hx hb dX4_safe_26 (by decide) ?_
      refine lv_isub hx hb dX4_safe_27 ?_
      obtain ⟨r5, er5, h⟩ := bd_some h
      refine ro_V (As := [.int p1, .int (x2 - 1)]) (rest := []) X hP hS hl.1 (c_X4_isSafeOn l D cI cG q S _ F p1 (x2 - 1) er5) lk_X4_168 (rc_X4_X4 X hP) ⟨by decide, by decide⟩ rfl rfl (Nat.le_of_ble_eq_true rfl) dX4_safe_28 ⟨Nat.le_refl _, Nat.le_refl _⟩ (fun locs hS => ?_)
      refine lv_if_eq (tgt := 40) hx hb dX4_safe_31 (by decide) (fun c6 => ?_) (fun c6 => ?_)
      · have h := tt_some h c6
        exact wk_X4_safe_40 X hP x2 ls _ (lv_sub hl [2] rfl) hS h
      · have h := ff_some h c6
        obtain ⟨v7, ev7⟩ : ∃ y : Int32, y = x2 + (-1 : Int32) := ⟨_, rfl⟩
        have h := nm_some h ev7
        refine lv_iinc (v := v7) (lv' := [(2, .int v7), (0, .ref (q 0)), (1, .int p1)]) hx hb dX4_safe_34 hl (k := 2) rfl (by rw [ev7]; rfl) (by decide) rfl (fun ls hl => ?_)
        refine lv_goto (tgt := 13) hx hb dX4_safe_37 (by decide) ?_
        exact ih v7 ls _ (lv_sub hl [1, 2, 0] rfl) hS h
set_option maxHeartbeats 4000000 in
set_option maxRecDepth 100000 in
theorem c_X4_safe (l : Launch) (D : va_G) (cI cG : ClassId) (q : Nat → Nat) (S : St) (H : Heap) (F : Nat) (p1 : Int32) {r : Int32} (h : m_X4_safe F S p1 = some r) : RoM l yX4_safe cX4_safe 3 (some .int) 6 146 [.ref (q 0), .int p1] D cI cG (wM cI cG q S) H r := by
  refine RoM.of (own := RX4) (by decide) rfl (Nat.le_of_ble_eq_true rfl) ?_
  intro p e s m args below meth c ls X hP hS hl0
  have hl : lv_has ls 3 [(0, .ref (q 0)), (1, .int p1)] := hl0 _ (lv_entry [.ref (q 0), .int p1] (n := 3) (Nat.le_of_ble_eq_true rfl))
  have hx := X.1
  have hb := X.2.1
  rw [m_X4_safe] at h
  refine lv_aload_n hx hb dX4_safe_0 rfl (lv_at hl 0 rfl) ?_
  refine lv_iload_n hx hb dX4_safe_1 rfl (lv_at hl 1 rfl) ?_
  obtain ⟨r1, er1, h⟩ := bd_some h
  refine ro_V (As := [.int p1]) (rest := []) X hP hS hl.1 (c_X4_isAct l D cI cG q S _ p1 er1) lk_X4_71 (rc_X4_X4 X hP) ⟨by decide, by decide⟩ rfl rfl (Nat.le_of_ble_eq_true rfl) dX4_safe_2 ⟨Nat.le_refl _, Nat.le_refl _⟩ (fun locs hS => ?_)
  refine lv_if_ne (tgt := 10) hx hb dX4_safe_5 (by decide) (fun c2 => ?_) (fun c2 => ?_)
  · have h := ff_some h c2
    refine lv_bipush (v := 100) hx hb dX4_safe_10 (by decide) ?_
    refine lv_istore_n (lv' := [(2, .int 100), (0, .ref (q 0)), (1, .int p1)]) hx hb dX4_safe_12 rfl hl (by decide) rfl (fun ls hl => ?_)
    exact wk_X4_safe_13 X hP F 100 ls _ (lv_sub hl [1, 2, 0] rfl) hS h
  · have h := tt_some h c2
    refine lv_iconst (v := (-1 : Int32)) hx hb dX4_safe_8 (by decide) ?_
    exact ro_ret X hS h dX4_safe_9
set_option maxHeartbeats 4000000 in
set_option maxRecDepth 100000 in
theorem c_X4_told (l : Launch) (D : va_G) (cI cG : ClassId) (q : Nat → Nat) (S : St) (H : Heap) (p1 : Int32) {r : Int32} (h : m_X4_told S p1 = some r) : RoM l yX4_told cX4_told 2 (some .int) 2 46 [.ref (q 0), .int p1] D cI cG (wM cI cG q S) H r := by
  refine RoM.of (own := RX4) (by decide) rfl (Nat.le_of_ble_eq_true rfl) ?_
  intro p e s m args below meth c ls X hP hS hl0
  have hl : lv_has ls 2 [(0, .ref (q 0)), (1, .int p1)] := hl0 _ (lv_entry [.ref (q 0), .int p1] (n := 2) (Nat.le_of_ble_eq_true rfl))
  have hx := X.1
  have hb := X.2.1
  rw [m_X4_told] at h
  refine lv_iload_n hx hb dX4_told_0 rfl (lv_at hl 1 rfl) ?_
  refine lv_i2l (v := Int32.toInt64 p1) hx hb dX4_told_1 rfl ?_
  refine lv_ldc2 (v := (10 : Int64)) hx hb X.2.2.2.2.2.1 (X.2.2.2.2.2.2.1 _ w_kl_X4_171) dX4_told_2 ?_
  refine lv_ldc2 (v := (21 : Int64)) hx hb X.2.2.2.2.2.1 (X.2.2.2.2.2.2.1 _ w_kl_X4_173) dX4_told_5 ?_
  obtain ⟨r1, er1, h⟩ := bd_some h
  refine ro_S (As := [.long (Int32.toInt64 p1), .long 10, .long 21]) (rest := []) X hP hS hl.1 (c_X4_in l D cI cG _ _ (Int32.toInt64 p1) 10 21 er1) lk_X4_55 ⟨by decide, by decide⟩ rfl rfl (Nat.le_of_ble_eq_true rfl) dX4_told_8 ⟨Nat.le_refl _, Nat.le_refl _⟩ (fun locs hS => ?_)
  refine lv_if_eq (tgt := 39) hx hb dX4_told_11 (by decide) (fun c2 => ?_) (fun c2 => ?_)
  · have h := tt_some h c2
    refine lv_iload_n hx hb dX4_told_39 rfl (lv_at hl 1 rfl) ?_
    by_cases c3 : p1 = 0
    · have h := tt_some h c3
      refine lv_tableIn (off := 36) (tgt := 76) hx hb dX4_told_40 (by rw [c3]; decide) (by rw [c3]; decide) (by rw [c3]; rfl) (by decide) ?_
      refine lv_aload_n hx hb dX4_told_76 rfl (lv_at hl 0 rfl) ?_
      refine gf_X4_61 X hP dX4_told_77 ?_
      exact ro_ret X hS h dX4_told_80
    · have h := ff_some h c3
      by_cases c4 : p1 = 1
      · have h := tt_some h c4
        refine lv_tableIn (off := 41) (tgt := 81) hx hb dX4_told_40 (by rw [c4]; decide) (by rw [c4]; decide) (by rw [c4]; rfl) (by decide) ?_
        refine lv_aload_n hx hb dX4_told_81 rfl (lv_at hl 0 rfl) ?_
        refine gf_X4_101 X hP dX4_told_82 ?_
        exact ro_ret X hS h dX4_told_85
      · have h := ff_some h c4
        by_cases c5 : p1 = 2
        · have h := tt_some h c5
          refine lv_tableIn (off := 46) (tgt := 86) hx hb dX4_told_40 (by rw [c5]; decide) (by rw [c5]; decide) (by rw [c5]; rfl) (by decide) ?_
          refine lv_aload_n hx hb dX4_told_86 rfl (lv_at hl 0 rfl) ?_
          refine gf_X4_90 X hP dX4_told_87 ?_
          exact ro_ret X hS h dX4_told_90
        · have h := ff_some h c5
          by_cases c6 : p1 = 3
          · have h := tt_some h c6
            refine lv_tableIn (off := 51) (tgt := 91) hx hb dX4_told_40 (by rw [c6]; decide) (by rw [c6]; decide) (by rw [c6]; rfl) (by decide) ?_
            refine lv_aload_n hx hb dX4_told_91 rfl (lv_at hl 0 rfl) ?_
            refine gf_X4_83 X hP dX4_told_92 ?_
            exact ro_ret X hS h dX4_told_95
          · have h := ff_some h c6
            by_cases c7 : p1 = 4
            · have h := tt_some h c7
              refine lv_tableIn (off := 56) (tgt := 96) hx hb dX4_told_40 (by rw [c7]; decide) (by rw [c7]; decide) (by rw [c7]; rfl) (by decide) ?_
              refine lv_aload_n hx hb dX4_told_96 rfl (lv_at hl 0 rfl) ?_
              refine gf_X4_49 X hP dX4_told_97 ?_
              exact ro_ret X hS h dX4_told_100
            · have h := ff_some h c7
              refine lv_tableOut (tgt := 101) hx hb dX4_told_40 (ts_out (n := 5) (by decide) (ts_cons (ts_cons (ts_cons (ts_cons (ts_cons ts_nil c3) c4) c5) c6) c7) rfl) (by decide) ?_
              refine lv_bipush (v := (-2 : Int32)) hx hb dX4_told_101 (by decide) ?_
              exact ro_ret X hS h dX4_told_103
  · have h := ff_some h c2
    refine lv_aload_n hx hb dX4_told_14 rfl (lv_at hl 0 rfl) ?_
    refine lv_iload_n hx hb dX4_told_15 rfl (lv_at hl 1 rfl) ?_
    refine lv_bipush (v := 10) hx hb dX4_told_16 (by decide) ?_
    refine lv_isub hx hb dX4_told_18 ?_
    obtain ⟨r8, er8, h⟩ := bd_some h
    refine ro_V (As := [.int (p1 - 10)]) (rest := []) X hP hS hl.1 (c_X4_isAct l D cI cG q S _ (p1 - 10) er8) lk_X4_71 (rc_X4_X4 X hP) ⟨by decide, by decide⟩ rfl rfl (Nat.le_of_ble_eq_true rfl) dX4_told_19 ⟨Nat.le_refl _, Nat.le_refl _⟩ (fun locs hS => ?_)
    refine lv_if_eq (tgt := 37) hx hb dX4_told_22 (by decide) (fun c9 => ?_) (fun c9 => ?_)
    · have h := tt_some h c9
      refine lv_iconst (v := 0) hx hb dX4_told_37 (by decide) ?_
      exact ro_ret X hS h dX4_told_38
    · have h := ff_some h c9
      refine lv_aload_n hx hb dX4_told_25 rfl (lv_at hl 0 rfl) ?_
      refine gf_X4_34 X hP dX4_told_26 ?_
      refine lv_iload_n hx hb dX4_told_29 rfl (lv_at hl 1 rfl) ?_
      refine lv_bipush (v := 10) hx hb dX4_told_30 (by decide) ?_
      refine lv_isub hx hb dX4_told_32 ?_
      obtain ⟨hi10, h⟩ := gd_some h
      refine ro_ald X hP 9 wM_9 hi10 dX4_told_33 ?_
      refine lv_goto (tgt := 38) hx hb dX4_told_34 (by decide) ?_
      exact ro_ret X hS h dX4_told_38
