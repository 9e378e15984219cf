/-! the law from its entry, over the owed steps of the mirrors -/
def SX0 : St := fun k => match k with
  | 0 => (fun j => match j with
    | 1 => 1
    | _ => 0)
  | 16 => fun _ => 99
  | 17 => fun _ => -1
  | _ => fun _ => 0
def SM0 : St := fun k => match k with
  | 0 => (fun j => match j with
    | 3 => 1
    | _ => 0)
  | _ => fun _ => 0

theorem nw_X3_18 : Cond.methodLinkNest RX3 18 yX1_init RX3 ∈ lw_tbl := (List.mem_append_right _ (List.mem_append_left _ (List.mem_of_getElem? (i := 60) rfl)))
theorem nw_X3_25 : Cond.methodLinkNest RX3 25 yX2_init RX3 ∈ lw_tbl := (List.mem_append_right _ (List.mem_append_left _ (List.mem_of_getElem? (i := 80) rfl)))
theorem nw_X0_61 : Cond.methodLinkNest RX0 61 yX3_contains RX3 ∈ lw_tbl := (List.mem_append_right _ (List.mem_append_right _ (List.mem_append_left _ (List.mem_of_getElem? (i := 29) rfl))))
theorem nw_X2_27 : Cond.methodLinkNest RX2 27 yX3_within RX3 ∈ lw_tbl := (List.mem_append_right _ (List.mem_append_left _ (List.mem_of_getElem? (i := 173) rfl)))
theorem nw_aro : Cond.arrayOver (.array .int) ∈ lw_tbl := (List.mem_append_right _ (List.mem_append_left _ (List.mem_of_getElem? (i := 24) rfl)))
theorem nw_ls_LEAST_SETTING : Cond.laysStatic "FallWith" "LEAST_SETTING" "[I" ∈ lw_tbl := (List.mem_append_right _ (List.mem_append_left _ (List.mem_of_getElem? (i := 136) rfl)))
theorem nw_ls_GREATEST_SETTING : Cond.laysStatic "FallWith" "GREATEST_SETTING" "[I" ∈ lw_tbl := (List.mem_append_right _ (List.mem_append_left _ (List.mem_of_getElem? (i := 138) rfl)))
theorem stat_of {s : State} {args : Array Value} {A : Nat → Prop} {n : String} {f : Nat → Int32} (hl : (Cond.laysStatic "FallWith" n "[I").before args s = true) (hini : (Cond.initialized "FallWith").before args s = true)
    (harr : (Cond.arrayOf (.static "FallWith" n "[I") .int).before args s = true) (hlen : (Cond.eq (.length (.static "FallWith" n "[I")) (.int 4)).before args s = true)
    (hel : ∀ j : Nat, j < 4 → (Cond.eq (.elem (.static "FallWith" n "[I") (.int (Int32.ofNat j))) (.int (f j))).before args s = true) (hA : ∀ a : Nat, a < s.heap.size → ¬ A a) : ∃ t : Nat, va_Z "FallWith" n "[I" (.ref t) A s s.heap ∧ va_T .int t 4 (fun j => .int (f j)) A s s.heap := by
  obtain ⟨t, h1, h2⟩ := va_Tof (N := 4) (f := fun j => .int (f j)) (A := A) (by decide) harr (va_eqt hlen) (fun j hj => va_eqt (hel j hj)) hA
  exact ⟨t, va_Zref hl hini h1 hA, h2⟩
set_option maxHeartbeats 4000000 in
set_option maxRecDepth 100000 in
theorem whole_open {F : Nat} {Rel : St → St → Prop} (hsp : Sp F Rel) (hR0 : Rel SX0 SM0) {p : Program} {e : Env} {s : State} {m : MethodId} {below : List Frame} {meth : Method} {c : Code} (l : Launch) {b L : Nat} {xs : Nat → Int32} (hL : L ≤ 2560) (C0 : lw_At p s m meth c b L xs) : W p l e room_1 s m #[Value.ref b] below meth c s.heap [] 0 0 (lw_Z below #[Value.ref b] s) (entryFrame m ([Value.ref b] : List Value).toArray 4) := by
  obtain ⟨hx, hb, hr, hml, hown, hts0, hX, hbl, hlocks, hgv⟩ := id C0
  have hts : ∀ w ∈ tbG, w.before #[Value.ref b] s = true := fun w h => hts0 w (List.mem_filter.mp h).1
  have hA : ∀ q : Nat, s.heap.size ≤ q → lawA s q := fun _ h => h
  have hnA : ∀ a : Nat, a < s.heap.size → ¬ lawA s a := fun a h z => absurd h (Nat.not_lt.mpr z)
  obtain ⟨c0, iS0, hKn0⟩ := u_known (C := RX0) (T := TX0) (N := 8) (n := 8) hts inX0 (hts _ w_ins_X0)
  obtain ⟨c1, iS1, hKn1⟩ := u_known (C := RX1) (T := TX1) (N := 4) (n := 4) hts inX1 (hts _ w_ins_X1)
  obtain ⟨c2, iS2, hKn2⟩ := u_known (C := RX2) (T := TX2) (N := 2) (n := 2) hts inX2 (hts _ w_ins_X2)
  obtain ⟨c3, iS3, hKn3⟩ := u_known (C := RX3) (T := TX3) (N := 5) (n := 5) hts inX3 (hts _ w_ins_X3)
  obtain ⟨c4, iS4, hKn4⟩ := u_known (C := RX4) (T := TX4) (N := 21) (n := 21) hts inX4 (hts _ w_ins_X4)
  obtain ⟨dC, dI, hKc⟩ : ∃ (dC : Nat → ClassId) (dI : Nat → Nat → Nat), ∀ (k : Nat) (q : vw_C), vwCl[k]? = some q → u_Kn s q.1 q.2.1 q.2.2 (dC k) (dI k) := by
    refine ⟨fun k => if k = 0 then c0 else if k = 1 then c1 else if k = 2 then c2 else if k = 3 then c3 else c4, fun k => if k = 0 then iS0 else if k = 1 then iS1 else if k = 2 then iS2 else if k = 3 then iS3 else iS4, ?_⟩
    intro k q hq
    match k, hq with
    | 0, hq => cases hq; exact hKn0
    | 1, hq => cases hq; exact hKn1
    | 2, hq => cases hq; exact hKn2
    | 3, hq => cases hq; exact hKn3
    | 4, hq => cases hq; exact hKn4
    | k + 5, hq => simp [vwCl] at hq
  obtain ⟨cI, kI, compI, i1, i2, i3⟩ := Cond.arrayClass_spec (hts _ w_arc)
  obtain ⟨compG, cG, kG, g1, g2, g3, g4, g5⟩ := arrayOverA_spec (hts0 _ nw_aro)
  have hK : va_K (dC, dI) vwCl [(cI, .int), (cG, .array .int)] s := by
    refine ⟨hKc, fun k q hk => ?_⟩
    match k, hk with
    | 0, hk => cases hk; exact ⟨fun N z => ⟨(fun q hq => by cases hq), kI, i2, compI, i3⟩, i1⟩
    | 1, hk => cases hk; exact ⟨fun N z => ⟨(fun q hq => by cases hq), kG, g3, compG, g4⟩, g5⟩
    | k + 2, hk => simp at hk
  have hkk : kk (dC, dI) cI cG s := ⟨hK, va_Nw.of rfl (hts0 _ nw_X2_27), va_Nw.of rfl (hts0 _ nw_X0_61)⟩
  have hkc : kc (dC, dI) cI cG s := ⟨hkk, va_AOA.of (hts0 _ nw_aro), va_Nw.of rfl (hts0 _ nw_X3_18), va_Nw.of rfl (hts0 _ nw_X3_25)⟩
  have hfl := flat_of_before _ hgv
  obtain ⟨a1, hz1, ht1⟩ := stat_of (n := "LEAST_SETTING") (f := set1) (A := lawA s) (hts0 _ nw_ls_LEAST_SETTING) (hts _ w_ini_X3) (hfl _ (by decide +kernel)) (hfl _ (by decide +kernel)) (fun j hj => by rcases (show j = 0 ∨ j = 1 ∨ j = 2 ∨ j = 3 by omega) with rfl | rfl | rfl | rfl <;> exact hfl _ (by decide +kernel)) hnA
  obtain ⟨a2, hz2, ht2⟩ := stat_of (n := "GREATEST_SETTING") (f := set2) (A := lawA s) (hts0 _ nw_ls_GREATEST_SETTING) (hts _ w_ini_X3) (hfl _ (by decide +kernel)) (hfl _ (by decide +kernel)) (fun j hj => by rcases (show j = 0 ∨ j = 1 ∨ j = 2 ∨ j = 3 by omega) with rfl | rfl | rfl | rfl <;> exact hfl _ (by decide +kernel)) hnA
  have X : Cx p s m #[Value.ref b] meth c cL_law 4 (some .boolean) RL (dC, dI) cI cG := ⟨hx, hb, hml, hr, hlocks, hown, hts, hkk⟩
  have hS : va_S (lawA s) s.heap s.heap [] := va_S.rf
  have hP : va_P (dC, dI) vwCl [] s.heap := fun k q h => by simp at h
  have hD : va_D (lawA s) [] := ⟨fun i j p q h => by simp at h, fun k q h => by simp at h⟩
  have hl := lv_entry ([.ref b]) (n := 4) (Nat.le_of_ble_eq_true rfl)
  rw [lg_entry_eq]
  generalize (lg_sl ([.ref b]) ++ List.replicate (4 - (lg_sl ([.ref b])).length) Slot.unset).toArray = ls at hl ⊢
  have hl : lv_has ls 4 [(0, .ref b)] := hl
  refine va_new (ci := 3) (fs := [.null, .null, .null, .int 0, .int 0]) (C := RX3) (T := TX3) (N := 5) hx hb hts inX3 tyX3 tyX3_ok hown (hts _ w_cl_L_7) (hts _ w_ins_X3) (hts _ w_ini_X3) hK hP hD hS hA rfl (fun j hj => by rcases (show j = 0 ∨ j = 1 ∨ j = 2 ∨ j = 3 ∨ j = 4 by omega) with rfl | rfl | rfl | rfl | rfl <;> rfl) (Nat.le_of_ble_eq_true rfl) (Nat.le_of_ble_eq_true rfl) dL_law_0 (fun b1 H hP hD hS => ?_)
  refine lv_dup hx hb dL_law_3 rfl ?_
  refine in_call (w0 := []) (va_runI (As := []) (rest := [.ref b1]) (Ts := tbG) ⟨hx, hb, hml, hown, hts⟩ (c_X3_init l (dC, dI) cI cG b1 H.size) (cwI 0 hts (goodC w_co_X3_init tb_self) rfl rfl rfl (hts _ w_ini_X3) (hts _ w_ml_L_9) (hts _ w_im_X3_init) rfl (by decide +kernel) ⟨Nat.le_of_ble_eq_true rfl, Nat.le_of_ble_eq_true rfl⟩) ⟨inP_blind, inP_warm hP hkc⟩ rfl rfl hl.1 rfl (lv_room (Nat.le_of_ble_eq_true rfl)) dL_law_4 ⟨Nat.le_of_ble_eq_true rfl, Nat.le_of_ble_eq_true rfl⟩) hP hD hS hA (fun q H locs hq0 hP hD hS => ?_)
  have hP : va_P (dC, dI) vwCl (wX cI cG q SX0) H := hP.sub [0, 1, 25, 29, 2, 3, 4, 5, 6, 11, 12, 26, 27, 28, 30, 7, 8, 9, 10, 13, 14, 15, 16, 17, 18, 19, 20, 21, 22, 23, 24] rfl
  have hD : va_D (lawA s) (wX cI cG q SX0) := hD.sub [0, 1, 25, 29, 2, 3, 4, 5, 6, 11, 12, 26, 27, 28, 30, 7, 8, 9, 10, 13, 14, 15, 16, 17, 18, 19, 20, 21, 22, 23, 24] (by decide) rfl
  refine W.widen (k := 31) (n := 459) (by omega) (by omega) ?_
  refine lv_astore_n (lv' := [(1, .ref b1), (0, .ref b)]) hx hb dL_law_7 rfl hl (by decide) rfl (fun ls hl => ?_)
  refine va_new (ci := 4) (fs := [.null, .null, .null, .null, .null, .null, .null, .int 0, .int 0, .null, .null, .int 0, .int 0, .null, .int 0, .null, .null, .null, .int 0, .int 0, .int 0]) (C := RX4) (T := TX4) (N := 21) hx hb hts inX4 tyX4 tyX4_ok hown (hts _ w_cl_L_10) (hts _ w_ins_X4) (hts _ w_ini_X4) hK hP hD hS hA rfl (fun j hj => by rcases (show j = 0 ∨ j = 1 ∨ j = 2 ∨ j = 3 ∨ j = 4 ∨ j = 5 ∨ j = 6 ∨ j = 7 ∨ j = 8 ∨ j = 9 ∨ j = 10 ∨ j = 11 ∨ j = 12 ∨ j = 13 ∨ j = 14 ∨ j = 15 ∨ j = 16 ∨ j = 17 ∨ j = 18 ∨ j = 19 ∨ j = 20 by omega) with rfl | rfl | rfl | rfl | rfl | rfl | rfl | rfl | rfl | rfl | rfl | rfl | rfl | rfl | rfl | rfl | rfl | rfl | rfl | rfl | rfl <;> rfl) (Nat.le_of_ble_eq_true rfl) (Nat.le_of_ble_eq_true rfl) dL_law_8 (fun b2 H hP hD hS => ?_)
  refine lv_dup hx hb dL_law_11 rfl ?_
  refine in_call (va_runI (As := []) (rest := [.ref b2]) (Ts := tbG) ⟨hx, hb, hml, hown, hts⟩ (c_X4_init l (dC, dI) cI cG b2 H.size) (cwI 0 hts (goodC w_co_X4_init tb_self) rfl rfl rfl (hts _ w_ini_X4) (hts _ w_ml_L_12) (hts _ w_im_X4_init) rfl (by decide +kernel) ⟨Nat.le_of_ble_eq_true rfl, Nat.le_of_ble_eq_true rfl⟩) ⟨inP_blind, inP_warm (last_P hP) hkc⟩ rfl rfl hl.1 rfl (lv_room (Nat.le_of_ble_eq_true rfl)) dL_law_12 ⟨Nat.le_of_ble_eq_true rfl, Nat.le_of_ble_eq_true rfl⟩) hP hD hS hA (fun q2 H locs hq2 hP hD hS => ?_)
  have hP1 : va_P (dC, dI) vwCl (wX cI cG q SX0) H := fun k x hk => hP k x (by rw [List.getElem?_append_left (List.getElem?_eq_some_iff.mp hk).1]; exact hk)
  have hP2 : va_P (dC, dI) vwCl (wM cI cG q2 SM0) H := fun k x hk => hP (31 + k) x (by rw [List.getElem?_append_right (show (wX cI cG q SX0).length ≤ 31 + k from Nat.le_add_right 31 k), show 31 + k - (wX cI cG q SX0).length = k from Nat.add_sub_cancel_left 31 k]; exact hk)
  have hD : va_D (lawA s) (wX cI cG q SX0 ++ wM cI cG q2 SM0) := hD
  have gX : ∀ i, i < 31 → ∃ ee, (wX cI cG q SX0 ++ wM cI cG q2 SM0)[i]? = some (q i, ee) := fun i hi => by
    have hlt : i < (wX cI cG q SX0).length := hi
    refine ⟨(wX cI cG q SX0)[i].2, ?_⟩
    rw [List.getElem?_append_left hlt, List.getElem?_eq_getElem hlt]
    have := (wX_fst (List.getElem?_eq_getElem hlt)).2
    rw [← this]
  have gM : ∀ i, i < 14 → ∃ ee, (wX cI cG q SX0 ++ wM cI cG q2 SM0)[31 + i]? = some (q2 i, ee) := fun i hi => by
    have hlt : i < (wM cI cG q2 SM0).length := hi
    refine ⟨(wM cI cG q2 SM0)[i].2, ?_⟩
    rw [List.getElem?_append_right (show (wX cI cG q SX0).length ≤ 31 + i from Nat.le_add_right 31 i), show 31 + i - (wX cI cG q SX0).length = i from Nat.add_sub_cancel_left 31 i, List.getElem?_eq_getElem hlt]
    have := (wM_fst (List.getElem?_eq_getElem hlt)).2
    rw [← this]
  have Fx : lawF s q q2 a1 a2 := by
    refine ⟨fun i j hi hj h => ?_, fun i j hi hj h => ?_, fun i j hi hj h => ?_, fun i hi => ?_, fun i hi => ?_, ⟨⟨hz1, ht1⟩, ⟨hz2, ht2⟩⟩⟩
    · obtain ⟨e1, h1⟩ := gX i hi
      obtain ⟨e2, h2⟩ := gX j hj
      exact hD.1 i j _ _ h1 h2 h
    · obtain ⟨e1, h1⟩ := gM i hi
      obtain ⟨e2, h2⟩ := gM j hj
      have := hD.1 _ _ _ _ h1 h2 h
      omega
    · obtain ⟨e1, h1⟩ := gX i hi
      obtain ⟨e2, h2⟩ := gM j hj
      have := hD.1 _ _ _ _ h1 h2 h
      omega
    · obtain ⟨e1, h1⟩ := gX i hi
      exact hD.2 _ _ h1
    · obtain ⟨e1, h1⟩ := gM i hi
      exact hD.2 _ _ h1
  subst hq0
  subst hq2
  refine W.widen (k := 45) (n := 892) (by omega) (by omega) ?_
  refine lv_astore_n (lv' := [(2, .ref (q2 0)), (1, .ref (q 0)), (0, .ref b)]) hx hb dL_law_15 rfl hl (by decide) rfl (fun ls hl => ?_)
  refine lv_iconst (v := 0) hx hb dL_law_16 (by decide) ?_
  refine lv_istore_n (lv' := [(3, .int 0), (2, .ref (q2 0)), (1, .ref (q 0)), (0, .ref b)]) hx hb dL_law_17 rfl hl (by decide) rfl (fun ls hl => ?_)
  exact law_loop hsp X hr Fx hX hbl hL (L + 1) 0 0 SX0 SM0 H locs ls nI_0.symm (by omega) (by omega) hR0 hP1 hP2 hS (lv_sub hl [3, 2, 1, 0] rfl)

