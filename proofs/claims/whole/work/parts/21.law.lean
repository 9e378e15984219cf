/-! the law: what is owed of the two mirrors, and the walk -/
def lawA (s : State) : Nat → Prop := fun a => s.heap.size ≤ a
/-- what stays through the law: the addresses -/
def lawF (s : State) (q q2 : Nat → Nat) (a1 a2 : Nat) : Prop := (∀ i j, i < 31 → j < 31 → q i = q j → i = j) ∧ (∀ i j, i < 14 → j < 14 → q2 i = q2 j → i = j) ∧ (∀ i j, i < 31 → j < 14 → q i ≠ q2 j) ∧ (∀ i, i < 31 → s.heap.size ≤ q i) ∧ (∀ i, i < 14 → s.heap.size ≤ q2 i) ∧ stt a1 a2 (lawA s) s s.heap
theorem lawF.aX {s : State} {q q2 : Nat → Nat} {a1 a2 : Nat} (h : lawF s q q2 a1 a2) : ∀ a, AX q a → lawA s a := fun a ⟨k, hk, e⟩ => by rw [e]; exact h.2.2.2.1 k hk
theorem lawF.aM {s : State} {q q2 : Nat → Nat} {a1 a2 : Nat} (h : lawF s q q2 a1 a2) : ∀ a, AM q2 a → lawA s a := fun a ⟨k, hk, e⟩ => by rw [e]; exact h.2.2.2.2.1 k hk
theorem lawF.nX {s : State} {q q2 : Nat → Nat} {a1 a2 : Nat} {cI cG : ClassId} {T : St} (h : lawF s q q2 a1 a2) : ∀ (k : Nat) (x : Nat × va_E), (wM cI cG q2 T)[k]? = some x → ¬ AX q x.1 := fun k x hx ⟨j, hj, e⟩ => by
  obtain ⟨h1, h2⟩ := wM_fst hx
  exact h.2.2.1 j k hj h1 (by rw [← e, h2])
theorem lawF.nM {s : State} {q q2 : Nat → Nat} {a1 a2 : Nat} {cI cG : ClassId} {S : St} (h : lawF s q q2 a1 a2) : ∀ (k : Nat) (x : Nat × va_E), (wX cI cG q S)[k]? = some x → ¬ AM q2 x.1 := fun k x hx ⟨j, hj, e⟩ => by
  obtain ⟨h1, h2⟩ := wX_fst hx
  exact h.2.2.1 k j h1 hj (by rw [← e, h2])
section LWR
variable {p : Program} {l : Launch} {e : Env} {R : Room} {s : State} {m : MethodId} {args : Array Value} {below : List Frame} {meth : Method} {c : Code} {H : Heap} {locs : List Loc} {cells slots : Nat} {Q : State → Prop}
variable {cc : ByteArray} {nL : Nat} {own : String} {D : va_G} {cI cG : ClassId} {w : St → va_W} {ws2 : va_W} {S S9 : St} {A A0 : Nat → Prop} {H0 : Heap} {pc : Nat} {ls : Array Slot} {rest st0 : List Value}
theorem rw_VL {ret rt : Option FieldType} {index : Nat} {C : String} {y : MethodName} {bytes : ByteArray} {maxL n fr lo : Nat} {b : Nat} {As : List Value} {r : Int32} (X : Cx p s m args meth c cc nL rt own D cI cG) (hP : va_P D vwCl (w S) H) (hP2 : va_P D vwCl ws2 H) (hap : ∀ (k : Nat) (x : Nat × va_E), ws2[k]? = some x → ¬ A x.1) (hAA : ∀ a, A a → A0 a) (hS : va_S A0 H0 H locs) (hl : ls.size = nL)
    (hM : RwM l y bytes maxL ret fr lo (.ref b :: As) D cI cG w A S H r S9) (hw : LinkV own index C y bytes maxL ret n) (hrec : ∃ cellB : Cell, H[b]? = some cellB ∧ cellB.vm.isStatics = false ∧ s.vm.findClass C = some cellB.cls)
    (hR : fr + 1 ≤ R.frames ∧ 8 + (maxL + 11) + lo ≤ R.locals) (hst : st0 = As.reverse ++ .ref b :: rest) (hn : As.length = n) (hr : (rest.map fun v => v.category).sum ≤ 8) (hdg : decode cc pc = .ok (.invokevirtual index, 3)) (hcs : cells + 0 ≤ R.cells ∧ slots + 0 ≤ R.slots)
    (k : ∀ (H1 : Heap) (locs1 : List Loc), va_P D vwCl (w S9) H1 → va_P D vwCl ws2 H1 → va_S A0 H0 H1 locs1 → W p l e R s m args below meth c H1 locs1 cells slots Q (F0 m (pc + 3) ls (.int r :: rest))) : W p l e R s m args below meth c H locs cells slots Q (F0 m pc ls st0) := by
  obtain ⟨hx, hb, hml, -, -, hown, hts, hk⟩ := X
  refine va_calli (va_runV (As := As) (rest := rest) (Ts := tbG) ⟨hx, hb, hml, hown, hts⟩ hM (cwV n hts hw.1 rfl rfl rfl hw.2 hR) ⟨roP_blind, hrec, roP_warm hP hk⟩ rfl hn hl hst (lv_room hr) hdg hcs) hS (fun q _ h => hAA q h) hAA (fun r1 u t H1 locs1 ht hvm hw1 hB hz1 hk1 hS1 => ?_)
  obtain ⟨e1, e2⟩ := hw1
  subst e1; subst e2
  rw [ht] at hB
  exact k H1 locs1 hB (hP2.kept (fun j x hx => hk1 x.1 (hP2 j x hx).lt (hap j x hx))) hS1
theorem rw_VLs {ret rt : Option FieldType} {index : Nat} {C : String} {y : MethodName} {bytes : ByteArray} {maxL n fr lo : Nat} {b a1 a2 : Nat} {As : List Value} {r : Int32} (X : Cx p s m args meth c cc nL rt own D cI cG) (hstt : stt a1 a2 A0 s s.heap) (hP : va_P D vwCl (w S) H) (hP2 : va_P D vwCl ws2 H) (hap : ∀ (k : Nat) (x : Nat × va_E), ws2[k]? = some x → ¬ A x.1) (hAA : ∀ a, A a → A0 a) (hS : va_S A0 s.heap H locs) (hl : ls.size = nL)
    (hM : RwMs l y bytes maxL ret fr lo (.ref b :: As) D cI cG w A a1 a2 S H r S9) (hw : LinkV own index C y bytes maxL ret n) (hrec : ∃ cellB : Cell, H[b]? = some cellB ∧ cellB.vm.isStatics = false ∧ s.vm.findClass C = some cellB.cls)
    (hR : fr + 1 ≤ R.frames ∧ 8 + (maxL + 11) + lo ≤ R.locals) (hst : st0 = As.reverse ++ .ref b :: rest) (hn : As.length = n) (hr : (rest.map fun v => v.category).sum ≤ 8) (hdg : decode cc pc = .ok (.invokevirtual index, 3)) (hcs : cells + 0 ≤ R.cells ∧ slots + 0 ≤ R.slots)
    (k : ∀ (H1 : Heap) (locs1 : List Loc), va_P D vwCl (w S9) H1 → va_P D vwCl ws2 H1 → va_S A0 s.heap H1 locs1 → W p l e R s m args below meth c H1 locs1 cells slots Q (F0 m (pc + 3) ls (.int r :: rest))) : W p l e R s m args below meth c H locs cells slots Q (F0 m pc ls st0) := by
  obtain ⟨hx, hb, hml, -, -, hown, hts, hk⟩ := X
  have hs2 : stt a1 a2 A s H := (hstt.kept (fun a h1 h2 => hS.2.1 a h1 h2)).narrow hAA
  refine va_calli (va_runV (As := As) (rest := rest) (Ts := tbG) ⟨hx, hb, hml, hown, hts⟩ hM (cwV n hts hw.1 rfl rfl rfl hw.2 hR) ⟨fun a U g mk z => ⟨(roP_blind (av := Value.ref b :: As) a U g mk ⟨z.1, z.2.1⟩).1, (roP_blind (av := Value.ref b :: As) a U g mk ⟨z.1, z.2.1⟩).2, z.2.2.moved (u := U) (U := U.calling g mk a) (Vm.Alike.refl U.vm)⟩, hrec, fun U hU hW => ⟨rfl, (roP_warm (av := Value.ref b :: As) hP hk U hU hW).2, by rw [hU]; exact hs2.moved hW.alike⟩⟩ rfl hn hl hst (lv_room hr) hdg hcs) hS (fun q _ h => hAA q h) hAA (fun r1 u t H1 locs1 ht hvm hw1 hB hz1 hk1 hS1 => ?_)
  obtain ⟨e1, e2⟩ := hw1
  subst e1; subst e2
  rw [ht] at hB
  exact k H1 locs1 hB (hP2.kept (fun j x hx => hk1 x.1 (hP2 j x hx).lt (hap j x hx))) hS1
theorem rcL3 {ret : Option FieldType} {q : Nat → Nat} (X : Cx p s m args meth c cc nL ret own D cI cG) (hP : va_P D vwCl (wX cI cG q S) H) : ∃ cellB : Cell, H[q 0]? = some cellB ∧ cellB.vm.isStatics = false ∧ s.vm.findClass RX3 = some cellB.cls := va_recv (ci := 3) (q0 := 0) X.2.2.2.2.2.2.2.1 hP rfl wX_0
theorem rcL4 {ret : Option FieldType} {q : Nat → Nat} (X : Cx p s m args meth c cc nL ret own D cI cG) (hP : va_P D vwCl (wM cI cG q S) H) : ∃ cellB : Cell, H[q 0]? = some cellB ∧ cellB.vm.isStatics = false ∧ s.vm.findClass RX4 = some cellB.cls := va_recv (ci := 4) (q0 := 0) X.2.2.2.2.2.2.2.1 hP rfl wM_0
end LWR

def sp_act (F : Nat) (Rel : St → St → Prop) : Prop := ∀ (S T : St) (p1 p2 p3 p4 : Int32), Rel S T → ∃ (r : Int32) (S9 T9 : St), m_X3_act S p1 p2 p3 p4 = some (r, S9) ∧ m_X4_act T p1 p2 p3 p4 = some (r, T9) ∧ Rel S9 T9
def sp_set (F : Nat) (Rel : St → St → Prop) : Prop := ∀ (S T : St) (p1 p2 p3 : Int32), Rel S T → ∃ (r : Int32) (S9 T9 : St), m_X3_set S p1 p2 p3 = some (r, S9) ∧ m_X4_set T p1 p2 p3 = some (r, T9) ∧ Rel S9 T9
def sp_law (F : Nat) (Rel : St → St → Prop) : Prop := ∀ (S T : St) (p1 p2 : Int32), Rel S T → ∃ (r : Int32) (S9 T9 : St), m_X3_law S p1 p2 = some (r, S9) ∧ m_X4_law T p1 p2 = some (r, T9) ∧ Rel S9 T9
def sp_say (F : Nat) (Rel : St → St → Prop) : Prop := ∀ (S T : St) (p1 : Int32), Rel S T → ∃ (r : Int32) (S9 T9 : St), m_X3_say S p1 = some (r, S9) ∧ m_X4_say T p1 = some (r, T9) ∧ Rel S9 T9
def sp_wipe (F : Nat) (Rel : St → St → Prop) : Prop := ∀ (S T : St), Rel S T → ∃ (r : Int32) (S9 T9 : St), m_X3_wipe S = some (r, S9) ∧ m_X4_wipe T = some (r, T9) ∧ Rel S9 T9
def sp_fault (F : Nat) (Rel : St → St → Prop) : Prop := ∀ (S T : St), Rel S T → ∃ (r : Int32), m_X3_fault F S = some r ∧ m_X4_fault F T = some r
def sp_leans (F : Nat) (Rel : St → St → Prop) : Prop := ∀ (S T : St) (p1 : Int32), Rel S T → ∃ (r : Int32) (S9 T9 : St), m_X3_leans F S p1 = some (r, S9) ∧ m_X4_leans F T p1 = some (r, T9) ∧ Rel S9 T9
def sp_free (F : Nat) (Rel : St → St → Prop) : Prop := ∀ (S T : St) (p1 : Int32), Rel S T → ∃ (r : Int32) (S9 T9 : St), m_X3_free S p1 = some (r, S9) ∧ m_X4_free T p1 = some (r, T9) ∧ Rel S9 T9
def sp_ask (F : Nat) (Rel : St → St → Prop) : Prop := ∀ (S T : St) (p1 p2 p3 : Int32), Rel S T → ∃ (r : Int32) (S9 T9 : St), m_X3_ask S p1 p2 p3 = some (r, S9) ∧ m_X4_ask T p1 p2 p3 = some (r, T9) ∧ Rel S9 T9
def sp_counts (F : Nat) (Rel : St → St → Prop) : Prop := ∀ (S T : St) (p1 : Int32), Rel S T → ∃ (r : Int32), m_X3_counts S p1 = some r ∧ m_X4_counts T p1 = some r
def sp_drop (F : Nat) (Rel : St → St → Prop) : Prop := ∀ (S T : St), Rel S T → ∃ (r : Int32) (S9 T9 : St), m_X3_drop S = some (r, S9) ∧ m_X4_drop T = some (r, T9) ∧ Rel S9 T9
def sp_all (F : Nat) (Rel : St → St → Prop) : Prop := ∀ (S T : St) (p1 p2 : Int32), Rel S T → ∃ (r : Int32), m_X3_all F S p1 p2 = some r ∧ m_X4_all F T p1 p2 = some r
def sp_why (F : Nat) (Rel : St → St → Prop) : Prop := ∀ (S T : St) (p1 p2 : Int32), Rel S T → ∃ (r : Int32), m_X3_why F S p1 p2 = some r ∧ m_X4_why F T p1 p2 = some r
def sp_under (F : Nat) (Rel : St → St → Prop) : Prop := ∀ (S T : St) (p1 : Int32), Rel S T → ∃ (r : Int32), m_X3_under F S p1 = some r ∧ m_X4_under F T p1 = some r
def sp_fall (F : Nat) (Rel : St → St → Prop) : Prop := ∀ (S T : St) (p1 p2 p3 p4 : Int32), Rel S T → ∃ (r : Int32), m_X3_fall F S p1 p2 p3 p4 = some r ∧ m_X4_fall F T p1 p2 p3 p4 = some r
def sp_back (F : Nat) (Rel : St → St → Prop) : Prop := ∀ (S T : St) (p1 p2 p3 p4 : Int32), Rel S T → ∃ (r : Int32), m_X3_back F S p1 p2 p3 p4 = some r ∧ m_X4_back F T p1 p2 p3 p4 = some r
def sp_wise (F : Nat) (Rel : St → St → Prop) : Prop := ∀ (S T : St) (p1 p2 : Int32), Rel S T → ∃ (r : Int32), m_X3_wise F S p1 p2 = some r ∧ m_X4_wise F T p1 p2 = some r
def sp_rest (F : Nat) (Rel : St → St → Prop) : Prop := ∀ (S T : St) (p1 p2 : Int32), Rel S T → ∃ (r : Int32) (T9 : St), m_X3_rest F S p1 p2 = some r ∧ m_X4_rest F T p1 p2 = some (r, T9) ∧ Rel S T9
def sp_heal (F : Nat) (Rel : St → St → Prop) : Prop := ∀ (S T : St) (p1 p2 p3 : Int32), Rel S T → ∃ (r : Int32) (T9 : St), m_X3_heal F S p1 p2 p3 = some r ∧ m_X4_heal F T p1 p2 p3 = some (r, T9) ∧ Rel S T9
def sp_pillar (F : Nat) (Rel : St → St → Prop) : Prop := ∀ (S T : St) (p1 p2 : Int32), Rel S T → ∃ (r : Int32), m_X3_pillar F S p1 p2 = some r ∧ m_X4_pillar F T p1 p2 = some r
def sp_hangs (F : Nat) (Rel : St → St → Prop) : Prop := ∀ (S T : St) (p1 p2 p3 : Int32), Rel S T → ∃ (r : Int32) (T9 : St), m_X3_hangs F S p1 p2 p3 = some r ∧ m_X4_hangs F T p1 p2 p3 = some (r, T9) ∧ Rel S T9
def sp_safe (F : Nat) (Rel : St → St → Prop) : Prop := ∀ (S T : St) (p1 : Int32), Rel S T → ∃ (r : Int32), m_X3_safe F S p1 = some r ∧ m_X4_safe F T p1 = some r
def sp_beside (F : Nat) (Rel : St → St → Prop) : Prop := ∀ (S T : St) (p1 : Int32), Rel S T → ∃ (r : Int32) (T9 : St), m_X3_beside F S p1 = some r ∧ m_X4_beside F T p1 = some (r, T9) ∧ Rel S T9
def sp_told (F : Nat) (Rel : St → St → Prop) : Prop := ∀ (S T : St) (p1 : Int32), Rel S T → ∃ (r : Int32), m_X3_told S p1 = some r ∧ m_X4_told T p1 = some r
def Sp (F : Nat) (Rel : St → St → Prop) : Prop := sp_act F Rel ∧ sp_set F Rel ∧ sp_law F Rel ∧ sp_say F Rel ∧ sp_wipe F Rel ∧ sp_fault F Rel ∧ sp_leans F Rel ∧ sp_free F Rel ∧ sp_ask F Rel ∧ sp_counts F Rel ∧ sp_drop F Rel ∧ sp_all F Rel ∧ sp_why F Rel ∧ sp_under F Rel ∧ sp_fall F Rel ∧ sp_back F Rel ∧ sp_wise F Rel ∧ sp_rest F Rel ∧ sp_heal F Rel ∧ sp_pillar F Rel ∧ sp_hangs F Rel ∧ sp_safe F Rel ∧ sp_beside F Rel ∧ sp_told F Rel
set_option maxHeartbeats 4000000 in
set_option maxRecDepth 100000 in
theorem law_0 {p : Program} {l : Launch} {e : Env} {s : State} {m : MethodId} {below : List Frame} {meth : Method} {c : Code} {D : va_G} {cI cG : ClassId} {b L : Nat} {xs : Nat → Int32} {q q2 : Nat → Nat} {a1 a2 : Nat} {Rel : St → St → Prop} {F : Nat} (hsp : sp_act F Rel) (X : Cx p s m #[Value.ref b] meth c cL_law 4 (some .boolean) RL D cI cG) (Fx : lawF s q q2 a1 a2) (hX : va_X b L xs s s.heap) (hbl : b < s.heap.size) {x3 : Int32} (hi1 : inb (x3 + 1) L = true) (hi2 : inb (x3 + 2) L = true) (hi3 : inb (x3 + 3) L = true) (hi4 : inb (x3 + 4) L = true) {S T : St} {H : Heap} {locs : List Loc} {ls : Array Slot} (hR : Rel S T) (hP1 : va_P D vwCl (wX cI cG q S) H) (hP2 : va_P D vwCl (wM cI cG q2 T) H) (hS : va_S (lawA s) s.heap H locs) (hl : lv_has ls 4 [(0, .ref b), (1, .ref (q 0)), (2, .ref (q2 0)), (3, .int x3)])
    (k : ∀ (S T : St) (H : Heap) (locs : List Loc), Rel S T → va_P D vwCl (wX cI cG q S) H → va_P D vwCl (wM cI cG q2 T) H → va_S (lawA s) s.heap H locs → W p l e room_1 s m #[Value.ref b] below meth c H locs 45 892 (lw_Z below #[Value.ref b] s) (F0 m 896 ls [])) : W p l e room_1 s m #[Value.ref b] below meth c H locs 45 892 (lw_Z below #[Value.ref b] s) (F0 m 144 ls []) := by
  have hx := X.1
  have hb := X.2.1
  have hbA : ¬ lawA s b := Nat.not_le.mpr hbl
  obtain ⟨r, S9, T9, e1, e2, hR9⟩ := hsp S T (xs (ix (x3 + 1))) (xs (ix (x3 + 2))) (xs (ix (x3 + 3))) (xs (ix (x3 + 4))) hR
  refine lv_aload_n hx hb dL_law_144 rfl (lv_at hl 1 rfl) ?_
  refine lv_aload_n hx hb dL_law_145 rfl (lv_at hl 0 rfl) ?_
  refine lv_iload_n hx hb dL_law_146 rfl (lv_at hl 3 rfl) ?_
  refine lv_iconst (v := 1) hx hb dL_law_147 (by decide) ?_
  refine lv_iadd hx hb dL_law_148 ?_
  refine va_sld hx hb hX hbl hbA hS (inb_in hi1) dL_law_149 ?_
  refine lv_aload_n hx hb dL_law_150 rfl (lv_at hl 0 rfl) ?_
  refine lv_iload_n hx hb dL_law_151 rfl (lv_at hl 3 rfl) ?_
  refine lv_iconst (v := 2) hx hb dL_law_152 (by decide) ?_
  refine lv_iadd hx hb dL_law_153 ?_
  refine va_sld hx hb hX hbl hbA hS (inb_in hi2) dL_law_154 ?_
  refine lv_aload_n hx hb dL_law_155 rfl (lv_at hl 0 rfl) ?_
  refine lv_iload_n hx hb dL_law_156 rfl (lv_at hl 3 rfl) ?_
  refine lv_iconst (v := 3) hx hb dL_law_157 (by decide) ?_
  refine lv_iadd hx hb dL_law_158 ?_
  refine va_sld hx hb hX hbl hbA hS (inb_in hi3) dL_law_159 ?_
  refine lv_aload_n hx hb dL_law_160 rfl (lv_at hl 0 rfl) ?_
  refine lv_iload_n hx hb dL_law_161 rfl (lv_at hl 3 rfl) ?_
  refine lv_iconst (v := 4) hx hb dL_law_162 (by decide) ?_
  refine lv_iadd hx hb dL_law_163 ?_
  refine va_sld hx hb hX hbl hbA hS (inb_in hi4) dL_law_164 ?_
  refine rw_VL (w := wX cI cG q) (As := [.int (xs (ix (x3 + 1))), .int (xs (ix (x3 + 2))), .int (xs (ix (x3 + 3))), .int (xs (ix (x3 + 4)))]) (rest := []) X hP1 hP2 Fx.nX Fx.aX hS hl.1 (c_X3_act l D cI cG q _ (xs (ix (x3 + 1))) (xs (ix (x3 + 2))) (xs (ix (x3 + 3))) (xs (ix (x3 + 4))) (dX Fx.1) e1) lk_L_13 (rcL3 X hP1) ⟨by decide, by decide⟩ rfl rfl (Nat.le_of_ble_eq_true rfl) dL_law_165 ⟨Nat.le_of_ble_eq_true rfl, Nat.le_of_ble_eq_true rfl⟩ (fun H locs hP1 hP2 hS => ?_)
  refine lv_aload_n hx hb dL_law_168 rfl (lv_at hl 2 rfl) ?_
  refine lv_aload_n hx hb dL_law_169 rfl (lv_at hl 0 rfl) ?_
  refine lv_iload_n hx hb dL_law_170 rfl (lv_at hl 3 rfl) ?_
  refine lv_iconst (v := 1) hx hb dL_law_171 (by decide) ?_
  refine lv_iadd hx hb dL_law_172 ?_
  refine va_sld hx hb hX hbl hbA hS (inb_in hi1) dL_law_173 ?_
  refine lv_aload_n hx hb dL_law_174 rfl (lv_at hl 0 rfl) ?_
  refine lv_iload_n hx hb dL_law_175 rfl (lv_at hl 3 rfl) ?_
  refine lv_iconst (v := 2) hx hb dL_law_176 (by decide) ?_
  refine lv_iadd hx hb dL_law_177 ?_
  refine va_sld hx hb hX hbl hbA hS (inb_in hi2) dL_law_178 ?_
  refine lv_aload_n hx hb dL_law_179 rfl (lv_at hl 0 rfl) ?_
  refine lv_iload_n hx hb dL_law_180 rfl (lv_at hl 3 rfl) ?_
  refine lv_iconst (v := 3) hx hb dL_law_181 (by decide) ?_
  refine lv_iadd hx hb dL_law_182 ?_
  refine va_sld hx hb hX hbl hbA hS (inb_in hi3) dL_law_183 ?_
  refine lv_aload_n hx hb dL_law_184 rfl (lv_at hl 0 rfl) ?_
  refine lv_iload_n hx hb dL_law_185 rfl (lv_at hl 3 rfl) ?_
  refine lv_iconst (v := 4) hx hb dL_law_186 (by decide) ?_
  refine lv_iadd hx hb dL_law_187 ?_
  refine va_sld hx hb hX hbl hbA hS (inb_in hi4) dL_law_188 ?_
  refine rw_VL (w := wM cI cG q2) (As := [.int (xs (ix (x3 + 1))), .int (xs (ix (x3 + 2))), .int (xs (ix (x3 + 3))), .int (xs (ix (x3 + 4)))]) (rest := [.int r]) X hP2 hP1 Fx.nM Fx.aM hS hl.1 (c_X4_act l D cI cG q2 _ (xs (ix (x3 + 1))) (xs (ix (x3 + 2))) (xs (ix (x3 + 3))) (xs (ix (x3 + 4))) (dM Fx.2.1) e2) lk_L_17 (rcL4 X hP2) ⟨by decide, by decide⟩ rfl rfl (Nat.le_of_ble_eq_true rfl) dL_law_189 ⟨Nat.le_of_ble_eq_true rfl, Nat.le_of_ble_eq_true rfl⟩ (fun H locs hP2 hP1 hS => ?_)
  refine lv_icmp_eq (tgt := 896) hx hb dL_law_192 (by decide) (fun _ => ?_) (fun c9 => absurd rfl c9)
  exact k S9 T9 H locs hR9 hP1 hP2 hS
set_option maxHeartbeats 4000000 in
set_option maxRecDepth 100000 in
theorem law_1 {p : Program} {l : Launch} {e : Env} {s : State} {m : MethodId} {below : List Frame} {meth : Method} {c : Code} {D : va_G} {cI cG : ClassId} {b L : Nat} {xs : Nat → Int32} {q q2 : Nat → Nat} {a1 a2 : Nat} {Rel : St → St → Prop} {F : Nat} (hsp : sp_set F Rel) (X : Cx p s m #[Value.ref b] meth c cL_law 4 (some .boolean) RL D cI cG) (Fx : lawF s q q2 a1 a2) (hX : va_X b L xs s s.heap) (hbl : b < s.heap.size) {x3 : Int32} (hi1 : inb (x3 + 1) L = true) (hi2 : inb (x3 + 2) L = true) (hi3 : inb (x3 + 3) L = true) (hi4 : inb (x3 + 4) L = true) {S T : St} {H : Heap} {locs : List Loc} {ls : Array Slot} (hR : Rel S T) (hP1 : va_P D vwCl (wX cI cG q S) H) (hP2 : va_P D vwCl (wM cI cG q2 T) H) (hS : va_S (lawA s) s.heap H locs) (hl : lv_has ls 4 [(0, .ref b), (1, .ref (q 0)), (2, .ref (q2 0)), (3, .int x3)])
    (k : ∀ (S T : St) (H : Heap) (locs : List Loc), Rel S T → va_P D vwCl (wX cI cG q S) H → va_P D vwCl (wM cI cG q2 T) H → va_S (lawA s) s.heap H locs → W p l e room_1 s m #[Value.ref b] below meth c H locs 45 892 (lw_Z below #[Value.ref b] s) (F0 m 896 ls [])) : W p l e room_1 s m #[Value.ref b] below meth c H locs 45 892 (lw_Z below #[Value.ref b] s) (F0 m 197 ls []) := by
  have hx := X.1
  have hb := X.2.1
  have hbA : ¬ lawA s b := Nat.not_le.mpr hbl
  obtain ⟨r, S9, T9, e1, e2, hR9⟩ := hsp S T (xs (ix (x3 + 1))) (xs (ix (x3 + 2))) (xs (ix (x3 + 3))) hR
  refine lv_aload_n hx hb dL_law_197 rfl (lv_at hl 1 rfl) ?_
  refine lv_aload_n hx hb dL_law_198 rfl (lv_at hl 0 rfl) ?_
  refine lv_iload_n hx hb dL_law_199 rfl (lv_at hl 3 rfl) ?_
  refine lv_iconst (v := 1) hx hb dL_law_200 (by decide) ?_
  refine lv_iadd hx hb dL_law_201 ?_
  refine va_sld hx hb hX hbl hbA hS (inb_in hi1) dL_law_202 ?_
  refine lv_aload_n hx hb dL_law_203 rfl (lv_at hl 0 rfl) ?_
  refine lv_iload_n hx hb dL_law_204 rfl (lv_at hl 3 rfl) ?_
  refine lv_iconst (v := 2) hx hb dL_law_205 (by decide) ?_
  refine lv_iadd hx hb dL_law_206 ?_
  refine va_sld hx hb hX hbl hbA hS (inb_in hi2) dL_law_207 ?_
  refine lv_aload_n hx hb dL_law_208 rfl (lv_at hl 0 rfl) ?_
  refine lv_iload_n hx hb dL_law_209 rfl (lv_at hl 3 rfl) ?_
  refine lv_iconst (v := 3) hx hb dL_law_210 (by decide) ?_
  refine lv_iadd hx hb dL_law_211 ?_
  refine va_sld hx hb hX hbl hbA hS (inb_in hi3) dL_law_212 ?_
  refine rw_VLs (w := wX cI cG q) (As := [.int (xs (ix (x3 + 1))), .int (xs (ix (x3 + 2))), .int (xs (ix (x3 + 3)))]) (rest := []) X Fx.2.2.2.2.2 hP1 hP2 Fx.nX Fx.aX hS hl.1 (c_X3_set l D cI cG q _ (xs (ix (x3 + 1))) (xs (ix (x3 + 2))) (xs (ix (x3 + 3))) a1 a2 (dX Fx.1) e1) lk_L_18 (rcL3 X hP1) ⟨by decide, by decide⟩ rfl rfl (Nat.le_of_ble_eq_true rfl) dL_law_213 ⟨Nat.le_of_ble_eq_true rfl, Nat.le_of_ble_eq_true rfl⟩ (fun H locs hP1 hP2 hS => ?_)
  refine lv_aload_n hx hb dL_law_216 rfl (lv_at hl 2 rfl) ?_
  refine lv_aload_n hx hb dL_law_217 rfl (lv_at hl 0 rfl) ?_
  refine lv_iload_n hx hb dL_law_218 rfl (lv_at hl 3 rfl) ?_
  refine lv_iconst (v := 1) hx hb dL_law_219 (by decide) ?_
  refine lv_iadd hx hb dL_law_220 ?_
  refine va_sld hx hb hX hbl hbA hS (inb_in hi1) dL_law_221 ?_
  refine lv_aload_n hx hb dL_law_222 rfl (lv_at hl 0 rfl) ?_
  refine lv_iload_n hx hb dL_law_223 rfl (lv_at hl 3 rfl) ?_
  refine lv_iconst (v := 2) hx hb dL_law_224 (by decide) ?_
  refine lv_iadd hx hb dL_law_225 ?_
  refine va_sld hx hb hX hbl hbA hS (inb_in hi2) dL_law_226 ?_
  refine lv_aload_n hx hb dL_law_227 rfl (lv_at hl 0 rfl) ?_
  refine lv_iload_n hx hb dL_law_228 rfl (lv_at hl 3 rfl) ?_
  refine lv_iconst (v := 3) hx hb dL_law_229 (by decide) ?_
  refine lv_iadd hx hb dL_law_230 ?_
  refine va_sld hx hb hX hbl hbA hS (inb_in hi3) dL_law_231 ?_
  refine rw_VL (w := wM cI cG q2) (As := [.int (xs (ix (x3 + 1))), .int (xs (ix (x3 + 2))), .int (xs (ix (x3 + 3)))]) (rest := [.int r]) X hP2 hP1 Fx.nM Fx.aM hS hl.1 (c_X4_set l D cI cG q2 _ (xs (ix (x3 + 1))) (xs (ix (x3 + 2))) (xs (ix (x3 + 3))) (dM Fx.2.1) e2) lk_L_22 (rcL4 X hP2) ⟨by decide, by decide⟩ rfl rfl (Nat.le_of_ble_eq_true rfl) dL_law_232 ⟨Nat.le_of_ble_eq_true rfl, Nat.le_of_ble_eq_true rfl⟩ (fun H locs hP2 hP1 hS => ?_)
  refine lv_icmp_eq (tgt := 896) hx hb dL_law_235 (by decide) (fun _ => ?_) (fun c9 => absurd rfl c9)
  exact k S9 T9 H locs hR9 hP1 hP2 hS
set_option maxHeartbeats 4000000 in
set_option maxRecDepth 100000 in
theorem law_2 {p : Program} {l : Launch} {e : Env} {s : State} {m : MethodId} {below : List Frame} {meth : Method} {c : Code} {D : va_G} {cI cG : ClassId} {b L : Nat} {xs : Nat → Int32} {q q2 : Nat → Nat} {a1 a2 : Nat} {Rel : St → St → Prop} {F : Nat} (hsp : sp_law F Rel) (X : Cx p s m #[Value.ref b] meth c cL_law 4 (some .boolean) RL D cI cG) (Fx : lawF s q q2 a1 a2) (hX : va_X b L xs s s.heap) (hbl : b < s.heap.size) {x3 : Int32} (hi1 : inb (x3 + 1) L = true) (hi2 : inb (x3 + 2) L = true) (hi3 : inb (x3 + 3) L = true) (hi4 : inb (x3 + 4) L = true) {S T : St} {H : Heap} {locs : List Loc} {ls : Array Slot} (hR : Rel S T) (hP1 : va_P D vwCl (wX cI cG q S) H) (hP2 : va_P D vwCl (wM cI cG q2 T) H) (hS : va_S (lawA s) s.heap H locs) (hl : lv_has ls 4 [(0, .ref b), (1, .ref (q 0)), (2, .ref (q2 0)), (3, .int x3)])
    (k : ∀ (S T : St) (H : Heap) (locs : List Loc), Rel S T → va_P D vwCl (wX cI cG q S) H → va_P D vwCl (wM cI cG q2 T) H → va_S (lawA s) s.heap H locs → W p l e room_1 s m #[Value.ref b] below meth c H locs 45 892 (lw_Z below #[Value.ref b] s) (F0 m 896 ls [])) : W p l e room_1 s m #[Value.ref b] below meth c H locs 45 892 (lw_Z below #[Value.ref b] s) (F0 m 240 ls []) := by
  have hx := X.1
  have hb := X.2.1
  have hbA : ¬ lawA s b := Nat.not_le.mpr hbl
  obtain ⟨r, S9, T9, e1, e2, hR9⟩ := hsp S T (xs (ix (x3 + 1))) (xs (ix (x3 + 2))) hR
  refine lv_aload_n hx hb dL_law_240 rfl (lv_at hl 1 rfl) ?_
  refine lv_aload_n hx hb dL_law_241 rfl (lv_at hl 0 rfl) ?_
  refine lv_iload_n hx hb dL_law_242 rfl (lv_at hl 3 rfl) ?_
  refine lv_iconst (v := 1) hx hb dL_law_243 (by decide) ?_
  refine lv_iadd hx hb dL_law_244 ?_
  refine va_sld hx hb hX hbl hbA hS (inb_in hi1) dL_law_245 ?_
  refine lv_aload_n hx hb dL_law_246 rfl (lv_at hl 0 rfl) ?_
  refine lv_iload_n hx hb dL_law_247 rfl (lv_at hl 3 rfl) ?_
  refine lv_iconst (v := 2) hx hb dL_law_248 (by decide) ?_
  refine lv_iadd hx hb dL_law_249 ?_
  refine va_sld hx hb hX hbl hbA hS (inb_in hi2) dL_law_250 ?_
  refine rw_VL (w := wX cI cG q) (As := [.int (xs (ix (x3 + 1))), .int (xs (ix (x3 + 2)))]) (rest := []) X hP1 hP2 Fx.nX Fx.aX hS hl.1 (c_X3_law l D cI cG q _ (xs (ix (x3 + 1))) (xs (ix (x3 + 2))) (dX Fx.1) e1) lk_L_23 (rcL3 X hP1) ⟨by decide, by decide⟩ rfl rfl (Nat.le_of_ble_eq_true rfl) dL_law_251 ⟨Nat.le_of_ble_eq_true rfl, Nat.le_of_ble_eq_true rfl⟩ (fun H locs hP1 hP2 hS => ?_)
  refine lv_aload_n hx hb dL_law_254 rfl (lv_at hl 2 rfl) ?_
  refine lv_aload_n hx hb dL_law_255 rfl (lv_at hl 0 rfl) ?_
  refine lv_iload_n hx hb dL_law_256 rfl (lv_at hl 3 rfl) ?_
  refine lv_iconst (v := 1) hx hb dL_law_257 (by decide) ?_
  refine lv_iadd hx hb dL_law_258 ?_
  refine va_sld hx hb hX hbl hbA hS (inb_in hi1) dL_law_259 ?_
  refine lv_aload_n hx hb dL_law_260 rfl (lv_at hl 0 rfl) ?_
  refine lv_iload_n hx hb dL_law_261 rfl (lv_at hl 3 rfl) ?_
  refine lv_iconst (v := 2) hx hb dL_law_262 (by decide) ?_
  refine lv_iadd hx hb dL_law_263 ?_
  refine va_sld hx hb hX hbl hbA hS (inb_in hi2) dL_law_264 ?_
  refine rw_VL (w := wM cI cG q2) (As := [.int (xs (ix (x3 + 1))), .int (xs (ix (x3 + 2)))]) (rest := [.int r]) X hP2 hP1 Fx.nM Fx.aM hS hl.1 (c_X4_law l D cI cG q2 _ (xs (ix (x3 + 1))) (xs (ix (x3 + 2))) (dM Fx.2.1) e2) lk_L_27 (rcL4 X hP2) ⟨by decide, by decide⟩ rfl rfl (Nat.le_of_ble_eq_true rfl) dL_law_265 ⟨Nat.le_of_ble_eq_true rfl, Nat.le_of_ble_eq_true rfl⟩ (fun H locs hP2 hP1 hS => ?_)
  refine lv_icmp_eq (tgt := 896) hx hb dL_law_268 (by decide) (fun _ => ?_) (fun c9 => absurd rfl c9)
  exact k S9 T9 H locs hR9 hP1 hP2 hS
set_option maxHeartbeats 4000000 in
set_option maxRecDepth 100000 in
theorem law_3 {p : Program} {l : Launch} {e : Env} {s : State} {m : MethodId} {below : List Frame} {meth : Method} {c : Code} {D : va_G} {cI cG : ClassId} {b L : Nat} {xs : Nat → Int32} {q q2 : Nat → Nat} {a1 a2 : Nat} {Rel : St → St → Prop} {F : Nat} (hsp : sp_say F Rel) (X : Cx p s m #[Value.ref b] meth c cL_law 4 (some .boolean) RL D cI cG) (Fx : lawF s q q2 a1 a2) (hX : va_X b L xs s s.heap) (hbl : b < s.heap.size) {x3 : Int32} (hi1 : inb (x3 + 1) L = true) (hi2 : inb (x3 + 2) L = true) (hi3 : inb (x3 + 3) L = true) (hi4 : inb (x3 + 4) L = true) {S T : St} {H : Heap} {locs : List Loc} {ls : Array Slot} (hR : Rel S T) (hP1 : va_P D vwCl (wX cI cG q S) H) (hP2 : va_P D vwCl (wM cI cG q2 T) H) (hS : va_S (lawA s) s.heap H locs) (hl : lv_has ls 4 [(0, .ref b), (1, .ref (q 0)), (2, .ref (q2 0)), (3, .int x3)])
    (k : ∀ (S T : St) (H : Heap) (locs : List Loc), Rel S T → va_P D vwCl (wX cI cG q S) H → va_P D vwCl (wM cI cG q2 T) H → va_S (lawA s) s.heap H locs → W p l e room_1 s m #[Value.ref b] below meth c H locs 45 892 (lw_Z below #[Value.ref b] s) (F0 m 896 ls [])) : W p l e room_1 s m #[Value.ref b] below meth c H locs 45 892 (lw_Z below #[Value.ref b] s) (F0 m 273 ls []) := by
  have hx := X.1
  have hb := X.2.1
  have hbA : ¬ lawA s b := Nat.not_le.mpr hbl
  obtain ⟨r, S9, T9, e1, e2, hR9⟩ := hsp S T (xs (ix (x3 + 1))) hR
  refine lv_aload_n hx hb dL_law_273 rfl (lv_at hl 1 rfl) ?_
  refine lv_aload_n hx hb dL_law_274 rfl (lv_at hl 0 rfl) ?_
  refine lv_iload_n hx hb dL_law_275 rfl (lv_at hl 3 rfl) ?_
  refine lv_iconst (v := 1) hx hb dL_law_276 (by decide) ?_
  refine lv_iadd hx hb dL_law_277 ?_
  refine va_sld hx hb hX hbl hbA hS (inb_in hi1) dL_law_278 ?_
  refine rw_VL (w := wX cI cG q) (As := [.int (xs (ix (x3 + 1)))]) (rest := []) X hP1 hP2 Fx.nX Fx.aX hS hl.1 (c_X3_say l D cI cG q _ (xs (ix (x3 + 1))) (dX Fx.1) e1) lk_L_28 (rcL3 X hP1) ⟨by decide, by decide⟩ rfl rfl (Nat.le_of_ble_eq_true rfl) dL_law_279 ⟨Nat.le_of_ble_eq_true rfl, Nat.le_of_ble_eq_true rfl⟩ (fun H locs hP1 hP2 hS => ?_)
  refine lv_aload_n hx hb dL_law_282 rfl (lv_at hl 2 rfl) ?_
  refine lv_aload_n hx hb dL_law_283 rfl (lv_at hl 0 rfl) ?_
  refine lv_iload_n hx hb dL_law_284 rfl (lv_at hl 3 rfl) ?_
  refine lv_iconst (v := 1) hx hb dL_law_285 (by decide) ?_
  refine lv_iadd hx hb dL_law_286 ?_
  refine va_sld hx hb hX hbl hbA hS (inb_in hi1) dL_law_287 ?_
  refine rw_VL (w := wM cI cG q2) (As := [.int (xs (ix (x3 + 1)))]) (rest := [.int r]) X hP2 hP1 Fx.nM Fx.aM hS hl.1 (c_X4_say l D cI cG q2 _ (xs (ix (x3 + 1))) (dM Fx.2.1) e2) lk_L_32 (rcL4 X hP2) ⟨by decide, by decide⟩ rfl rfl (Nat.le_of_ble_eq_true rfl) dL_law_288 ⟨Nat.le_of_ble_eq_true rfl, Nat.le_of_ble_eq_true rfl⟩ (fun H locs hP2 hP1 hS => ?_)
  refine lv_icmp_eq (tgt := 896) hx hb dL_law_291 (by decide) (fun _ => ?_) (fun c9 => absurd rfl c9)
  exact k S9 T9 H locs hR9 hP1 hP2 hS
set_option maxHeartbeats 4000000 in
set_option maxRecDepth 100000 in
theorem law_4 {p : Program} {l : Launch} {e : Env} {s : State} {m : MethodId} {below : List Frame} {meth : Method} {c : Code} {D : va_G} {cI cG : ClassId} {b L : Nat} {xs : Nat → Int32} {q q2 : Nat → Nat} {a1 a2 : Nat} {Rel : St → St → Prop} {F : Nat} (hsp : sp_wipe F Rel) (X : Cx p s m #[Value.ref b] meth c cL_law 4 (some .boolean) RL D cI cG) (Fx : lawF s q q2 a1 a2) (hX : va_X b L xs s s.heap) (hbl : b < s.heap.size) {x3 : Int32} (hi1 : inb (x3 + 1) L = true) (hi2 : inb (x3 + 2) L = true) (hi3 : inb (x3 + 3) L = true) (hi4 : inb (x3 + 4) L = true) {S T : St} {H : Heap} {locs : List Loc} {ls : Array Slot} (hR : Rel S T) (hP1 : va_P D vwCl (wX cI cG q S) H) (hP2 : va_P D vwCl (wM cI cG q2 T) H) (hS : va_S (lawA s) s.heap H locs) (hl : lv_has ls 4 [(0, .ref b), (1, .ref (q 0)), (2, .ref (q2 0)), (3, .int x3)])
    (k : ∀ (S T : St) (H : Heap) (locs : List Loc), Rel S T → va_P D vwCl (wX cI cG q S) H → va_P D vwCl (wM cI cG q2 T) H → va_S (lawA s) s.heap H locs → W p l e room_1 s m #[Value.ref b] below meth c H locs 45 892 (lw_Z below #[Value.ref b] s) (F0 m 896 ls [])) : W p l e room_1 s m #[Value.ref b] below meth c H locs 45 892 (lw_Z below #[Value.ref b] s) (F0 m 296 ls []) := by
  have hx := X.1
  have hb := X.2.1
  have hbA : ¬ lawA s b := Nat.not_le.mpr hbl
  obtain ⟨r, S9, T9, e1, e2, hR9⟩ := hsp S T  hR
  refine lv_aload_n hx hb dL_law_296 rfl (lv_at hl 1 rfl) ?_
  refine rw_VL (w := wX cI cG q) (As := []) (rest := []) X hP1 hP2 Fx.nX Fx.aX hS hl.1 (c_X3_wipe l D cI cG q _  (dX Fx.1) e1) lk_L_33 (rcL3 X hP1) ⟨by decide, by decide⟩ rfl rfl (Nat.le_of_ble_eq_true rfl) dL_law_297 ⟨Nat.le_of_ble_eq_true rfl, Nat.le_of_ble_eq_true rfl⟩ (fun H locs hP1 hP2 hS => ?_)
  refine lv_aload_n hx hb dL_law_300 rfl (lv_at hl 2 rfl) ?_
  refine rw_VL (w := wM cI cG q2) (As := []) (rest := [.int r]) X hP2 hP1 Fx.nM Fx.aM hS hl.1 (c_X4_wipe l D cI cG q2 _  (dM Fx.2.1) e2) lk_L_37 (rcL4 X hP2) ⟨by decide, by decide⟩ rfl rfl (Nat.le_of_ble_eq_true rfl) dL_law_301 ⟨Nat.le_of_ble_eq_true rfl, Nat.le_of_ble_eq_true rfl⟩ (fun H locs hP2 hP1 hS => ?_)
  refine lv_icmp_eq (tgt := 896) hx hb dL_law_304 (by decide) (fun _ => ?_) (fun c9 => absurd rfl c9)
  exact k S9 T9 H locs hR9 hP1 hP2 hS
set_option maxHeartbeats 4000000 in
set_option maxRecDepth 100000 in
theorem law_5 {p : Program} {l : Launch} {e : Env} {s : State} {m : MethodId} {below : List Frame} {meth : Method} {c : Code} {D : va_G} {cI cG : ClassId} {b L : Nat} {xs : Nat → Int32} {q q2 : Nat → Nat} {a1 a2 : Nat} {Rel : St → St → Prop} {F : Nat} (hsp : sp_fault F Rel) (X : Cx p s m #[Value.ref b] meth c cL_law 4 (some .boolean) RL D cI cG) (Fx : lawF s q q2 a1 a2) (hX : va_X b L xs s s.heap) (hbl : b < s.heap.size) {x3 : Int32} (hi1 : inb (x3 + 1) L = true) (hi2 : inb (x3 + 2) L = true) (hi3 : inb (x3 + 3) L = true) (hi4 : inb (x3 + 4) L = true) {S T : St} {H : Heap} {locs : List Loc} {ls : Array Slot} (hR : Rel S T) (hP1 : va_P D vwCl (wX cI cG q S) H) (hP2 : va_P D vwCl (wM cI cG q2 T) H) (hS : va_S (lawA s) s.heap H locs) (hl : lv_has ls 4 [(0, .ref b), (1, .ref (q 0)), (2, .ref (q2 0)), (3, .int x3)])
    (k : ∀ (S T : St) (H : Heap) (locs : List Loc), Rel S T → va_P D vwCl (wX cI cG q S) H → va_P D vwCl (wM cI cG q2 T) H → va_S (lawA s) s.heap H locs → W p l e room_1 s m #[Value.ref b] below meth c H locs 45 892 (lw_Z below #[Value.ref b] s) (F0 m 896 ls [])) : W p l e room_1 s m #[Value.ref b] below meth c H locs 45 892 (lw_Z below #[Value.ref b] s) (F0 m 309 ls []) := by
  have hx := X.1
  have hb := X.2.1
  have hbA : ¬ lawA s b := Nat.not_le.mpr hbl
  obtain ⟨r, e1, e2⟩ := hsp S T  hR
  refine lv_aload_n hx hb dL_law_309 rfl (lv_at hl 1 rfl) ?_
  refine ro_V (As := []) (rest := []) X hP1 hS hl.1 (c_X3_fault l D cI cG q S _ F e1) lk_L_38 (rcL3 X hP1) ⟨by decide, by decide⟩ rfl rfl (Nat.le_of_ble_eq_true rfl) dL_law_310 ⟨Nat.le_of_ble_eq_true rfl, Nat.le_of_ble_eq_true rfl⟩ (fun locs hS => ?_)
  refine lv_aload_n hx hb dL_law_313 rfl (lv_at hl 2 rfl) ?_
  refine ro_V (As := []) (rest := [.int r]) X hP2 hS hl.1 (c_X4_fault l D cI cG q2 T _ F e2) lk_L_41 (rcL4 X hP2) ⟨by decide, by decide⟩ rfl rfl (Nat.le_of_ble_eq_true rfl) dL_law_314 ⟨Nat.le_of_ble_eq_true rfl, Nat.le_of_ble_eq_true rfl⟩ (fun locs hS => ?_)
  refine lv_icmp_eq (tgt := 896) hx hb dL_law_317 (by decide) (fun _ => ?_) (fun c9 => absurd rfl c9)
  exact k S T H locs hR hP1 hP2 hS
set_option maxHeartbeats 4000000 in
set_option maxRecDepth 100000 in
theorem law_6 {p : Program} {l : Launch} {e : Env} {s : State} {m : MethodId} {below : List Frame} {meth : Method} {c : Code} {D : va_G} {cI cG : ClassId} {b L : Nat} {xs : Nat → Int32} {q q2 : Nat → Nat} {a1 a2 : Nat} {Rel : St → St → Prop} {F : Nat} (hsp : sp_leans F Rel) (X : Cx p s m #[Value.ref b] meth c cL_law 4 (some .boolean) RL D cI cG) (Fx : lawF s q q2 a1 a2) (hX : va_X b L xs s s.heap) (hbl : b < s.heap.size) {x3 : Int32} (hi1 : inb (x3 + 1) L = true) (hi2 : inb (x3 + 2) L = true) (hi3 : inb (x3 + 3) L = true) (hi4 : inb (x3 + 4) L = true) {S T : St} {H : Heap} {locs : List Loc} {ls : Array Slot} (hR : Rel S T) (hP1 : va_P D vwCl (wX cI cG q S) H) (hP2 : va_P D vwCl (wM cI cG q2 T) H) (hS : va_S (lawA s) s.heap H locs) (hl : lv_has ls 4 [(0, .ref b), (1, .ref (q 0)), (2, .ref (q2 0)), (3, .int x3)])
    (k : ∀ (S T : St) (H : Heap) (locs : List Loc), Rel S T → va_P D vwCl (wX cI cG q S) H → va_P D vwCl (wM cI cG q2 T) H → va_S (lawA s) s.heap H locs → W p l e room_1 s m #[Value.ref b] below meth c H locs 45 892 (lw_Z below #[Value.ref b] s) (F0 m 896 ls [])) : W p l e room_1 s m #[Value.ref b] below meth c H locs 45 892 (lw_Z below #[Value.ref b] s) (F0 m 322 ls []) := by
  have hx := X.1
  have hb := X.2.1
  have hbA : ¬ lawA s b := Nat.not_le.mpr hbl
  obtain ⟨r, S9, T9, e1, e2, hR9⟩ := hsp S T (xs (ix (x3 + 1))) hR
  refine lv_aload_n hx hb dL_law_322 rfl (lv_at hl 1 rfl) ?_
  refine lv_aload_n hx hb dL_law_323 rfl (lv_at hl 0 rfl) ?_
  refine lv_iload_n hx hb dL_law_324 rfl (lv_at hl 3 rfl) ?_
  refine lv_iconst (v := 1) hx hb dL_law_325 (by decide) ?_
  refine lv_iadd hx hb dL_law_326 ?_
  refine va_sld hx hb hX hbl hbA hS (inb_in hi1) dL_law_327 ?_
  refine rw_VL (w := wX cI cG q) (As := [.int (xs (ix (x3 + 1)))]) (rest := []) X hP1 hP2 Fx.nX Fx.aX hS hl.1 (c_X3_leans l D cI cG q _ F (xs (ix (x3 + 1))) (dX Fx.1) e1) lk_L_42 (rcL3 X hP1) ⟨by decide, by decide⟩ rfl rfl (Nat.le_of_ble_eq_true rfl) dL_law_328 ⟨Nat.le_of_ble_eq_true rfl, Nat.le_of_ble_eq_true rfl⟩ (fun H locs hP1 hP2 hS => ?_)
  refine lv_aload_n hx hb dL_law_331 rfl (lv_at hl 2 rfl) ?_
  refine lv_aload_n hx hb dL_law_332 rfl (lv_at hl 0 rfl) ?_
  refine lv_iload_n hx hb dL_law_333 rfl (lv_at hl 3 rfl) ?_
  refine lv_iconst (v := 1) hx hb dL_law_334 (by decide) ?_
  refine lv_iadd hx hb dL_law_335 ?_
  refine va_sld hx hb hX hbl hbA hS (inb_in hi1) dL_law_336 ?_
  refine rw_VL (w := wM cI cG q2) (As := [.int (xs (ix (x3 + 1)))]) (rest := [.int r]) X hP2 hP1 Fx.nM Fx.aM hS hl.1 (c_X4_leans l D cI cG q2 _ F (xs (ix (x3 + 1))) (dM Fx.2.1) e2) lk_L_45 (rcL4 X hP2) ⟨by decide, by decide⟩ rfl rfl (Nat.le_of_ble_eq_true rfl) dL_law_337 ⟨Nat.le_of_ble_eq_true rfl, Nat.le_of_ble_eq_true rfl⟩ (fun H locs hP2 hP1 hS => ?_)
  refine lv_icmp_eq (tgt := 896) hx hb dL_law_340 (by decide) (fun _ => ?_) (fun c9 => absurd rfl c9)
  exact k S9 T9 H locs hR9 hP1 hP2 hS
set_option maxHeartbeats 4000000 in
set_option maxRecDepth 100000 in
theorem law_7 {p : Program} {l : Launch} {e : Env} {s : State} {m : MethodId} {below : List Frame} {meth : Method} {c : Code} {D : va_G} {cI cG : ClassId} {b L : Nat} {xs : Nat → Int32} {q q2 : Nat → Nat} {a1 a2 : Nat} {Rel : St → St → Prop} {F : Nat} (hsp : sp_free F Rel) (X : Cx p s m #[Value.ref b] meth c cL_law 4 (some .boolean) RL D cI cG) (Fx : lawF s q q2 a1 a2) (hX : va_X b L xs s s.heap) (hbl : b < s.heap.size) {x3 : Int32} (hi1 : inb (x3 + 1) L = true) (hi2 : inb (x3 + 2) L = true) (hi3 : inb (x3 + 3) L = true) (hi4 : inb (x3 + 4) L = true) {S T : St} {H : Heap} {locs : List Loc} {ls : Array Slot} (hR : Rel S T) (hP1 : va_P D vwCl (wX cI cG q S) H) (hP2 : va_P D vwCl (wM cI cG q2 T) H) (hS : va_S (lawA s) s.heap H locs) (hl : lv_has ls 4 [(0, .ref b), (1, .ref (q 0)), (2, .ref (q2 0)), (3, .int x3)])
    (k : ∀ (S T : St) (H : Heap) (locs : List Loc), Rel S T → va_P D vwCl (wX cI cG q S) H → va_P D vwCl (wM cI cG q2 T) H → va_S (lawA s) s.heap H locs → W p l e room_1 s m #[Value.ref b] below meth c H locs 45 892 (lw_Z below #[Value.ref b] s) (F0 m 896 ls [])) : W p l e room_1 s m #[Value.ref b] below meth c H locs 45 892 (lw_Z below #[Value.ref b] s) (F0 m 345 ls []) := by
  have hx := X.1
  have hb := X.2.1
  have hbA : ¬ lawA s b := Nat.not_le.mpr hbl
  obtain ⟨r, S9, T9, e1, e2, hR9⟩ := hsp S T (xs (ix (x3 + 1))) hR
  refine lv_aload_n hx hb dL_law_345 rfl (lv_at hl 1 rfl) ?_
  refine lv_aload_n hx hb dL_law_346 rfl (lv_at hl 0 rfl) ?_
  refine lv_iload_n hx hb dL_law_347 rfl (lv_at hl 3 rfl) ?_
  refine lv_iconst (v := 1) hx hb dL_law_348 (by decide) ?_
  refine lv_iadd hx hb dL_law_349 ?_
  refine va_sld hx hb hX hbl hbA hS (inb_in hi1) dL_law_350 ?_
  refine rw_VL (w := wX cI cG q) (As := [.int (xs (ix (x3 + 1)))]) (rest := []) X hP1 hP2 Fx.nX Fx.aX hS hl.1 (c_X3_free l D cI cG q _ (xs (ix (x3 + 1))) (dX Fx.1) e1) lk_L_46 (rcL3 X hP1) ⟨by decide, by decide⟩ rfl rfl (Nat.le_of_ble_eq_true rfl) dL_law_351 ⟨Nat.le_of_ble_eq_true rfl, Nat.le_of_ble_eq_true rfl⟩ (fun H locs hP1 hP2 hS => ?_)
  refine lv_aload_n hx hb dL_law_354 rfl (lv_at hl 2 rfl) ?_
  refine lv_aload_n hx hb dL_law_355 rfl (lv_at hl 0 rfl) ?_
  refine lv_iload_n hx hb dL_law_356 rfl (lv_at hl 3 rfl) ?_
  refine lv_iconst (v := 1) hx hb dL_law_357 (by decide) ?_
  refine lv_iadd hx hb dL_law_358 ?_
  refine va_sld hx hb hX hbl hbA hS (inb_in hi1) dL_law_359 ?_
  refine rw_VL (w := wM cI cG q2) (As := [.int (xs (ix (x3 + 1)))]) (rest := [.int r]) X hP2 hP1 Fx.nM Fx.aM hS hl.1 (c_X4_free l D cI cG q2 _ (xs (ix (x3 + 1))) (dM Fx.2.1) e2) lk_L_49 (rcL4 X hP2) ⟨by decide, by decide⟩ rfl rfl (Nat.le_of_ble_eq_true rfl) dL_law_360 ⟨Nat.le_of_ble_eq_true rfl, Nat.le_of_ble_eq_true rfl⟩ (fun H locs hP2 hP1 hS => ?_)
  refine lv_icmp_eq (tgt := 896) hx hb dL_law_363 (by decide) (fun _ => ?_) (fun c9 => absurd rfl c9)
  exact k S9 T9 H locs hR9 hP1 hP2 hS
set_option maxHeartbeats 4000000 in
set_option maxRecDepth 100000 in
theorem law_8 {p : Program} {l : Launch} {e : Env} {s : State} {m : MethodId} {below : List Frame} {meth : Method} {c : Code} {D : va_G} {cI cG : ClassId} {b L : Nat} {xs : Nat → Int32} {q q2 : Nat → Nat} {a1 a2 : Nat} {Rel : St → St → Prop} {F : Nat} (hsp : sp_ask F Rel) (X : Cx p s m #[Value.ref b] meth c cL_law 4 (some .boolean) RL D cI cG) (Fx : lawF s q q2 a1 a2) (hX : va_X b L xs s s.heap) (hbl : b < s.heap.size) {x3 : Int32} (hi1 : inb (x3 + 1) L = true) (hi2 : inb (x3 + 2) L = true) (hi3 : inb (x3 + 3) L = true) (hi4 : inb (x3 + 4) L = true) {S T : St} {H : Heap} {locs : List Loc} {ls : Array Slot} (hR : Rel S T) (hP1 : va_P D vwCl (wX cI cG q S) H) (hP2 : va_P D vwCl (wM cI cG q2 T) H) (hS : va_S (lawA s) s.heap H locs) (hl : lv_has ls 4 [(0, .ref b), (1, .ref (q 0)), (2, .ref (q2 0)), (3, .int x3)])
    (k : ∀ (S T : St) (H : Heap) (locs : List Loc), Rel S T → va_P D vwCl (wX cI cG q S) H → va_P D vwCl (wM cI cG q2 T) H → va_S (lawA s) s.heap H locs → W p l e room_1 s m #[Value.ref b] below meth c H locs 45 892 (lw_Z below #[Value.ref b] s) (F0 m 896 ls [])) : W p l e room_1 s m #[Value.ref b] below meth c H locs 45 892 (lw_Z below #[Value.ref b] s) (F0 m 368 ls []) := by
  have hx := X.1
  have hb := X.2.1
  have hbA : ¬ lawA s b := Nat.not_le.mpr hbl
  obtain ⟨r, S9, T9, e1, e2, hR9⟩ := hsp S T (xs (ix (x3 + 1))) (xs (ix (x3 + 2))) (xs (ix (x3 + 3))) hR
  refine lv_aload_n hx hb dL_law_368 rfl (lv_at hl 1 rfl) ?_
  refine lv_aload_n hx hb dL_law_369 rfl (lv_at hl 0 rfl) ?_
  refine lv_iload_n hx hb dL_law_370 rfl (lv_at hl 3 rfl) ?_
  refine lv_iconst (v := 1) hx hb dL_law_371 (by decide) ?_
  refine lv_iadd hx hb dL_law_372 ?_
  refine va_sld hx hb hX hbl hbA hS (inb_in hi1) dL_law_373 ?_
  refine lv_aload_n hx hb dL_law_374 rfl (lv_at hl 0 rfl) ?_
  refine lv_iload_n hx hb dL_law_375 rfl (lv_at hl 3 rfl) ?_
  refine lv_iconst (v := 2) hx hb dL_law_376 (by decide) ?_
  refine lv_iadd hx hb dL_law_377 ?_
  refine va_sld hx hb hX hbl hbA hS (inb_in hi2) dL_law_378 ?_
  refine lv_aload_n hx hb dL_law_379 rfl (lv_at hl 0 rfl) ?_
  refine lv_iload_n hx hb dL_law_380 rfl (lv_at hl 3 rfl) ?_
  refine lv_iconst (v := 3) hx hb dL_law_381 (by decide) ?_
  refine lv_iadd hx hb dL_law_382 ?_
  refine va_sld hx hb hX hbl hbA hS (inb_in hi3) dL_law_383 ?_
  refine rw_VL (w := wX cI cG q) (As := [.int (xs (ix (x3 + 1))), .int (xs (ix (x3 + 2))), .int (xs (ix (x3 + 3)))]) (rest := []) X hP1 hP2 Fx.nX Fx.aX hS hl.1 (c_X3_ask l D cI cG q _ (xs (ix (x3 + 1))) (xs (ix (x3 + 2))) (xs (ix (x3 + 3))) (dX Fx.1) e1) lk_L_50 (rcL3 X hP1) ⟨by decide, by decide⟩ rfl rfl (Nat.le_of_ble_eq_true rfl) dL_law_384 ⟨Nat.le_of_ble_eq_true rfl, Nat.le_of_ble_eq_true rfl⟩ (fun H locs hP1 hP2 hS => ?_)
  refine lv_aload_n hx hb dL_law_387 rfl (lv_at hl 2 rfl) ?_
  refine lv_aload_n hx hb dL_law_388 rfl (lv_at hl 0 rfl) ?_
  refine lv_iload_n hx hb dL_law_389 rfl (lv_at hl 3 rfl) ?_
  refine lv_iconst (v := 1) hx hb dL_law_390 (by decide) ?_
  refine lv_iadd hx hb dL_law_391 ?_
  refine va_sld hx hb hX hbl hbA hS (inb_in hi1) dL_law_392 ?_
  refine lv_aload_n hx hb dL_law_393 rfl (lv_at hl 0 rfl) ?_
  refine lv_iload_n hx hb dL_law_394 rfl (lv_at hl 3 rfl) ?_
  refine lv_iconst (v := 2) hx hb dL_law_395 (by decide) ?_
  refine lv_iadd hx hb dL_law_396 ?_
  refine va_sld hx hb hX hbl hbA hS (inb_in hi2) dL_law_397 ?_
  refine lv_aload_n hx hb dL_law_398 rfl (lv_at hl 0 rfl) ?_
  refine lv_iload_n hx hb dL_law_399 rfl (lv_at hl 3 rfl) ?_
  refine lv_iconst (v := 3) hx hb dL_law_400 (by decide) ?_
  refine lv_iadd hx hb dL_law_401 ?_
  refine va_sld hx hb hX hbl hbA hS (inb_in hi3) dL_law_402 ?_
  refine rw_VL (w := wM cI cG q2) (As := [.int (xs (ix (x3 + 1))), .int (xs (ix (x3 + 2))), .int (xs (ix (x3 + 3)))]) (rest := [.int r]) X hP2 hP1 Fx.nM Fx.aM hS hl.1 (c_X4_ask l D cI cG q2 _ (xs (ix (x3 + 1))) (xs (ix (x3 + 2))) (xs (ix (x3 + 3))) (dM Fx.2.1) e2) lk_L_53 (rcL4 X hP2) ⟨by decide, by decide⟩ rfl rfl (Nat.le_of_ble_eq_true rfl) dL_law_403 ⟨Nat.le_of_ble_eq_true rfl, Nat.le_of_ble_eq_true rfl⟩ (fun H locs hP2 hP1 hS => ?_)
  refine lv_icmp_eq (tgt := 896) hx hb dL_law_406 (by decide) (fun _ => ?_) (fun c9 => absurd rfl c9)
  exact k S9 T9 H locs hR9 hP1 hP2 hS
set_option maxHeartbeats 4000000 in
set_option maxRecDepth 100000 in
theorem law_9 {p : Program} {l : Launch} {e : Env} {s : State} {m : MethodId} {below : List Frame} {meth : Method} {c : Code} {D : va_G} {cI cG : ClassId} {b L : Nat} {xs : Nat → Int32} {q q2 : Nat → Nat} {a1 a2 : Nat} {Rel : St → St → Prop} {F : Nat} (hsp : sp_counts F Rel) (X : Cx p s m #[Value.ref b] meth c cL_law 4 (some .boolean) RL D cI cG) (Fx : lawF s q q2 a1 a2) (hX : va_X b L xs s s.heap) (hbl : b < s.heap.size) {x3 : Int32} (hi1 : inb (x3 + 1) L = true) (hi2 : inb (x3 + 2) L = true) (hi3 : inb (x3 + 3) L = true) (hi4 : inb (x3 + 4) L = true) {S T : St} {H : Heap} {locs : List Loc} {ls : Array Slot} (hR : Rel S T) (hP1 : va_P D vwCl (wX cI cG q S) H) (hP2 : va_P D vwCl (wM cI cG q2 T) H) (hS : va_S (lawA s) s.heap H locs) (hl : lv_has ls 4 [(0, .ref b), (1, .ref (q 0)), (2, .ref (q2 0)), (3, .int x3)])
    (k : ∀ (S T : St) (H : Heap) (locs : List Loc), Rel S T → va_P D vwCl (wX cI cG q S) H → va_P D vwCl (wM cI cG q2 T) H → va_S (lawA s) s.heap H locs → W p l e room_1 s m #[Value.ref b] below meth c H locs 45 892 (lw_Z below #[Value.ref b] s) (F0 m 896 ls [])) : W p l e room_1 s m #[Value.ref b] below meth c H locs 45 892 (lw_Z below #[Value.ref b] s) (F0 m 411 ls []) := by
  have hx := X.1
  have hb := X.2.1
  have hbA : ¬ lawA s b := Nat.not_le.mpr hbl
  obtain ⟨r, e1, e2⟩ := hsp S T (xs (ix (x3 + 1))) hR
  refine lv_aload_n hx hb dL_law_411 rfl (lv_at hl 1 rfl) ?_
  refine lv_aload_n hx hb dL_law_412 rfl (lv_at hl 0 rfl) ?_
  refine lv_iload_n hx hb dL_law_413 rfl (lv_at hl 3 rfl) ?_
  refine lv_iconst (v := 1) hx hb dL_law_414 (by decide) ?_
  refine lv_iadd hx hb dL_law_415 ?_
  refine va_sld hx hb hX hbl hbA hS (inb_in hi1) dL_law_416 ?_
  refine ro_V (As := [.int (xs (ix (x3 + 1)))]) (rest := []) X hP1 hS hl.1 (c_X3_counts l D cI cG q S _ (xs (ix (x3 + 1))) e1) lk_L_54 (rcL3 X hP1) ⟨by decide, by decide⟩ rfl rfl (Nat.le_of_ble_eq_true rfl) dL_law_417 ⟨Nat.le_of_ble_eq_true rfl, Nat.le_of_ble_eq_true rfl⟩ (fun locs hS => ?_)
  refine lv_aload_n hx hb dL_law_420 rfl (lv_at hl 2 rfl) ?_
  refine lv_aload_n hx hb dL_law_421 rfl (lv_at hl 0 rfl) ?_
  refine lv_iload_n hx hb dL_law_422 rfl (lv_at hl 3 rfl) ?_
  refine lv_iconst (v := 1) hx hb dL_law_423 (by decide) ?_
  refine lv_iadd hx hb dL_law_424 ?_
  refine va_sld hx hb hX hbl hbA hS (inb_in hi1) dL_law_425 ?_
  refine ro_V (As := [.int (xs (ix (x3 + 1)))]) (rest := [.int r]) X hP2 hS hl.1 (c_X4_counts l D cI cG q2 T _ (xs (ix (x3 + 1))) e2) lk_L_57 (rcL4 X hP2) ⟨by decide, by decide⟩ rfl rfl (Nat.le_of_ble_eq_true rfl) dL_law_426 ⟨Nat.le_of_ble_eq_true rfl, Nat.le_of_ble_eq_true rfl⟩ (fun locs hS => ?_)
  refine lv_icmp_eq (tgt := 896) hx hb dL_law_429 (by decide) (fun _ => ?_) (fun c9 => absurd rfl c9)
  exact k S T H locs hR hP1 hP2 hS
set_option maxHeartbeats 4000000 in
set_option maxRecDepth 100000 in
theorem law_10 {p : Program} {l : Launch} {e : Env} {s : State} {m : MethodId} {below : List Frame} {meth : Method} {c : Code} {D : va_G} {cI cG : ClassId} {b L : Nat} {xs : Nat → Int32} {q q2 : Nat → Nat} {a1 a2 : Nat} {Rel : St → St → Prop} {F : Nat} (hsp : sp_drop F Rel) (X : Cx p s m #[Value.ref b] meth c cL_law 4 (some .boolean) RL D cI cG) (Fx : lawF s q q2 a1 a2) (hX : va_X b L xs s s.heap) (hbl : b < s.heap.size) {x3 : Int32} (hi1 : inb (x3 + 1) L = true) (hi2 : inb (x3 + 2) L = true) (hi3 : inb (x3 + 3) L = true) (hi4 : inb (x3 + 4) L = true) {S T : St} {H : Heap} {locs : List Loc} {ls : Array Slot} (hR : Rel S T) (hP1 : va_P D vwCl (wX cI cG q S) H) (hP2 : va_P D vwCl (wM cI cG q2 T) H) (hS : va_S (lawA s) s.heap H locs) (hl : lv_has ls 4 [(0, .ref b), (1, .ref (q 0)), (2, .ref (q2 0)), (3, .int x3)])
    (k : ∀ (S T : St) (H : Heap) (locs : List Loc), Rel S T → va_P D vwCl (wX cI cG q S) H → va_P D vwCl (wM cI cG q2 T) H → va_S (lawA s) s.heap H locs → W p l e room_1 s m #[Value.ref b] below meth c H locs 45 892 (lw_Z below #[Value.ref b] s) (F0 m 896 ls [])) : W p l e room_1 s m #[Value.ref b] below meth c H locs 45 892 (lw_Z below #[Value.ref b] s) (F0 m 434 ls []) := by
  have hx := X.1
  have hb := X.2.1
  have hbA : ¬ lawA s b := Nat.not_le.mpr hbl
  obtain ⟨r, S9, T9, e1, e2, hR9⟩ := hsp S T  hR
  refine lv_aload_n hx hb dL_law_434 rfl (lv_at hl 1 rfl) ?_
  refine rw_VL (w := wX cI cG q) (As := []) (rest := []) X hP1 hP2 Fx.nX Fx.aX hS hl.1 (c_X3_drop l D cI cG q _  (dX Fx.1) e1) lk_L_58 (rcL3 X hP1) ⟨by decide, by decide⟩ rfl rfl (Nat.le_of_ble_eq_true rfl) dL_law_435 ⟨Nat.le_of_ble_eq_true rfl, Nat.le_of_ble_eq_true rfl⟩ (fun H locs hP1 hP2 hS => ?_)
  refine lv_aload_n hx hb dL_law_438 rfl (lv_at hl 2 rfl) ?_
  refine rw_VL (w := wM cI cG q2) (As := []) (rest := [.int r]) X hP2 hP1 Fx.nM Fx.aM hS hl.1 (c_X4_drop l D cI cG q2 _  (dM Fx.2.1) e2) lk_L_61 (rcL4 X hP2) ⟨by decide, by decide⟩ rfl rfl (Nat.le_of_ble_eq_true rfl) dL_law_439 ⟨Nat.le_of_ble_eq_true rfl, Nat.le_of_ble_eq_true rfl⟩ (fun H locs hP2 hP1 hS => ?_)
  refine lv_icmp_eq (tgt := 896) hx hb dL_law_442 (by decide) (fun _ => ?_) (fun c9 => absurd rfl c9)
  exact k S9 T9 H locs hR9 hP1 hP2 hS
set_option maxHeartbeats 4000000 in
set_option maxRecDepth 100000 in
theorem law_11 {p : Program} {l : Launch} {e : Env} {s : State} {m : MethodId} {below : List Frame} {meth : Method} {c : Code} {D : va_G} {cI cG : ClassId} {b L : Nat} {xs : Nat → Int32} {q q2 : Nat → Nat} {a1 a2 : Nat} {Rel : St → St → Prop} {F : Nat} (hsp : sp_all F Rel) (X : Cx p s m #[Value.ref b] meth c cL_law 4 (some .boolean) RL D cI cG) (Fx : lawF s q q2 a1 a2) (hX : va_X b L xs s s.heap) (hbl : b < s.heap.size) {x3 : Int32} (hi1 : inb (x3 + 1) L = true) (hi2 : inb (x3 + 2) L = true) (hi3 : inb (x3 + 3) L = true) (hi4 : inb (x3 + 4) L = true) {S T : St} {H : Heap} {locs : List Loc} {ls : Array Slot} (hR : Rel S T) (hP1 : va_P D vwCl (wX cI cG q S) H) (hP2 : va_P D vwCl (wM cI cG q2 T) H) (hS : va_S (lawA s) s.heap H locs) (hl : lv_has ls 4 [(0, .ref b), (1, .ref (q 0)), (2, .ref (q2 0)), (3, .int x3)])
    (k : ∀ (S T : St) (H : Heap) (locs : List Loc), Rel S T → va_P D vwCl (wX cI cG q S) H → va_P D vwCl (wM cI cG q2 T) H → va_S (lawA s) s.heap H locs → W p l e room_1 s m #[Value.ref b] below meth c H locs 45 892 (lw_Z below #[Value.ref b] s) (F0 m 896 ls [])) : W p l e room_1 s m #[Value.ref b] below meth c H locs 45 892 (lw_Z below #[Value.ref b] s) (F0 m 447 ls []) := by
  have hx := X.1
  have hb := X.2.1
  have hbA : ¬ lawA s b := Nat.not_le.mpr hbl
  obtain ⟨r, e1, e2⟩ := hsp S T (xs (ix (x3 + 1))) (xs (ix (x3 + 2))) hR
  refine lv_aload_n hx hb dL_law_447 rfl (lv_at hl 1 rfl) ?_
  refine lv_aload_n hx hb dL_law_448 rfl (lv_at hl 0 rfl) ?_
  refine lv_iload_n hx hb dL_law_449 rfl (lv_at hl 3 rfl) ?_
  refine lv_iconst (v := 1) hx hb dL_law_450 (by decide) ?_
  refine lv_iadd hx hb dL_law_451 ?_
  refine va_sld hx hb hX hbl hbA hS (inb_in hi1) dL_law_452 ?_
  refine lv_aload_n hx hb dL_law_453 rfl (lv_at hl 0 rfl) ?_
  refine lv_iload_n hx hb dL_law_454 rfl (lv_at hl 3 rfl) ?_
  refine lv_iconst (v := 2) hx hb dL_law_455 (by decide) ?_
  refine lv_iadd hx hb dL_law_456 ?_
  refine va_sld hx hb hX hbl hbA hS (inb_in hi2) dL_law_457 ?_
  refine ro_V (As := [.int (xs (ix (x3 + 1))), .int (xs (ix (x3 + 2)))]) (rest := []) X hP1 hS hl.1 (c_X3_all l D cI cG q S _ F (xs (ix (x3 + 1))) (xs (ix (x3 + 2))) e1) lk_L_62 (rcL3 X hP1) ⟨by decide, by decide⟩ rfl rfl (Nat.le_of_ble_eq_true rfl) dL_law_458 ⟨Nat.le_of_ble_eq_true rfl, Nat.le_of_ble_eq_true rfl⟩ (fun locs hS => ?_)
  refine lv_aload_n hx hb dL_law_461 rfl (lv_at hl 2 rfl) ?_
  refine lv_aload_n hx hb dL_law_462 rfl (lv_at hl 0 rfl) ?_
  refine lv_iload_n hx hb dL_law_463 rfl (lv_at hl 3 rfl) ?_
  refine lv_iconst (v := 1) hx hb dL_law_464 (by decide) ?_
  refine lv_iadd hx hb dL_law_465 ?_
  refine va_sld hx hb hX hbl hbA hS (inb_in hi1) dL_law_466 ?_
  refine lv_aload_n hx hb dL_law_467 rfl (lv_at hl 0 rfl) ?_
  refine lv_iload_n hx hb dL_law_468 rfl (lv_at hl 3 rfl) ?_
  refine lv_iconst (v := 2) hx hb dL_law_469 (by decide) ?_
  refine lv_iadd hx hb dL_law_470 ?_
  refine va_sld hx hb hX hbl hbA hS (inb_in hi2) dL_law_471 ?_
  refine ro_V (As := [.int (xs (ix (x3 + 1))), .int (xs (ix (x3 + 2)))]) (rest := [.int r]) X hP2 hS hl.1 (c_X4_all l D cI cG q2 T _ F (xs (ix (x3 + 1))) (xs (ix (x3 + 2))) e2) lk_L_65 (rcL4 X hP2) ⟨by decide, by decide⟩ rfl rfl (Nat.le_of_ble_eq_true rfl) dL_law_472 ⟨Nat.le_of_ble_eq_true rfl, Nat.le_of_ble_eq_true rfl⟩ (fun locs hS => ?_)
  refine lv_icmp_eq (tgt := 896) hx hb dL_law_475 (by decide) (fun _ => ?_) (fun c9 => absurd rfl c9)
  exact k S T H locs hR hP1 hP2 hS
set_option maxHeartbeats 4000000 in
set_option maxRecDepth 100000 in
theorem law_12 {p : Program} {l : Launch} {e : Env} {s : State} {m : MethodId} {below : List Frame} {meth : Method} {c : Code} {D : va_G} {cI cG : ClassId} {b L : Nat} {xs : Nat → Int32} {q q2 : Nat → Nat} {a1 a2 : Nat} {Rel : St → St → Prop} {F : Nat} (hsp : sp_why F Rel) (X : Cx p s m #[Value.ref b] meth c cL_law 4 (some .boolean) RL D cI cG) (Fx : lawF s q q2 a1 a2) (hX : va_X b L xs s s.heap) (hbl : b < s.heap.size) {x3 : Int32} (hi1 : inb (x3 + 1) L = true) (hi2 : inb (x3 + 2) L = true) (hi3 : inb (x3 + 3) L = true) (hi4 : inb (x3 + 4) L = true) {S T : St} {H : Heap} {locs : List Loc} {ls : Array Slot} (hR : Rel S T) (hP1 : va_P D vwCl (wX cI cG q S) H) (hP2 : va_P D vwCl (wM cI cG q2 T) H) (hS : va_S (lawA s) s.heap H locs) (hl : lv_has ls 4 [(0, .ref b), (1, .ref (q 0)), (2, .ref (q2 0)), (3, .int x3)])
    (k : ∀ (S T : St) (H : Heap) (locs : List Loc), Rel S T → va_P D vwCl (wX cI cG q S) H → va_P D vwCl (wM cI cG q2 T) H → va_S (lawA s) s.heap H locs → W p l e room_1 s m #[Value.ref b] below meth c H locs 45 892 (lw_Z below #[Value.ref b] s) (F0 m 896 ls [])) : W p l e room_1 s m #[Value.ref b] below meth c H locs 45 892 (lw_Z below #[Value.ref b] s) (F0 m 480 ls []) := by
  have hx := X.1
  have hb := X.2.1
  have hbA : ¬ lawA s b := Nat.not_le.mpr hbl
  obtain ⟨r, e1, e2⟩ := hsp S T (xs (ix (x3 + 1))) (xs (ix (x3 + 2))) hR
  refine lv_aload_n hx hb dL_law_480 rfl (lv_at hl 1 rfl) ?_
  refine lv_aload_n hx hb dL_law_481 rfl (lv_at hl 0 rfl) ?_
  refine lv_iload_n hx hb dL_law_482 rfl (lv_at hl 3 rfl) ?_
  refine lv_iconst (v := 1) hx hb dL_law_483 (by decide) ?_
  refine lv_iadd hx hb dL_law_484 ?_
  refine va_sld hx hb hX hbl hbA hS (inb_in hi1) dL_law_485 ?_
  refine lv_aload_n hx hb dL_law_486 rfl (lv_at hl 0 rfl) ?_
  refine lv_iload_n hx hb dL_law_487 rfl (lv_at hl 3 rfl) ?_
  refine lv_iconst (v := 2) hx hb dL_law_488 (by decide) ?_
  refine lv_iadd hx hb dL_law_489 ?_
  refine va_sld hx hb hX hbl hbA hS (inb_in hi2) dL_law_490 ?_
  refine ro_V (As := [.int (xs (ix (x3 + 1))), .int (xs (ix (x3 + 2)))]) (rest := []) X hP1 hS hl.1 (c_X3_why l D cI cG q S _ F (xs (ix (x3 + 1))) (xs (ix (x3 + 2))) e1) lk_L_66 (rcL3 X hP1) ⟨by decide, by decide⟩ rfl rfl (Nat.le_of_ble_eq_true rfl) dL_law_491 ⟨Nat.le_of_ble_eq_true rfl, Nat.le_of_ble_eq_true rfl⟩ (fun locs hS => ?_)
  refine lv_aload_n hx hb dL_law_494 rfl (lv_at hl 2 rfl) ?_
  refine lv_aload_n hx hb dL_law_495 rfl (lv_at hl 0 rfl) ?_
  refine lv_iload_n hx hb dL_law_496 rfl (lv_at hl 3 rfl) ?_
  refine lv_iconst (v := 1) hx hb dL_law_497 (by decide) ?_
  refine lv_iadd hx hb dL_law_498 ?_
  refine va_sld hx hb hX hbl hbA hS (inb_in hi1) dL_law_499 ?_
  refine lv_aload_n hx hb dL_law_500 rfl (lv_at hl 0 rfl) ?_
  refine lv_iload_n hx hb dL_law_501 rfl (lv_at hl 3 rfl) ?_
  refine lv_iconst (v := 2) hx hb dL_law_502 (by decide) ?_
  refine lv_iadd hx hb dL_law_503 ?_
  refine va_sld hx hb hX hbl hbA hS (inb_in hi2) dL_law_504 ?_
  refine ro_V (As := [.int (xs (ix (x3 + 1))), .int (xs (ix (x3 + 2)))]) (rest := [.int r]) X hP2 hS hl.1 (c_X4_why l D cI cG q2 T _ F (xs (ix (x3 + 1))) (xs (ix (x3 + 2))) e2) lk_L_69 (rcL4 X hP2) ⟨by decide, by decide⟩ rfl rfl (Nat.le_of_ble_eq_true rfl) dL_law_505 ⟨Nat.le_of_ble_eq_true rfl, Nat.le_of_ble_eq_true rfl⟩ (fun locs hS => ?_)
  refine lv_icmp_eq (tgt := 896) hx hb dL_law_508 (by decide) (fun _ => ?_) (fun c9 => absurd rfl c9)
  exact k S T H locs hR hP1 hP2 hS
set_option maxHeartbeats 4000000 in
set_option maxRecDepth 100000 in
theorem law_13 {p : Program} {l : Launch} {e : Env} {s : State} {m : MethodId} {below : List Frame} {meth : Method} {c : Code} {D : va_G} {cI cG : ClassId} {b L : Nat} {xs : Nat → Int32} {q q2 : Nat → Nat} {a1 a2 : Nat} {Rel : St → St → Prop} {F : Nat} (hsp : sp_under F Rel) (X : Cx p s m #[Value.ref b] meth c cL_law 4 (some .boolean) RL D cI cG) (Fx : lawF s q q2 a1 a2) (hX : va_X b L xs s s.heap) (hbl : b < s.heap.size) {x3 : Int32} (hi1 : inb (x3 + 1) L = true) (hi2 : inb (x3 + 2) L = true) (hi3 : inb (x3 + 3) L = true) (hi4 : inb (x3 + 4) L = true) {S T : St} {H : Heap} {locs : List Loc} {ls : Array Slot} (hR : Rel S T) (hP1 : va_P D vwCl (wX cI cG q S) H) (hP2 : va_P D vwCl (wM cI cG q2 T) H) (hS : va_S (lawA s) s.heap H locs) (hl : lv_has ls 4 [(0, .ref b), (1, .ref (q 0)), (2, .ref (q2 0)), (3, .int x3)])
    (k : ∀ (S T : St) (H : Heap) (locs : List Loc), Rel S T → va_P D vwCl (wX cI cG q S) H → va_P D vwCl (wM cI cG q2 T) H → va_S (lawA s) s.heap H locs → W p l e room_1 s m #[Value.ref b] below meth c H locs 45 892 (lw_Z below #[Value.ref b] s) (F0 m 896 ls [])) : W p l e room_1 s m #[Value.ref b] below meth c H locs 45 892 (lw_Z below #[Value.ref b] s) (F0 m 513 ls []) := by
  have hx := X.1
  have hb := X.2.1
  have hbA : ¬ lawA s b := Nat.not_le.mpr hbl
  obtain ⟨r, e1, e2⟩ := hsp S T (xs (ix (x3 + 1))) hR
  refine lv_aload_n hx hb dL_law_513 rfl (lv_at hl 1 rfl) ?_
  refine lv_aload_n hx hb dL_law_514 rfl (lv_at hl 0 rfl) ?_
  refine lv_iload_n hx hb dL_law_515 rfl (lv_at hl 3 rfl) ?_
  refine lv_iconst (v := 1) hx hb dL_law_516 (by decide) ?_
  refine lv_iadd hx hb dL_law_517 ?_
  refine va_sld hx hb hX hbl hbA hS (inb_in hi1) dL_law_518 ?_
  refine ro_V (As := [.int (xs (ix (x3 + 1)))]) (rest := []) X hP1 hS hl.1 (c_X3_under l D cI cG q S _ F (xs (ix (x3 + 1))) e1) lk_L_70 (rcL3 X hP1) ⟨by decide, by decide⟩ rfl rfl (Nat.le_of_ble_eq_true rfl) dL_law_519 ⟨Nat.le_of_ble_eq_true rfl, Nat.le_of_ble_eq_true rfl⟩ (fun locs hS => ?_)
  refine lv_aload_n hx hb dL_law_522 rfl (lv_at hl 2 rfl) ?_
  refine lv_aload_n hx hb dL_law_523 rfl (lv_at hl 0 rfl) ?_
  refine lv_iload_n hx hb dL_law_524 rfl (lv_at hl 3 rfl) ?_
  refine lv_iconst (v := 1) hx hb dL_law_525 (by decide) ?_
  refine lv_iadd hx hb dL_law_526 ?_
  refine va_sld hx hb hX hbl hbA hS (inb_in hi1) dL_law_527 ?_
  refine ro_V (As := [.int (xs (ix (x3 + 1)))]) (rest := [.int r]) X hP2 hS hl.1 (c_X4_under l D cI cG q2 T _ F (xs (ix (x3 + 1))) e2) lk_L_73 (rcL4 X hP2) ⟨by decide, by decide⟩ rfl rfl (Nat.le_of_ble_eq_true rfl) dL_law_528 ⟨Nat.le_of_ble_eq_true rfl, Nat.le_of_ble_eq_true rfl⟩ (fun locs hS => ?_)
  refine lv_icmp_eq (tgt := 896) hx hb dL_law_531 (by decide) (fun _ => ?_) (fun c9 => absurd rfl c9)
  exact k S T H locs hR hP1 hP2 hS
set_option maxHeartbeats 4000000 in
set_option maxRecDepth 100000 in
theorem law_14 {p : Program} {l : Launch} {e : Env} {s : State} {m : MethodId} {below : List Frame} {meth : Method} {c : Code} {D : va_G} {cI cG : ClassId} {b L : Nat} {xs : Nat → Int32} {q q2 : Nat → Nat} {a1 a2 : Nat} {Rel : St → St → Prop} {F : Nat} (hsp : sp_fall F Rel) (X : Cx p s m #[Value.ref b] meth c cL_law 4 (some .boolean) RL D cI cG) (Fx : lawF s q q2 a1 a2) (hX : va_X b L xs s s.heap) (hbl : b < s.heap.size) {x3 : Int32} (hi1 : inb (x3 + 1) L = true) (hi2 : inb (x3 + 2) L = true) (hi3 : inb (x3 + 3) L = true) (hi4 : inb (x3 + 4) L = true) {S T : St} {H : Heap} {locs : List Loc} {ls : Array Slot} (hR : Rel S T) (hP1 : va_P D vwCl (wX cI cG q S) H) (hP2 : va_P D vwCl (wM cI cG q2 T) H) (hS : va_S (lawA s) s.heap H locs) (hl : lv_has ls 4 [(0, .ref b), (1, .ref (q 0)), (2, .ref (q2 0)), (3, .int x3)])
    (k : ∀ (S T : St) (H : Heap) (locs : List Loc), Rel S T → va_P D vwCl (wX cI cG q S) H → va_P D vwCl (wM cI cG q2 T) H → va_S (lawA s) s.heap H locs → W p l e room_1 s m #[Value.ref b] below meth c H locs 45 892 (lw_Z below #[Value.ref b] s) (F0 m 896 ls [])) : W p l e room_1 s m #[Value.ref b] below meth c H locs 45 892 (lw_Z below #[Value.ref b] s) (F0 m 536 ls []) := by
  have hx := X.1
  have hb := X.2.1
  have hbA : ¬ lawA s b := Nat.not_le.mpr hbl
  obtain ⟨r, e1, e2⟩ := hsp S T (xs (ix (x3 + 1))) (xs (ix (x3 + 2))) (xs (ix (x3 + 3))) (xs (ix (x3 + 4))) hR
  refine lv_aload_n hx hb dL_law_536 rfl (lv_at hl 1 rfl) ?_
  refine lv_aload_n hx hb dL_law_537 rfl (lv_at hl 0 rfl) ?_
  refine lv_iload_n hx hb dL_law_538 rfl (lv_at hl 3 rfl) ?_
  refine lv_iconst (v := 1) hx hb dL_law_539 (by decide) ?_
  refine lv_iadd hx hb dL_law_540 ?_
  refine va_sld hx hb hX hbl hbA hS (inb_in hi1) dL_law_541 ?_
  refine lv_aload_n hx hb dL_law_542 rfl (lv_at hl 0 rfl) ?_
  refine lv_iload_n hx hb dL_law_543 rfl (lv_at hl 3 rfl) ?_
  refine lv_iconst (v := 2) hx hb dL_law_544 (by decide) ?_
  refine lv_iadd hx hb dL_law_545 ?_
  refine va_sld hx hb hX hbl hbA hS (inb_in hi2) dL_law_546 ?_
  refine lv_aload_n hx hb dL_law_547 rfl (lv_at hl 0 rfl) ?_
  refine lv_iload_n hx hb dL_law_548 rfl (lv_at hl 3 rfl) ?_
  refine lv_iconst (v := 3) hx hb dL_law_549 (by decide) ?_
  refine lv_iadd hx hb dL_law_550 ?_
  refine va_sld hx hb hX hbl hbA hS (inb_in hi3) dL_law_551 ?_
  refine lv_aload_n hx hb dL_law_552 rfl (lv_at hl 0 rfl) ?_
  refine lv_iload_n hx hb dL_law_553 rfl (lv_at hl 3 rfl) ?_
  refine lv_iconst (v := 4) hx hb dL_law_554 (by decide) ?_
  refine lv_iadd hx hb dL_law_555 ?_
  refine va_sld hx hb hX hbl hbA hS (inb_in hi4) dL_law_556 ?_
  refine ro_V (As := [.int (xs (ix (x3 + 1))), .int (xs (ix (x3 + 2))), .int (xs (ix (x3 + 3))), .int (xs (ix (x3 + 4)))]) (rest := []) X hP1 hS hl.1 (c_X3_fall l D cI cG q S _ F (xs (ix (x3 + 1))) (xs (ix (x3 + 2))) (xs (ix (x3 + 3))) (xs (ix (x3 + 4))) e1) lk_L_74 (rcL3 X hP1) ⟨by decide, by decide⟩ rfl rfl (Nat.le_of_ble_eq_true rfl) dL_law_557 ⟨Nat.le_of_ble_eq_true rfl, Nat.le_of_ble_eq_true rfl⟩ (fun locs hS => ?_)
  refine lv_aload_n hx hb dL_law_560 rfl (lv_at hl 2 rfl) ?_
  refine lv_aload_n hx hb dL_law_561 rfl (lv_at hl 0 rfl) ?_
  refine lv_iload_n hx hb dL_law_562 rfl (lv_at hl 3 rfl) ?_
  refine lv_iconst (v := 1) hx hb dL_law_563 (by decide) ?_
  refine lv_iadd hx hb dL_law_564 ?_
  refine va_sld hx hb hX hbl hbA hS (inb_in hi1) dL_law_565 ?_
  refine lv_aload_n hx hb dL_law_566 rfl (lv_at hl 0 rfl) ?_
  refine lv_iload_n hx hb dL_law_567 rfl (lv_at hl 3 rfl) ?_
  refine lv_iconst (v := 2) hx hb dL_law_568 (by decide) ?_
  refine lv_iadd hx hb dL_law_569 ?_
  refine va_sld hx hb hX hbl hbA hS (inb_in hi2) dL_law_570 ?_
  refine lv_aload_n hx hb dL_law_571 rfl (lv_at hl 0 rfl) ?_
  refine lv_iload_n hx hb dL_law_572 rfl (lv_at hl 3 rfl) ?_
  refine lv_iconst (v := 3) hx hb dL_law_573 (by decide) ?_
  refine lv_iadd hx hb dL_law_574 ?_
  refine va_sld hx hb hX hbl hbA hS (inb_in hi3) dL_law_575 ?_
  refine lv_aload_n hx hb dL_law_576 rfl (lv_at hl 0 rfl) ?_
  refine lv_iload_n hx hb dL_law_577 rfl (lv_at hl 3 rfl) ?_
  refine lv_iconst (v := 4) hx hb dL_law_578 (by decide) ?_
  refine lv_iadd hx hb dL_law_579 ?_
  refine va_sld hx hb hX hbl hbA hS (inb_in hi4) dL_law_580 ?_
  refine ro_V (As := [.int (xs (ix (x3 + 1))), .int (xs (ix (x3 + 2))), .int (xs (ix (x3 + 3))), .int (xs (ix (x3 + 4)))]) (rest := [.int r]) X hP2 hS hl.1 (c_X4_fall l D cI cG q2 T _ F (xs (ix (x3 + 1))) (xs (ix (x3 + 2))) (xs (ix (x3 + 3))) (xs (ix (x3 + 4))) e2) lk_L_77 (rcL4 X hP2) ⟨by decide, by decide⟩ rfl rfl (Nat.le_of_ble_eq_true rfl) dL_law_581 ⟨Nat.le_of_ble_eq_true rfl, Nat.le_of_ble_eq_true rfl⟩ (fun locs hS => ?_)
  refine lv_icmp_eq (tgt := 896) hx hb dL_law_584 (by decide) (fun _ => ?_) (fun c9 => absurd rfl c9)
  exact k S T H locs hR hP1 hP2 hS
set_option maxHeartbeats 4000000 in
set_option maxRecDepth 100000 in
theorem law_15 {p : Program} {l : Launch} {e : Env} {s : State} {m : MethodId} {below : List Frame} {meth : Method} {c : Code} {D : va_G} {cI cG : ClassId} {b L : Nat} {xs : Nat → Int32} {q q2 : Nat → Nat} {a1 a2 : Nat} {Rel : St → St → Prop} {F : Nat} (hsp : sp_back F Rel) (X : Cx p s m #[Value.ref b] meth c cL_law 4 (some .boolean) RL D cI cG) (Fx : lawF s q q2 a1 a2) (hX : va_X b L xs s s.heap) (hbl : b < s.heap.size) {x3 : Int32} (hi1 : inb (x3 + 1) L = true) (hi2 : inb (x3 + 2) L = true) (hi3 : inb (x3 + 3) L = true) (hi4 : inb (x3 + 4) L = true) {S T : St} {H : Heap} {locs : List Loc} {ls : Array Slot} (hR : Rel S T) (hP1 : va_P D vwCl (wX cI cG q S) H) (hP2 : va_P D vwCl (wM cI cG q2 T) H) (hS : va_S (lawA s) s.heap H locs) (hl : lv_has ls 4 [(0, .ref b), (1, .ref (q 0)), (2, .ref (q2 0)), (3, .int x3)])
    (k : ∀ (S T : St) (H : Heap) (locs : List Loc), Rel S T → va_P D vwCl (wX cI cG q S) H → va_P D vwCl (wM cI cG q2 T) H → va_S (lawA s) s.heap H locs → W p l e room_1 s m #[Value.ref b] below meth c H locs 45 892 (lw_Z below #[Value.ref b] s) (F0 m 896 ls [])) : W p l e room_1 s m #[Value.ref b] below meth c H locs 45 892 (lw_Z below #[Value.ref b] s) (F0 m 589 ls []) := by
  have hx := X.1
  have hb := X.2.1
  have hbA : ¬ lawA s b := Nat.not_le.mpr hbl
  obtain ⟨r, e1, e2⟩ := hsp S T (xs (ix (x3 + 1))) (xs (ix (x3 + 2))) (xs (ix (x3 + 3))) (xs (ix (x3 + 4))) hR
  refine lv_aload_n hx hb dL_law_589 rfl (lv_at hl 1 rfl) ?_
  refine lv_aload_n hx hb dL_law_590 rfl (lv_at hl 0 rfl) ?_
  refine lv_iload_n hx hb dL_law_591 rfl (lv_at hl 3 rfl) ?_
  refine lv_iconst (v := 1) hx hb dL_law_592 (by decide) ?_
  refine lv_iadd hx hb dL_law_593 ?_
  refine va_sld hx hb hX hbl hbA hS (inb_in hi1) dL_law_594 ?_
  refine lv_aload_n hx hb dL_law_595 rfl (lv_at hl 0 rfl) ?_
  refine lv_iload_n hx hb dL_law_596 rfl (lv_at hl 3 rfl) ?_
  refine lv_iconst (v := 2) hx hb dL_law_597 (by decide) ?_
  refine lv_iadd hx hb dL_law_598 ?_
  refine va_sld hx hb hX hbl hbA hS (inb_in hi2) dL_law_599 ?_
  refine lv_aload_n hx hb dL_law_600 rfl (lv_at hl 0 rfl) ?_
  refine lv_iload_n hx hb dL_law_601 rfl (lv_at hl 3 rfl) ?_
  refine lv_iconst (v := 3) hx hb dL_law_602 (by decide) ?_
  refine lv_iadd hx hb dL_law_603 ?_
  refine va_sld hx hb hX hbl hbA hS (inb_in hi3) dL_law_604 ?_
  refine lv_aload_n hx hb dL_law_605 rfl (lv_at hl 0 rfl) ?_
  refine lv_iload_n hx hb dL_law_606 rfl (lv_at hl 3 rfl) ?_
  refine lv_iconst (v := 4) hx hb dL_law_607 (by decide) ?_
  refine lv_iadd hx hb dL_law_608 ?_
  refine va_sld hx hb hX hbl hbA hS (inb_in hi4) dL_law_609 ?_
  refine ro_V (As := [.int (xs (ix (x3 + 1))), .int (xs (ix (x3 + 2))), .int (xs (ix (x3 + 3))), .int (xs (ix (x3 + 4)))]) (rest := []) X hP1 hS hl.1 (c_X3_back l D cI cG q S _ F (xs (ix (x3 + 1))) (xs (ix (x3 + 2))) (xs (ix (x3 + 3))) (xs (ix (x3 + 4))) e1) lk_L_78 (rcL3 X hP1) ⟨by decide, by decide⟩ rfl rfl (Nat.le_of_ble_eq_true rfl) dL_law_610 ⟨Nat.le_of_ble_eq_true rfl, Nat.le_of_ble_eq_true rfl⟩ (fun locs hS => ?_)
  refine lv_aload_n hx hb dL_law_613 rfl (lv_at hl 2 rfl) ?_
  refine lv_aload_n hx hb dL_law_614 rfl (lv_at hl 0 rfl) ?_
  refine lv_iload_n hx hb dL_law_615 rfl (lv_at hl 3 rfl) ?_
  refine lv_iconst (v := 1) hx hb dL_law_616 (by decide) ?_
  refine lv_iadd hx hb dL_law_617 ?_
  refine va_sld hx hb hX hbl hbA hS (inb_in hi1) dL_law_618 ?_
  refine lv_aload_n hx hb dL_law_619 rfl (lv_at hl 0 rfl) ?_
  refine lv_iload_n hx hb dL_law_620 rfl (lv_at hl 3 rfl) ?_
  refine lv_iconst (v := 2) hx hb dL_law_621 (by decide) ?_
  refine lv_iadd hx hb dL_law_622 ?_
  refine va_sld hx hb hX hbl hbA hS (inb_in hi2) dL_law_623 ?_
  refine lv_aload_n hx hb dL_law_624 rfl (lv_at hl 0 rfl) ?_
  refine lv_iload_n hx hb dL_law_625 rfl (lv_at hl 3 rfl) ?_
  refine lv_iconst (v := 3) hx hb dL_law_626 (by decide) ?_
  refine lv_iadd hx hb dL_law_627 ?_
  refine va_sld hx hb hX hbl hbA hS (inb_in hi3) dL_law_628 ?_
  refine lv_aload_n hx hb dL_law_629 rfl (lv_at hl 0 rfl) ?_
  refine lv_iload_n hx hb dL_law_630 rfl (lv_at hl 3 rfl) ?_
  refine lv_iconst (v := 4) hx hb dL_law_631 (by decide) ?_
  refine lv_iadd hx hb dL_law_632 ?_
  refine va_sld hx hb hX hbl hbA hS (inb_in hi4) dL_law_633 ?_
  refine ro_V (As := [.int (xs (ix (x3 + 1))), .int (xs (ix (x3 + 2))), .int (xs (ix (x3 + 3))), .int (xs (ix (x3 + 4)))]) (rest := [.int r]) X hP2 hS hl.1 (c_X4_back l D cI cG q2 T _ F (xs (ix (x3 + 1))) (xs (ix (x3 + 2))) (xs (ix (x3 + 3))) (xs (ix (x3 + 4))) e2) lk_L_81 (rcL4 X hP2) ⟨by decide, by decide⟩ rfl rfl (Nat.le_of_ble_eq_true rfl) dL_law_634 ⟨Nat.le_of_ble_eq_true rfl, Nat.le_of_ble_eq_true rfl⟩ (fun locs hS => ?_)
  refine lv_icmp_eq (tgt := 896) hx hb dL_law_637 (by decide) (fun _ => ?_) (fun c9 => absurd rfl c9)
  exact k S T H locs hR hP1 hP2 hS
set_option maxHeartbeats 4000000 in
set_option maxRecDepth 100000 in
theorem law_16 {p : Program} {l : Launch} {e : Env} {s : State} {m : MethodId} {below : List Frame} {meth : Method} {c : Code} {D : va_G} {cI cG : ClassId} {b L : Nat} {xs : Nat → Int32} {q q2 : Nat → Nat} {a1 a2 : Nat} {Rel : St → St → Prop} {F : Nat} (hsp : sp_wise F Rel) (X : Cx p s m #[Value.ref b] meth c cL_law 4 (some .boolean) RL D cI cG) (Fx : lawF s q q2 a1 a2) (hX : va_X b L xs s s.heap) (hbl : b < s.heap.size) {x3 : Int32} (hi1 : inb (x3 + 1) L = true) (hi2 : inb (x3 + 2) L = true) (hi3 : inb (x3 + 3) L = true) (hi4 : inb (x3 + 4) L = true) {S T : St} {H : Heap} {locs : List Loc} {ls : Array Slot} (hR : Rel S T) (hP1 : va_P D vwCl (wX cI cG q S) H) (hP2 : va_P D vwCl (wM cI cG q2 T) H) (hS : va_S (lawA s) s.heap H locs) (hl : lv_has ls 4 [(0, .ref b), (1, .ref (q 0)), (2, .ref (q2 0)), (3, .int x3)])
    (k : ∀ (S T : St) (H : Heap) (locs : List Loc), Rel S T → va_P D vwCl (wX cI cG q S) H → va_P D vwCl (wM cI cG q2 T) H → va_S (lawA s) s.heap H locs → W p l e room_1 s m #[Value.ref b] below meth c H locs 45 892 (lw_Z below #[Value.ref b] s) (F0 m 896 ls [])) : W p l e room_1 s m #[Value.ref b] below meth c H locs 45 892 (lw_Z below #[Value.ref b] s) (F0 m 642 ls []) := by
  have hx := X.1
  have hb := X.2.1
  have hbA : ¬ lawA s b := Nat.not_le.mpr hbl
  obtain ⟨r, e1, e2⟩ := hsp S T (xs (ix (x3 + 1))) (xs (ix (x3 + 2))) hR
  refine lv_aload_n hx hb dL_law_642 rfl (lv_at hl 1 rfl) ?_
  refine lv_aload_n hx hb dL_law_643 rfl (lv_at hl 0 rfl) ?_
  refine lv_iload_n hx hb dL_law_644 rfl (lv_at hl 3 rfl) ?_
  refine lv_iconst (v := 1) hx hb dL_law_645 (by decide) ?_
  refine lv_iadd hx hb dL_law_646 ?_
  refine va_sld hx hb hX hbl hbA hS (inb_in hi1) dL_law_647 ?_
  refine lv_aload_n hx hb dL_law_648 rfl (lv_at hl 0 rfl) ?_
  refine lv_iload_n hx hb dL_law_649 rfl (lv_at hl 3 rfl) ?_
  refine lv_iconst (v := 2) hx hb dL_law_650 (by decide) ?_
  refine lv_iadd hx hb dL_law_651 ?_
  refine va_sld hx hb hX hbl hbA hS (inb_in hi2) dL_law_652 ?_
  refine ro_V (As := [.int (xs (ix (x3 + 1))), .int (xs (ix (x3 + 2)))]) (rest := []) X hP1 hS hl.1 (c_X3_wise l D cI cG q S _ F (xs (ix (x3 + 1))) (xs (ix (x3 + 2))) e1) lk_L_82 (rcL3 X hP1) ⟨by decide, by decide⟩ rfl rfl (Nat.le_of_ble_eq_true rfl) dL_law_653 ⟨Nat.le_of_ble_eq_true rfl, Nat.le_of_ble_eq_true rfl⟩ (fun locs hS => ?_)
  refine lv_aload_n hx hb dL_law_656 rfl (lv_at hl 2 rfl) ?_
  refine lv_aload_n hx hb dL_law_657 rfl (lv_at hl 0 rfl) ?_
  refine lv_iload_n hx hb dL_law_658 rfl (lv_at hl 3 rfl) ?_
  refine lv_iconst (v := 1) hx hb dL_law_659 (by decide) ?_
  refine lv_iadd hx hb dL_law_660 ?_
  refine va_sld hx hb hX hbl hbA hS (inb_in hi1) dL_law_661 ?_
  refine lv_aload_n hx hb dL_law_662 rfl (lv_at hl 0 rfl) ?_
  refine lv_iload_n hx hb dL_law_663 rfl (lv_at hl 3 rfl) ?_
  refine lv_iconst (v := 2) hx hb dL_law_664 (by decide) ?_
  refine lv_iadd hx hb dL_law_665 ?_
  refine va_sld hx hb hX hbl hbA hS (inb_in hi2) dL_law_666 ?_
  refine ro_V (As := [.int (xs (ix (x3 + 1))), .int (xs (ix (x3 + 2)))]) (rest := [.int r]) X hP2 hS hl.1 (c_X4_wise l D cI cG q2 T _ F (xs (ix (x3 + 1))) (xs (ix (x3 + 2))) e2) lk_L_85 (rcL4 X hP2) ⟨by decide, by decide⟩ rfl rfl (Nat.le_of_ble_eq_true rfl) dL_law_667 ⟨Nat.le_of_ble_eq_true rfl, Nat.le_of_ble_eq_true rfl⟩ (fun locs hS => ?_)
  refine lv_icmp_eq (tgt := 896) hx hb dL_law_670 (by decide) (fun _ => ?_) (fun c9 => absurd rfl c9)
  exact k S T H locs hR hP1 hP2 hS
set_option maxHeartbeats 4000000 in
set_option maxRecDepth 100000 in
theorem law_17 {p : Program} {l : Launch} {e : Env} {s : State} {m : MethodId} {below : List Frame} {meth : Method} {c : Code} {D : va_G} {cI cG : ClassId} {b L : Nat} {xs : Nat → Int32} {q q2 : Nat → Nat} {a1 a2 : Nat} {Rel : St → St → Prop} {F : Nat} (hsp : sp_rest F Rel) (X : Cx p s m #[Value.ref b] meth c cL_law 4 (some .boolean) RL D cI cG) (Fx : lawF s q q2 a1 a2) (hX : va_X b L xs s s.heap) (hbl : b < s.heap.size) {x3 : Int32} (hi1 : inb (x3 + 1) L = true) (hi2 : inb (x3 + 2) L = true) (hi3 : inb (x3 + 3) L = true) (hi4 : inb (x3 + 4) L = true) {S T : St} {H : Heap} {locs : List Loc} {ls : Array Slot} (hR : Rel S T) (hP1 : va_P D vwCl (wX cI cG q S) H) (hP2 : va_P D vwCl (wM cI cG q2 T) H) (hS : va_S (lawA s) s.heap H locs) (hl : lv_has ls 4 [(0, .ref b), (1, .ref (q 0)), (2, .ref (q2 0)), (3, .int x3)])
    (k : ∀ (S T : St) (H : Heap) (locs : List Loc), Rel S T → va_P D vwCl (wX cI cG q S) H → va_P D vwCl (wM cI cG q2 T) H → va_S (lawA s) s.heap H locs → W p l e room_1 s m #[Value.ref b] below meth c H locs 45 892 (lw_Z below #[Value.ref b] s) (F0 m 896 ls [])) : W p l e room_1 s m #[Value.ref b] below meth c H locs 45 892 (lw_Z below #[Value.ref b] s) (F0 m 675 ls []) := by
  have hx := X.1
  have hb := X.2.1
  have hbA : ¬ lawA s b := Nat.not_le.mpr hbl
  obtain ⟨r, T9, e1, e2, hR9⟩ := hsp S T (xs (ix (x3 + 1))) (xs (ix (x3 + 2))) hR
  refine lv_aload_n hx hb dL_law_675 rfl (lv_at hl 1 rfl) ?_
  refine lv_aload_n hx hb dL_law_676 rfl (lv_at hl 0 rfl) ?_
  refine lv_iload_n hx hb dL_law_677 rfl (lv_at hl 3 rfl) ?_
  refine lv_iconst (v := 1) hx hb dL_law_678 (by decide) ?_
  refine lv_iadd hx hb dL_law_679 ?_
  refine va_sld hx hb hX hbl hbA hS (inb_in hi1) dL_law_680 ?_
  refine lv_aload_n hx hb dL_law_681 rfl (lv_at hl 0 rfl) ?_
  refine lv_iload_n hx hb dL_law_682 rfl (lv_at hl 3 rfl) ?_
  refine lv_iconst (v := 2) hx hb dL_law_683 (by decide) ?_
  refine lv_iadd hx hb dL_law_684 ?_
  refine va_sld hx hb hX hbl hbA hS (inb_in hi2) dL_law_685 ?_
  refine ro_V (As := [.int (xs (ix (x3 + 1))), .int (xs (ix (x3 + 2)))]) (rest := []) X hP1 hS hl.1 (c_X3_rest l D cI cG q S _ F (xs (ix (x3 + 1))) (xs (ix (x3 + 2))) e1) lk_L_86 (rcL3 X hP1) ⟨by decide, by decide⟩ rfl rfl (Nat.le_of_ble_eq_true rfl) dL_law_686 ⟨Nat.le_of_ble_eq_true rfl, Nat.le_of_ble_eq_true rfl⟩ (fun locs hS => ?_)
  refine lv_aload_n hx hb dL_law_689 rfl (lv_at hl 2 rfl) ?_
  refine lv_aload_n hx hb dL_law_690 rfl (lv_at hl 0 rfl) ?_
  refine lv_iload_n hx hb dL_law_691 rfl (lv_at hl 3 rfl) ?_
  refine lv_iconst (v := 1) hx hb dL_law_692 (by decide) ?_
  refine lv_iadd hx hb dL_law_693 ?_
  refine va_sld hx hb hX hbl hbA hS (inb_in hi1) dL_law_694 ?_
  refine lv_aload_n hx hb dL_law_695 rfl (lv_at hl 0 rfl) ?_
  refine lv_iload_n hx hb dL_law_696 rfl (lv_at hl 3 rfl) ?_
  refine lv_iconst (v := 2) hx hb dL_law_697 (by decide) ?_
  refine lv_iadd hx hb dL_law_698 ?_
  refine va_sld hx hb hX hbl hbA hS (inb_in hi2) dL_law_699 ?_
  refine rw_VL (w := wM cI cG q2) (As := [.int (xs (ix (x3 + 1))), .int (xs (ix (x3 + 2)))]) (rest := [.int r]) X hP2 hP1 Fx.nM Fx.aM hS hl.1 (c_X4_rest l D cI cG q2 _ F (xs (ix (x3 + 1))) (xs (ix (x3 + 2))) (dM Fx.2.1) e2) lk_L_89 (rcL4 X hP2) ⟨by decide, by decide⟩ rfl rfl (Nat.le_of_ble_eq_true rfl) dL_law_700 ⟨Nat.le_of_ble_eq_true rfl, Nat.le_of_ble_eq_true rfl⟩ (fun H locs hP2 hP1 hS => ?_)
  refine lv_icmp_eq (tgt := 896) hx hb dL_law_703 (by decide) (fun _ => ?_) (fun c9 => absurd rfl c9)
  exact k S T9 H locs hR9 hP1 hP2 hS
set_option maxHeartbeats 4000000 in
set_option maxRecDepth 100000 in
theorem law_18 {p : Program} {l : Launch} {e : Env} {s : State} {m : MethodId} {below : List Frame} {meth : Method} {c : Code} {D : va_G} {cI cG : ClassId} {b L : Nat} {xs : Nat → Int32} {q q2 : Nat → Nat} {a1 a2 : Nat} {Rel : St → St → Prop} {F : Nat} (hsp : sp_heal F Rel) (X : Cx p s m #[Value.ref b] meth c cL_law 4 (some .boolean) RL D cI cG) (Fx : lawF s q q2 a1 a2) (hX : va_X b L xs s s.heap) (hbl : b < s.heap.size) {x3 : Int32} (hi1 : inb (x3 + 1) L = true) (hi2 : inb (x3 + 2) L = true) (hi3 : inb (x3 + 3) L = true) (hi4 : inb (x3 + 4) L = true) {S T : St} {H : Heap} {locs : List Loc} {ls : Array Slot} (hR : Rel S T) (hP1 : va_P D vwCl (wX cI cG q S) H) (hP2 : va_P D vwCl (wM cI cG q2 T) H) (hS : va_S (lawA s) s.heap H locs) (hl : lv_has ls 4 [(0, .ref b), (1, .ref (q 0)), (2, .ref (q2 0)), (3, .int x3)])
    (k : ∀ (S T : St) (H : Heap) (locs : List Loc), Rel S T → va_P D vwCl (wX cI cG q S) H → va_P D vwCl (wM cI cG q2 T) H → va_S (lawA s) s.heap H locs → W p l e room_1 s m #[Value.ref b] below meth c H locs 45 892 (lw_Z below #[Value.ref b] s) (F0 m 896 ls [])) : W p l e room_1 s m #[Value.ref b] below meth c H locs 45 892 (lw_Z below #[Value.ref b] s) (F0 m 708 ls []) := by
  have hx := X.1
  have hb := X.2.1
  have hbA : ¬ lawA s b := Nat.not_le.mpr hbl
  obtain ⟨r, T9, e1, e2, hR9⟩ := hsp S T (xs (ix (x3 + 1))) (xs (ix (x3 + 2))) (xs (ix (x3 + 3))) hR
  refine lv_aload_n hx hb dL_law_708 rfl (lv_at hl 1 rfl) ?_
  refine lv_aload_n hx hb dL_law_709 rfl (lv_at hl 0 rfl) ?_
  refine lv_iload_n hx hb dL_law_710 rfl (lv_at hl 3 rfl) ?_
  refine lv_iconst (v := 1) hx hb dL_law_711 (by decide) ?_
  refine lv_iadd hx hb dL_law_712 ?_
  refine va_sld hx hb hX hbl hbA hS (inb_in hi1) dL_law_713 ?_
  refine lv_aload_n hx hb dL_law_714 rfl (lv_at hl 0 rfl) ?_
  refine lv_iload_n hx hb dL_law_715 rfl (lv_at hl 3 rfl) ?_
  refine lv_iconst (v := 2) hx hb dL_law_716 (by decide) ?_
  refine lv_iadd hx hb dL_law_717 ?_
  refine va_sld hx hb hX hbl hbA hS (inb_in hi2) dL_law_718 ?_
  refine lv_aload_n hx hb dL_law_719 rfl (lv_at hl 0 rfl) ?_
  refine lv_iload_n hx hb dL_law_720 rfl (lv_at hl 3 rfl) ?_
  refine lv_iconst (v := 3) hx hb dL_law_721 (by decide) ?_
  refine lv_iadd hx hb dL_law_722 ?_
  refine va_sld hx hb hX hbl hbA hS (inb_in hi3) dL_law_723 ?_
  refine ro_V (As := [.int (xs (ix (x3 + 1))), .int (xs (ix (x3 + 2))), .int (xs (ix (x3 + 3)))]) (rest := []) X hP1 hS hl.1 (c_X3_heal l D cI cG q S _ F (xs (ix (x3 + 1))) (xs (ix (x3 + 2))) (xs (ix (x3 + 3))) e1) lk_L_90 (rcL3 X hP1) ⟨by decide, by decide⟩ rfl rfl (Nat.le_of_ble_eq_true rfl) dL_law_724 ⟨Nat.le_of_ble_eq_true rfl, Nat.le_of_ble_eq_true rfl⟩ (fun locs hS => ?_)
  refine lv_aload_n hx hb dL_law_727 rfl (lv_at hl 2 rfl) ?_
  refine lv_aload_n hx hb dL_law_728 rfl (lv_at hl 0 rfl) ?_
  refine lv_iload_n hx hb dL_law_729 rfl (lv_at hl 3 rfl) ?_
  refine lv_iconst (v := 1) hx hb dL_law_730 (by decide) ?_
  refine lv_iadd hx hb dL_law_731 ?_
  refine va_sld hx hb hX hbl hbA hS (inb_in hi1) dL_law_732 ?_
  refine lv_aload_n hx hb dL_law_733 rfl (lv_at hl 0 rfl) ?_
  refine lv_iload_n hx hb dL_law_734 rfl (lv_at hl 3 rfl) ?_
  refine lv_iconst (v := 2) hx hb dL_law_735 (by decide) ?_
  refine lv_iadd hx hb dL_law_736 ?_
  refine va_sld hx hb hX hbl hbA hS (inb_in hi2) dL_law_737 ?_
  refine lv_aload_n hx hb dL_law_738 rfl (lv_at hl 0 rfl) ?_
  refine lv_iload_n hx hb dL_law_739 rfl (lv_at hl 3 rfl) ?_
  refine lv_iconst (v := 3) hx hb dL_law_740 (by decide) ?_
  refine lv_iadd hx hb dL_law_741 ?_
  refine va_sld hx hb hX hbl hbA hS (inb_in hi3) dL_law_742 ?_
  refine rw_VL (w := wM cI cG q2) (As := [.int (xs (ix (x3 + 1))), .int (xs (ix (x3 + 2))), .int (xs (ix (x3 + 3)))]) (rest := [.int r]) X hP2 hP1 Fx.nM Fx.aM hS hl.1 (c_X4_heal l D cI cG q2 _ F (xs (ix (x3 + 1))) (xs (ix (x3 + 2))) (xs (ix (x3 + 3))) (dM Fx.2.1) e2) lk_L_93 (rcL4 X hP2) ⟨by decide, by decide⟩ rfl rfl (Nat.le_of_ble_eq_true rfl) dL_law_743 ⟨Nat.le_of_ble_eq_true rfl, Nat.le_of_ble_eq_true rfl⟩ (fun H locs hP2 hP1 hS => ?_)
  refine lv_icmp_eq (tgt := 896) hx hb dL_law_746 (by decide) (fun _ => ?_) (fun c9 => absurd rfl c9)
  exact k S T9 H locs hR9 hP1 hP2 hS
set_option maxHeartbeats 4000000 in
set_option maxRecDepth 100000 in
theorem law_19 {p : Program} {l : Launch} {e : Env} {s : State} {m : MethodId} {below : List Frame} {meth : Method} {c : Code} {D : va_G} {cI cG : ClassId} {b L : Nat} {xs : Nat → Int32} {q q2 : Nat → Nat} {a1 a2 : Nat} {Rel : St → St → Prop} {F : Nat} (hsp : sp_pillar F Rel) (X : Cx p s m #[Value.ref b] meth c cL_law 4 (some .boolean) RL D cI cG) (Fx : lawF s q q2 a1 a2) (hX : va_X b L xs s s.heap) (hbl : b < s.heap.size) {x3 : Int32} (hi1 : inb (x3 + 1) L = true) (hi2 : inb (x3 + 2) L = true) (hi3 : inb (x3 + 3) L = true) (hi4 : inb (x3 + 4) L = true) {S T : St} {H : Heap} {locs : List Loc} {ls : Array Slot} (hR : Rel S T) (hP1 : va_P D vwCl (wX cI cG q S) H) (hP2 : va_P D vwCl (wM cI cG q2 T) H) (hS : va_S (lawA s) s.heap H locs) (hl : lv_has ls 4 [(0, .ref b), (1, .ref (q 0)), (2, .ref (q2 0)), (3, .int x3)])
    (k : ∀ (S T : St) (H : Heap) (locs : List Loc), Rel S T → va_P D vwCl (wX cI cG q S) H → va_P D vwCl (wM cI cG q2 T) H → va_S (lawA s) s.heap H locs → W p l e room_1 s m #[Value.ref b] below meth c H locs 45 892 (lw_Z below #[Value.ref b] s) (F0 m 896 ls [])) : W p l e room_1 s m #[Value.ref b] below meth c H locs 45 892 (lw_Z below #[Value.ref b] s) (F0 m 751 ls []) := by
  have hx := X.1
  have hb := X.2.1
  have hbA : ¬ lawA s b := Nat.not_le.mpr hbl
  obtain ⟨r, e1, e2⟩ := hsp S T (xs (ix (x3 + 1))) (xs (ix (x3 + 2))) hR
  refine lv_aload_n hx hb dL_law_751 rfl (lv_at hl 1 rfl) ?_
  refine lv_aload_n hx hb dL_law_752 rfl (lv_at hl 0 rfl) ?_
  refine lv_iload_n hx hb dL_law_753 rfl (lv_at hl 3 rfl) ?_
  refine lv_iconst (v := 1) hx hb dL_law_754 (by decide) ?_
  refine lv_iadd hx hb dL_law_755 ?_
  refine va_sld hx hb hX hbl hbA hS (inb_in hi1) dL_law_756 ?_
  refine lv_aload_n hx hb dL_law_757 rfl (lv_at hl 0 rfl) ?_
  refine lv_iload_n hx hb dL_law_758 rfl (lv_at hl 3 rfl) ?_
  refine lv_iconst (v := 2) hx hb dL_law_759 (by decide) ?_
  refine lv_iadd hx hb dL_law_760 ?_
  refine va_sld hx hb hX hbl hbA hS (inb_in hi2) dL_law_761 ?_
  refine ro_V (As := [.int (xs (ix (x3 + 1))), .int (xs (ix (x3 + 2)))]) (rest := []) X hP1 hS hl.1 (c_X3_pillar l D cI cG q S _ F (xs (ix (x3 + 1))) (xs (ix (x3 + 2))) e1) lk_L_94 (rcL3 X hP1) ⟨by decide, by decide⟩ rfl rfl (Nat.le_of_ble_eq_true rfl) dL_law_762 ⟨Nat.le_of_ble_eq_true rfl, Nat.le_of_ble_eq_true rfl⟩ (fun locs hS => ?_)
  refine lv_aload_n hx hb dL_law_765 rfl (lv_at hl 2 rfl) ?_
  refine lv_aload_n hx hb dL_law_766 rfl (lv_at hl 0 rfl) ?_
  refine lv_iload_n hx hb dL_law_767 rfl (lv_at hl 3 rfl) ?_
  refine lv_iconst (v := 1) hx hb dL_law_768 (by decide) ?_
  refine lv_iadd hx hb dL_law_769 ?_
  refine va_sld hx hb hX hbl hbA hS (inb_in hi1) dL_law_770 ?_
  refine lv_aload_n hx hb dL_law_771 rfl (lv_at hl 0 rfl) ?_
  refine lv_iload_n hx hb dL_law_772 rfl (lv_at hl 3 rfl) ?_
  refine lv_iconst (v := 2) hx hb dL_law_773 (by decide) ?_
  refine lv_iadd hx hb dL_law_774 ?_
  refine va_sld hx hb hX hbl hbA hS (inb_in hi2) dL_law_775 ?_
  refine ro_V (As := [.int (xs (ix (x3 + 1))), .int (xs (ix (x3 + 2)))]) (rest := [.int r]) X hP2 hS hl.1 (c_X4_pillar l D cI cG q2 T _ F (xs (ix (x3 + 1))) (xs (ix (x3 + 2))) e2) lk_L_97 (rcL4 X hP2) ⟨by decide, by decide⟩ rfl rfl (Nat.le_of_ble_eq_true rfl) dL_law_776 ⟨Nat.le_of_ble_eq_true rfl, Nat.le_of_ble_eq_true rfl⟩ (fun locs hS => ?_)
  refine lv_icmp_eq (tgt := 896) hx hb dL_law_779 (by decide) (fun _ => ?_) (fun c9 => absurd rfl c9)
  exact k S T H locs hR hP1 hP2 hS
set_option maxHeartbeats 4000000 in
set_option maxRecDepth 100000 in
theorem law_20 {p : Program} {l : Launch} {e : Env} {s : State} {m : MethodId} {below : List Frame} {meth : Method} {c : Code} {D : va_G} {cI cG : ClassId} {b L : Nat} {xs : Nat → Int32} {q q2 : Nat → Nat} {a1 a2 : Nat} {Rel : St → St → Prop} {F : Nat} (hsp : sp_hangs F Rel) (X : Cx p s m #[Value.ref b] meth c cL_law 4 (some .boolean) RL D cI cG) (Fx : lawF s q q2 a1 a2) (hX : va_X b L xs s s.heap) (hbl : b < s.heap.size) {x3 : Int32} (hi1 : inb (x3 + 1) L = true) (hi2 : inb (x3 + 2) L = true) (hi3 : inb (x3 + 3) L = true) (hi4 : inb (x3 + 4) L = true) {S T : St} {H : Heap} {locs : List Loc} {ls : Array Slot} (hR : Rel S T) (hP1 : va_P D vwCl (wX cI cG q S) H) (hP2 : va_P D vwCl (wM cI cG q2 T) H) (hS : va_S (lawA s) s.heap H locs) (hl : lv_has ls 4 [(0, .ref b), (1, .ref (q 0)), (2, .ref (q2 0)), (3, .int x3)])
    (k : ∀ (S T : St) (H : Heap) (locs : List Loc), Rel S T → va_P D vwCl (wX cI cG q S) H → va_P D vwCl (wM cI cG q2 T) H → va_S (lawA s) s.heap H locs → W p l e room_1 s m #[Value.ref b] below meth c H locs 45 892 (lw_Z below #[Value.ref b] s) (F0 m 896 ls [])) : W p l e room_1 s m #[Value.ref b] below meth c H locs 45 892 (lw_Z below #[Value.ref b] s) (F0 m 784 ls []) := by
  have hx := X.1
  have hb := X.2.1
  have hbA : ¬ lawA s b := Nat.not_le.mpr hbl
  obtain ⟨r, T9, e1, e2, hR9⟩ := hsp S T (xs (ix (x3 + 1))) (xs (ix (x3 + 2))) (xs (ix (x3 + 3))) hR
  refine lv_aload_n hx hb dL_law_784 rfl (lv_at hl 1 rfl) ?_
  refine lv_aload_n hx hb dL_law_785 rfl (lv_at hl 0 rfl) ?_
  refine lv_iload_n hx hb dL_law_786 rfl (lv_at hl 3 rfl) ?_
  refine lv_iconst (v := 1) hx hb dL_law_787 (by decide) ?_
  refine lv_iadd hx hb dL_law_788 ?_
  refine va_sld hx hb hX hbl hbA hS (inb_in hi1) dL_law_789 ?_
  refine lv_aload_n hx hb dL_law_790 rfl (lv_at hl 0 rfl) ?_
  refine lv_iload_n hx hb dL_law_791 rfl (lv_at hl 3 rfl) ?_
  refine lv_iconst (v := 2) hx hb dL_law_792 (by decide) ?_
  refine lv_iadd hx hb dL_law_793 ?_
  refine va_sld hx hb hX hbl hbA hS (inb_in hi2) dL_law_794 ?_
  refine lv_aload_n hx hb dL_law_795 rfl (lv_at hl 0 rfl) ?_
  refine lv_iload_n hx hb dL_law_796 rfl (lv_at hl 3 rfl) ?_
  refine lv_iconst (v := 3) hx hb dL_law_797 (by decide) ?_
  refine lv_iadd hx hb dL_law_798 ?_
  refine va_sld hx hb hX hbl hbA hS (inb_in hi3) dL_law_799 ?_
  refine ro_V (As := [.int (xs (ix (x3 + 1))), .int (xs (ix (x3 + 2))), .int (xs (ix (x3 + 3)))]) (rest := []) X hP1 hS hl.1 (c_X3_hangs l D cI cG q S _ F (xs (ix (x3 + 1))) (xs (ix (x3 + 2))) (xs (ix (x3 + 3))) e1) lk_L_98 (rcL3 X hP1) ⟨by decide, by decide⟩ rfl rfl (Nat.le_of_ble_eq_true rfl) dL_law_800 ⟨Nat.le_of_ble_eq_true rfl, Nat.le_of_ble_eq_true rfl⟩ (fun locs hS => ?_)
  refine lv_aload_n hx hb dL_law_803 rfl (lv_at hl 2 rfl) ?_
  refine lv_aload_n hx hb dL_law_804 rfl (lv_at hl 0 rfl) ?_
  refine lv_iload_n hx hb dL_law_805 rfl (lv_at hl 3 rfl) ?_
  refine lv_iconst (v := 1) hx hb dL_law_806 (by decide) ?_
  refine lv_iadd hx hb dL_law_807 ?_
  refine va_sld hx hb hX hbl hbA hS (inb_in hi1) dL_law_808 ?_
  refine lv_aload_n hx hb dL_law_809 rfl (lv_at hl 0 rfl) ?_
  refine lv_iload_n hx hb dL_law_810 rfl (lv_at hl 3 rfl) ?_
  refine lv_iconst (v := 2) hx hb dL_law_811 (by decide) ?_
  refine lv_iadd hx hb dL_law_812 ?_
  refine va_sld hx hb hX hbl hbA hS (inb_in hi2) dL_law_813 ?_
  refine lv_aload_n hx hb dL_law_814 rfl (lv_at hl 0 rfl) ?_
  refine lv_iload_n hx hb dL_law_815 rfl (lv_at hl 3 rfl) ?_
  refine lv_iconst (v := 3) hx hb dL_law_816 (by decide) ?_
  refine lv_iadd hx hb dL_law_817 ?_
  refine va_sld hx hb hX hbl hbA hS (inb_in hi3) dL_law_818 ?_
  refine rw_VL (w := wM cI cG q2) (As := [.int (xs (ix (x3 + 1))), .int (xs (ix (x3 + 2))), .int (xs (ix (x3 + 3)))]) (rest := [.int r]) X hP2 hP1 Fx.nM Fx.aM hS hl.1 (c_X4_hangs l D cI cG q2 _ F (xs (ix (x3 + 1))) (xs (ix (x3 + 2))) (xs (ix (x3 + 3))) (dM Fx.2.1) e2) lk_L_101 (rcL4 X hP2) ⟨by decide, by decide⟩ rfl rfl (Nat.le_of_ble_eq_true rfl) dL_law_819 ⟨Nat.le_of_ble_eq_true rfl, Nat.le_of_ble_eq_true rfl⟩ (fun H locs hP2 hP1 hS => ?_)
  refine lv_icmp_eq (tgt := 896) hx hb dL_law_822 (by decide) (fun _ => ?_) (fun c9 => absurd rfl c9)
  exact k S T9 H locs hR9 hP1 hP2 hS
set_option maxHeartbeats 4000000 in
set_option maxRecDepth 100000 in
theorem law_21 {p : Program} {l : Launch} {e : Env} {s : State} {m : MethodId} {below : List Frame} {meth : Method} {c : Code} {D : va_G} {cI cG : ClassId} {b L : Nat} {xs : Nat → Int32} {q q2 : Nat → Nat} {a1 a2 : Nat} {Rel : St → St → Prop} {F : Nat} (hsp : sp_safe F Rel) (X : Cx p s m #[Value.ref b] meth c cL_law 4 (some .boolean) RL D cI cG) (Fx : lawF s q q2 a1 a2) (hX : va_X b L xs s s.heap) (hbl : b < s.heap.size) {x3 : Int32} (hi1 : inb (x3 + 1) L = true) (hi2 : inb (x3 + 2) L = true) (hi3 : inb (x3 + 3) L = true) (hi4 : inb (x3 + 4) L = true) {S T : St} {H : Heap} {locs : List Loc} {ls : Array Slot} (hR : Rel S T) (hP1 : va_P D vwCl (wX cI cG q S) H) (hP2 : va_P D vwCl (wM cI cG q2 T) H) (hS : va_S (lawA s) s.heap H locs) (hl : lv_has ls 4 [(0, .ref b), (1, .ref (q 0)), (2, .ref (q2 0)), (3, .int x3)])
    (k : ∀ (S T : St) (H : Heap) (locs : List Loc), Rel S T → va_P D vwCl (wX cI cG q S) H → va_P D vwCl (wM cI cG q2 T) H → va_S (lawA s) s.heap H locs → W p l e room_1 s m #[Value.ref b] below meth c H locs 45 892 (lw_Z below #[Value.ref b] s) (F0 m 896 ls [])) : W p l e room_1 s m #[Value.ref b] below meth c H locs 45 892 (lw_Z below #[Value.ref b] s) (F0 m 827 ls []) := by
  have hx := X.1
  have hb := X.2.1
  have hbA : ¬ lawA s b := Nat.not_le.mpr hbl
  obtain ⟨r, e1, e2⟩ := hsp S T (xs (ix (x3 + 1))) hR
  refine lv_aload_n hx hb dL_law_827 rfl (lv_at hl 1 rfl) ?_
  refine lv_aload_n hx hb dL_law_828 rfl (lv_at hl 0 rfl) ?_
  refine lv_iload_n hx hb dL_law_829 rfl (lv_at hl 3 rfl) ?_
  refine lv_iconst (v := 1) hx hb dL_law_830 (by decide) ?_
  refine lv_iadd hx hb dL_law_831 ?_
  refine va_sld hx hb hX hbl hbA hS (inb_in hi1) dL_law_832 ?_
  refine ro_V (As := [.int (xs (ix (x3 + 1)))]) (rest := []) X hP1 hS hl.1 (c_X3_safe l D cI cG q S _ F (xs (ix (x3 + 1))) e1) lk_L_102 (rcL3 X hP1) ⟨by decide, by decide⟩ rfl rfl (Nat.le_of_ble_eq_true rfl) dL_law_833 ⟨Nat.le_of_ble_eq_true rfl, Nat.le_of_ble_eq_true rfl⟩ (fun locs hS => ?_)
  refine lv_aload_n hx hb dL_law_836 rfl (lv_at hl 2 rfl) ?_
  refine lv_aload_n hx hb dL_law_837 rfl (lv_at hl 0 rfl) ?_
  refine lv_iload_n hx hb dL_law_838 rfl (lv_at hl 3 rfl) ?_
  refine lv_iconst (v := 1) hx hb dL_law_839 (by decide) ?_
  refine lv_iadd hx hb dL_law_840 ?_
  refine va_sld hx hb hX hbl hbA hS (inb_in hi1) dL_law_841 ?_
  refine ro_V (As := [.int (xs (ix (x3 + 1)))]) (rest := [.int r]) X hP2 hS hl.1 (c_X4_safe l D cI cG q2 T _ F (xs (ix (x3 + 1))) e2) lk_L_105 (rcL4 X hP2) ⟨by decide, by decide⟩ rfl rfl (Nat.le_of_ble_eq_true rfl) dL_law_842 ⟨Nat.le_of_ble_eq_true rfl, Nat.le_of_ble_eq_true rfl⟩ (fun locs hS => ?_)
  refine lv_icmp_eq (tgt := 896) hx hb dL_law_845 (by decide) (fun _ => ?_) (fun c9 => absurd rfl c9)
  exact k S T H locs hR hP1 hP2 hS
set_option maxHeartbeats 4000000 in
set_option maxRecDepth 100000 in
theorem law_22 {p : Program} {l : Launch} {e : Env} {s : State} {m : MethodId} {below : List Frame} {meth : Method} {c : Code} {D : va_G} {cI cG : ClassId} {b L : Nat} {xs : Nat → Int32} {q q2 : Nat → Nat} {a1 a2 : Nat} {Rel : St → St → Prop} {F : Nat} (hsp : sp_beside F Rel) (X : Cx p s m #[Value.ref b] meth c cL_law 4 (some .boolean) RL D cI cG) (Fx : lawF s q q2 a1 a2) (hX : va_X b L xs s s.heap) (hbl : b < s.heap.size) {x3 : Int32} (hi1 : inb (x3 + 1) L = true) (hi2 : inb (x3 + 2) L = true) (hi3 : inb (x3 + 3) L = true) (hi4 : inb (x3 + 4) L = true) {S T : St} {H : Heap} {locs : List Loc} {ls : Array Slot} (hR : Rel S T) (hP1 : va_P D vwCl (wX cI cG q S) H) (hP2 : va_P D vwCl (wM cI cG q2 T) H) (hS : va_S (lawA s) s.heap H locs) (hl : lv_has ls 4 [(0, .ref b), (1, .ref (q 0)), (2, .ref (q2 0)), (3, .int x3)])
    (k : ∀ (S T : St) (H : Heap) (locs : List Loc), Rel S T → va_P D vwCl (wX cI cG q S) H → va_P D vwCl (wM cI cG q2 T) H → va_S (lawA s) s.heap H locs → W p l e room_1 s m #[Value.ref b] below meth c H locs 45 892 (lw_Z below #[Value.ref b] s) (F0 m 896 ls [])) : W p l e room_1 s m #[Value.ref b] below meth c H locs 45 892 (lw_Z below #[Value.ref b] s) (F0 m 850 ls []) := by
  have hx := X.1
  have hb := X.2.1
  have hbA : ¬ lawA s b := Nat.not_le.mpr hbl
  obtain ⟨r, T9, e1, e2, hR9⟩ := hsp S T (xs (ix (x3 + 1))) hR
  refine lv_aload_n hx hb dL_law_850 rfl (lv_at hl 1 rfl) ?_
  refine lv_aload_n hx hb dL_law_851 rfl (lv_at hl 0 rfl) ?_
  refine lv_iload_n hx hb dL_law_852 rfl (lv_at hl 3 rfl) ?_
  refine lv_iconst (v := 1) hx hb dL_law_853 (by decide) ?_
  refine lv_iadd hx hb dL_law_854 ?_
  refine va_sld hx hb hX hbl hbA hS (inb_in hi1) dL_law_855 ?_
  refine ro_V (As := [.int (xs (ix (x3 + 1)))]) (rest := []) X hP1 hS hl.1 (c_X3_beside l D cI cG q S _ F (xs (ix (x3 + 1))) e1) lk_L_106 (rcL3 X hP1) ⟨by decide, by decide⟩ rfl rfl (Nat.le_of_ble_eq_true rfl) dL_law_856 ⟨Nat.le_of_ble_eq_true rfl, Nat.le_of_ble_eq_true rfl⟩ (fun locs hS => ?_)
  refine lv_aload_n hx hb dL_law_859 rfl (lv_at hl 2 rfl) ?_
  refine lv_aload_n hx hb dL_law_860 rfl (lv_at hl 0 rfl) ?_
  refine lv_iload_n hx hb dL_law_861 rfl (lv_at hl 3 rfl) ?_
  refine lv_iconst (v := 1) hx hb dL_law_862 (by decide) ?_
  refine lv_iadd hx hb dL_law_863 ?_
  refine va_sld hx hb hX hbl hbA hS (inb_in hi1) dL_law_864 ?_
  refine rw_VL (w := wM cI cG q2) (As := [.int (xs (ix (x3 + 1)))]) (rest := [.int r]) X hP2 hP1 Fx.nM Fx.aM hS hl.1 (c_X4_beside l D cI cG q2 _ F (xs (ix (x3 + 1))) (dM Fx.2.1) e2) lk_L_109 (rcL4 X hP2) ⟨by decide, by decide⟩ rfl rfl (Nat.le_of_ble_eq_true rfl) dL_law_865 ⟨Nat.le_of_ble_eq_true rfl, Nat.le_of_ble_eq_true rfl⟩ (fun H locs hP2 hP1 hS => ?_)
  refine lv_icmp_eq (tgt := 896) hx hb dL_law_868 (by decide) (fun _ => ?_) (fun c9 => absurd rfl c9)
  exact k S T9 H locs hR9 hP1 hP2 hS
set_option maxHeartbeats 4000000 in
set_option maxRecDepth 100000 in
theorem law_23 {p : Program} {l : Launch} {e : Env} {s : State} {m : MethodId} {below : List Frame} {meth : Method} {c : Code} {D : va_G} {cI cG : ClassId} {b L : Nat} {xs : Nat → Int32} {q q2 : Nat → Nat} {a1 a2 : Nat} {Rel : St → St → Prop} {F : Nat} (hsp : sp_told F Rel) (X : Cx p s m #[Value.ref b] meth c cL_law 4 (some .boolean) RL D cI cG) (Fx : lawF s q q2 a1 a2) (hX : va_X b L xs s s.heap) (hbl : b < s.heap.size) {x3 : Int32} (hi1 : inb (x3 + 1) L = true) (hi2 : inb (x3 + 2) L = true) (hi3 : inb (x3 + 3) L = true) (hi4 : inb (x3 + 4) L = true) {S T : St} {H : Heap} {locs : List Loc} {ls : Array Slot} (hR : Rel S T) (hP1 : va_P D vwCl (wX cI cG q S) H) (hP2 : va_P D vwCl (wM cI cG q2 T) H) (hS : va_S (lawA s) s.heap H locs) (hl : lv_has ls 4 [(0, .ref b), (1, .ref (q 0)), (2, .ref (q2 0)), (3, .int x3)])
    (k : ∀ (S T : St) (H : Heap) (locs : List Loc), Rel S T → va_P D vwCl (wX cI cG q S) H → va_P D vwCl (wM cI cG q2 T) H → va_S (lawA s) s.heap H locs → W p l e room_1 s m #[Value.ref b] below meth c H locs 45 892 (lw_Z below #[Value.ref b] s) (F0 m 896 ls [])) : W p l e room_1 s m #[Value.ref b] below meth c H locs 45 892 (lw_Z below #[Value.ref b] s) (F0 m 873 ls []) := by
  have hx := X.1
  have hb := X.2.1
  have hbA : ¬ lawA s b := Nat.not_le.mpr hbl
  obtain ⟨r, e1, e2⟩ := hsp S T (xs (ix (x3 + 1))) hR
  refine lv_aload_n hx hb dL_law_873 rfl (lv_at hl 1 rfl) ?_
  refine lv_aload_n hx hb dL_law_874 rfl (lv_at hl 0 rfl) ?_
  refine lv_iload_n hx hb dL_law_875 rfl (lv_at hl 3 rfl) ?_
  refine lv_iconst (v := 1) hx hb dL_law_876 (by decide) ?_
  refine lv_iadd hx hb dL_law_877 ?_
  refine va_sld hx hb hX hbl hbA hS (inb_in hi1) dL_law_878 ?_
  refine ro_V (As := [.int (xs (ix (x3 + 1)))]) (rest := []) X hP1 hS hl.1 (c_X3_told l D cI cG q S _ (xs (ix (x3 + 1))) e1) lk_L_110 (rcL3 X hP1) ⟨by decide, by decide⟩ rfl rfl (Nat.le_of_ble_eq_true rfl) dL_law_879 ⟨Nat.le_of_ble_eq_true rfl, Nat.le_of_ble_eq_true rfl⟩ (fun locs hS => ?_)
  refine lv_aload_n hx hb dL_law_882 rfl (lv_at hl 2 rfl) ?_
  refine lv_aload_n hx hb dL_law_883 rfl (lv_at hl 0 rfl) ?_
  refine lv_iload_n hx hb dL_law_884 rfl (lv_at hl 3 rfl) ?_
  refine lv_iconst (v := 1) hx hb dL_law_885 (by decide) ?_
  refine lv_iadd hx hb dL_law_886 ?_
  refine va_sld hx hb hX hbl hbA hS (inb_in hi1) dL_law_887 ?_
  refine ro_V (As := [.int (xs (ix (x3 + 1)))]) (rest := [.int r]) X hP2 hS hl.1 (c_X4_told l D cI cG q2 T _ (xs (ix (x3 + 1))) e2) lk_L_113 (rcL4 X hP2) ⟨by decide, by decide⟩ rfl rfl (Nat.le_of_ble_eq_true rfl) dL_law_888 ⟨Nat.le_of_ble_eq_true rfl, Nat.le_of_ble_eq_true rfl⟩ (fun locs hS => ?_)
  refine lv_icmp_eq (tgt := 896) hx hb dL_law_891 (by decide) (fun _ => ?_) (fun c9 => absurd rfl c9)
  exact k S T H locs hR hP1 hP2 hS
theorem l5_gt {i L : Nat} (h : L < i + 5) (hL : i + L < 10000) : Int32.ofNat L - 5 < nI i := by
  rw [Int32.lt_iff_toInt_lt, nI_toInt (by omega)]
  have h1 := pk_sub_toInt (a := L) (b := 5) (by omega) (by omega)
  have h2 : (Int32.ofNat L - 5).toInt = (L : Int) - 5 := h1
  rw [h2]
  omega
theorem x3_in {i L : Nat} (h : i + 5 ≤ L) (hL : L ≤ 2560) : inb (nI i) L = true ∧ inb (nI i + 1) L = true ∧ inb (nI i + 2) L = true ∧ inb (nI i + 3) L = true ∧ inb (nI i + 4) L = true := by
  have e : ∀ j, j < 5 → inb (nI i + nI j) L = true := fun j hj => by
    rw [nI_add]
    exact decide_eq_true (vp_in_nI (show i + j < L by omega) (by omega))
  exact ⟨by have := e 0 (by omega); rwa [nI_add] at this, e 1 (by omega), e 2 (by omega), e 3 (by omega), e 4 (by omega)⟩

set_option maxHeartbeats 4000000 in
set_option maxRecDepth 100000 in
theorem law_loop {p : Program} {l : Launch} {e : Env} {s : State} {m : MethodId} {below : List Frame} {meth : Method} {c : Code} {D : va_G} {cI cG : ClassId} {b L : Nat} {xs : Nat → Int32} {q q2 : Nat → Nat} {a1 a2 : Nat} {Rel : St → St → Prop} {F : Nat} (hsp : Sp F Rel) (X : Cx p s m #[Value.ref b] meth c cL_law 4 (some .boolean) RL D cI cG) (hr : meth.sig.returnType = ret) (Fx : lawF s q q2 a1 a2) (hX : va_X b L xs s s.heap) (hbl : b < s.heap.size) (hL : L ≤ 2560) : ∀ (n i : Nat) (x3 : Int32) (S T : St) (H : Heap) (locs : List Loc) (ls : Array Slot), x3 = nI i → L < i + n → i ≤ L + 5 → Rel S T → va_P D vwCl (wX cI cG q S) H → va_P D vwCl (wM cI cG q2 T) H → va_S (lawA s) s.heap H locs → lv_has ls 4 [(0, .ref b), (1, .ref (q 0)), (2, .ref (q2 0)), (3, .int x3)] → W p l e room_1 s m #[Value.ref b] below meth c H locs 45 892 (lw_Z below #[Value.ref b] s) (F0 m 18 ls []) := by
  have hx := X.1
  have hb := X.2.1
  have hlocks : meth.locks = false := X.2.2.2.2.1
  have hbA : ¬ lawA s b := Nat.not_le.mpr hbl
  obtain ⟨z0, z1, z2, z3, z4, z5, z6, z7, z8, z9, z10, z11, z12, z13, z14, z15, z16, z17, z18, z19, z20, z21, z22, z23⟩ := hsp
  intro n
  induction n with
  | zero =>
    intro i x3 S T H locs ls ex h1 h2 hR hP1 hP2 hS hl
    refine lv_iload_n hx hb dL_law_18 rfl (lv_at hl 3 rfl) ?_
    refine lv_aload_n hx hb dL_law_19 rfl (lv_at hl 0 rfl) ?_
    refine va_slen hx hb hX hbl hbA hS dL_law_20 ?_
    refine lv_iconst (v := 5) hx hb dL_law_21 (by decide) ?_
    refine lv_isub hx hb dL_law_22 ?_
    refine lv_icmp_gt (tgt := 902) hx hb dL_law_23 (by decide) (fun c1 => ?_) (fun c1 => absurd (by rw [ex]; exact l5_gt (by omega) (by omega)) c1)
    refine lv_iconst (v := 1) hx hb dL_law_902 (by decide) ?_
    refine va_forget (fun q hq => hS.2.2 q hq) ?_
    refine W.widen (k := 600000) (n := 7302250) (by omega) (by omega) ?_
    exact lw_ret hx hb hr hlocks dL_law_903
  | succ n ih =>
    intro i x3 S T H locs ls ex h1 h2 hR hP1 hP2 hS hl
    refine lv_iload_n hx hb dL_law_18 rfl (lv_at hl 3 rfl) ?_
    refine lv_aload_n hx hb dL_law_19 rfl (lv_at hl 0 rfl) ?_
    refine va_slen hx hb hX hbl hbA hS dL_law_20 ?_
    refine lv_iconst (v := 5) hx hb dL_law_21 (by decide) ?_
    refine lv_isub hx hb dL_law_22 ?_
    refine lv_icmp_gt (tgt := 902) hx hb dL_law_23 (by decide) (fun c1 => ?_) (fun c1 => ?_)
    · refine lv_iconst (v := 1) hx hb dL_law_902 (by decide) ?_
      refine va_forget (fun q hq => hS.2.2 q hq) ?_
      refine W.widen (k := 600000) (n := 7302250) (by omega) (by omega) ?_
      exact lw_ret hx hb hr hlocks dL_law_903
    · have hle : i + 5 ≤ L := by
        rcases Nat.lt_or_ge L (i + 5) with g | g
        · exact absurd (by rw [ex]; exact l5_gt g (by omega)) c1
        · exact g
      obtain ⟨hi0, hi1, hi2, hi3, hi4⟩ := x3_in hle hL
      rw [← ex] at hi0 hi1 hi2 hi3 hi4
      have kk : ∀ (S T : St) (H : Heap) (locs : List Loc), Rel S T → va_P D vwCl (wX cI cG q S) H → va_P D vwCl (wM cI cG q2 T) H → va_S (lawA s) s.heap H locs → W p l e room_1 s m #[Value.ref b] below meth c H locs 45 892 (lw_Z below #[Value.ref b] s) (F0 m 896 ls []) := by
        intro S T H locs hR hP1 hP2 hS
        obtain ⟨v8, ev8⟩ : ∃ y : Int32, y = x3 + 5 := ⟨_, rfl⟩
        refine lv_iinc (v := v8) (lv' := [(3, .int v8), (0, .ref b), (1, .ref (q 0)), (2, .ref (q2 0))]) hx hb dL_law_896 hl (k := 3) rfl (by rw [ev8]; rfl) (by decide) rfl (fun ls hl => ?_)
        refine lv_goto (tgt := 18) hx hb dL_law_899 (by decide) ?_
        exact ih (i + 5) v8 S T H locs ls (by rw [ev8, ex]; exact nI_add i 5) (by omega) (by omega) hR hP1 hP2 hS (lv_sub hl [1, 2, 3, 0] rfl)
      refine lv_aload_n hx hb dL_law_26 rfl (lv_at hl 0 rfl) ?_
      refine lv_iload_n hx hb dL_law_27 rfl (lv_at hl 3 rfl) ?_
      refine va_sld hx hb hX hbl hbA hS (inb_in hi0) dL_law_28 ?_
      refine lv_bipush (v := 31) hx hb dL_law_29 (by decide) ?_
      refine lv_iand hx hb dL_law_31 ?_
      refine lv_topi (fun v ev => ?_)
      by_cases c2 : v = 0
      · refine lv_tableIn (off := 112) (tgt := 144) hx hb dL_law_32 (by rw [c2]; decide) (by rw [c2]; decide) (by rw [c2]; rfl) (by decide) ?_
        exact law_0 z0 X Fx hX hbl hi1 hi2 hi3 hi4 hR hP1 hP2 hS hl kk
      by_cases c3 : v = 1
      · refine lv_tableIn (off := 165) (tgt := 197) hx hb dL_law_32 (by rw [c3]; decide) (by rw [c3]; decide) (by rw [c3]; rfl) (by decide) ?_
        exact law_1 z1 X Fx hX hbl hi1 hi2 hi3 hi4 hR hP1 hP2 hS hl kk
      by_cases c4 : v = 2
      · refine lv_tableIn (off := 208) (tgt := 240) hx hb dL_law_32 (by rw [c4]; decide) (by rw [c4]; decide) (by rw [c4]; rfl) (by decide) ?_
        exact law_2 z2 X Fx hX hbl hi1 hi2 hi3 hi4 hR hP1 hP2 hS hl kk
      by_cases c5 : v = 3
      · refine lv_tableIn (off := 241) (tgt := 273) hx hb dL_law_32 (by rw [c5]; decide) (by rw [c5]; decide) (by rw [c5]; rfl) (by decide) ?_
        exact law_3 z3 X Fx hX hbl hi1 hi2 hi3 hi4 hR hP1 hP2 hS hl kk
      by_cases c6 : v = 4
      · refine lv_tableIn (off := 264) (tgt := 296) hx hb dL_law_32 (by rw [c6]; decide) (by rw [c6]; decide) (by rw [c6]; rfl) (by decide) ?_
        exact law_4 z4 X Fx hX hbl hi1 hi2 hi3 hi4 hR hP1 hP2 hS hl kk
      by_cases c7 : v = 5
      · refine lv_tableIn (off := 277) (tgt := 309) hx hb dL_law_32 (by rw [c7]; decide) (by rw [c7]; decide) (by rw [c7]; rfl) (by decide) ?_
        exact law_5 z5 X Fx hX hbl hi1 hi2 hi3 hi4 hR hP1 hP2 hS hl kk
      by_cases c8 : v = 6
      · refine lv_tableIn (off := 290) (tgt := 322) hx hb dL_law_32 (by rw [c8]; decide) (by rw [c8]; decide) (by rw [c8]; rfl) (by decide) ?_
        exact law_6 z6 X Fx hX hbl hi1 hi2 hi3 hi4 hR hP1 hP2 hS hl kk
      by_cases c9 : v = 7
      · refine lv_tableIn (off := 313) (tgt := 345) hx hb dL_law_32 (by rw [c9]; decide) (by rw [c9]; decide) (by rw [c9]; rfl) (by decide) ?_
        exact law_7 z7 X Fx hX hbl hi1 hi2 hi3 hi4 hR hP1 hP2 hS hl kk
      by_cases c10 : v = 8
      · refine lv_tableIn (off := 336) (tgt := 368) hx hb dL_law_32 (by rw [c10]; decide) (by rw [c10]; decide) (by rw [c10]; rfl) (by decide) ?_
        exact law_8 z8 X Fx hX hbl hi1 hi2 hi3 hi4 hR hP1 hP2 hS hl kk
      by_cases c11 : v = 9
      · refine lv_tableIn (off := 379) (tgt := 411) hx hb dL_law_32 (by rw [c11]; decide) (by rw [c11]; decide) (by rw [c11]; rfl) (by decide) ?_
        exact law_9 z9 X Fx hX hbl hi1 hi2 hi3 hi4 hR hP1 hP2 hS hl kk
      by_cases c12 : v = 10
      · refine lv_tableIn (off := 402) (tgt := 434) hx hb dL_law_32 (by rw [c12]; decide) (by rw [c12]; decide) (by rw [c12]; rfl) (by decide) ?_
        exact law_10 z10 X Fx hX hbl hi1 hi2 hi3 hi4 hR hP1 hP2 hS hl kk
      by_cases c13 : v = 11
      · refine lv_tableIn (off := 415) (tgt := 447) hx hb dL_law_32 (by rw [c13]; decide) (by rw [c13]; decide) (by rw [c13]; rfl) (by decide) ?_
        exact law_11 z11 X Fx hX hbl hi1 hi2 hi3 hi4 hR hP1 hP2 hS hl kk
      by_cases c14 : v = 12
      · refine lv_tableIn (off := 448) (tgt := 480) hx hb dL_law_32 (by rw [c14]; decide) (by rw [c14]; decide) (by rw [c14]; rfl) (by decide) ?_
        exact law_12 z12 X Fx hX hbl hi1 hi2 hi3 hi4 hR hP1 hP2 hS hl kk
      by_cases c15 : v = 13
      · refine lv_tableIn (off := 481) (tgt := 513) hx hb dL_law_32 (by rw [c15]; decide) (by rw [c15]; decide) (by rw [c15]; rfl) (by decide) ?_
        exact law_13 z13 X Fx hX hbl hi1 hi2 hi3 hi4 hR hP1 hP2 hS hl kk
      by_cases c16 : v = 14
      · refine lv_tableIn (off := 504) (tgt := 536) hx hb dL_law_32 (by rw [c16]; decide) (by rw [c16]; decide) (by rw [c16]; rfl) (by decide) ?_
        exact law_14 z14 X Fx hX hbl hi1 hi2 hi3 hi4 hR hP1 hP2 hS hl kk
      by_cases c17 : v = 15
      · refine lv_tableIn (off := 557) (tgt := 589) hx hb dL_law_32 (by rw [c17]; decide) (by rw [c17]; decide) (by rw [c17]; rfl) (by decide) ?_
        exact law_15 z15 X Fx hX hbl hi1 hi2 hi3 hi4 hR hP1 hP2 hS hl kk
      by_cases c18 : v = 16
      · refine lv_tableIn (off := 610) (tgt := 642) hx hb dL_law_32 (by rw [c18]; decide) (by rw [c18]; decide) (by rw [c18]; rfl) (by decide) ?_
        exact law_16 z16 X Fx hX hbl hi1 hi2 hi3 hi4 hR hP1 hP2 hS hl kk
      by_cases c19 : v = 17
      · refine lv_tableIn (off := 643) (tgt := 675) hx hb dL_law_32 (by rw [c19]; decide) (by rw [c19]; decide) (by rw [c19]; rfl) (by decide) ?_
        exact law_17 z17 X Fx hX hbl hi1 hi2 hi3 hi4 hR hP1 hP2 hS hl kk
      by_cases c20 : v = 18
      · refine lv_tableIn (off := 676) (tgt := 708) hx hb dL_law_32 (by rw [c20]; decide) (by rw [c20]; decide) (by rw [c20]; rfl) (by decide) ?_
        exact law_18 z18 X Fx hX hbl hi1 hi2 hi3 hi4 hR hP1 hP2 hS hl kk
      by_cases c21 : v = 19
      · refine lv_tableIn (off := 719) (tgt := 751) hx hb dL_law_32 (by rw [c21]; decide) (by rw [c21]; decide) (by rw [c21]; rfl) (by decide) ?_
        exact law_19 z19 X Fx hX hbl hi1 hi2 hi3 hi4 hR hP1 hP2 hS hl kk
      by_cases c22 : v = 20
      · refine lv_tableIn (off := 752) (tgt := 784) hx hb dL_law_32 (by rw [c22]; decide) (by rw [c22]; decide) (by rw [c22]; rfl) (by decide) ?_
        exact law_20 z20 X Fx hX hbl hi1 hi2 hi3 hi4 hR hP1 hP2 hS hl kk
      by_cases c23 : v = 21
      · refine lv_tableIn (off := 795) (tgt := 827) hx hb dL_law_32 (by rw [c23]; decide) (by rw [c23]; decide) (by rw [c23]; rfl) (by decide) ?_
        exact law_21 z21 X Fx hX hbl hi1 hi2 hi3 hi4 hR hP1 hP2 hS hl kk
      by_cases c24 : v = 22
      · refine lv_tableIn (off := 818) (tgt := 850) hx hb dL_law_32 (by rw [c24]; decide) (by rw [c24]; decide) (by rw [c24]; rfl) (by decide) ?_
        exact law_22 z22 X Fx hX hbl hi1 hi2 hi3 hi4 hR hP1 hP2 hS hl kk
      by_cases c25 : v = 23
      · refine lv_tableIn (off := 841) (tgt := 873) hx hb dL_law_32 (by rw [c25]; decide) (by rw [c25]; decide) (by rw [c25]; rfl) (by decide) ?_
        exact law_23 z23 X Fx hX hbl hi1 hi2 hi3 hi4 hR hP1 hP2 hS hl kk
      refine lv_tableOut (tgt := 896) hx hb dL_law_32 (ts_out (n := 24) (by decide) (ts_cons (ts_cons (ts_cons (ts_cons (ts_cons (ts_cons (ts_cons (ts_cons (ts_cons (ts_cons (ts_cons (ts_cons (ts_cons (ts_cons (ts_cons (ts_cons (ts_cons (ts_cons (ts_cons (ts_cons (ts_cons (ts_cons (ts_cons (ts_cons ts_nil c2) c3) c4) c5) c6) c7) c8) c9) c10) c11) c12) c13) c14) c15) c16) c17) c18) c19) c20) c21) c22) c23) c24) c25) rfl) (by decide) ?_
      exact kk S T H locs hR hP1 hP2 hS
