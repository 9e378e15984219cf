/-! methods that write: rows -/
def up (S : St) (k j : Nat) (v : Int32) : St := fun a => if a = k then upd (S k) j v else S a
def set1 : Nat → Int32 := fun j => match j with
  | 2 => -1
  | _ => 0
def set2 : Nat → Int32 := fun j => match j with
  | 0 => 4
  | 3 => 1
  | _ => 99
def AX (q : Nat → Nat) : Nat → Prop := fun a => ∃ k, k < 31 ∧ a = q k
def AM (q : Nat → Nat) : Nat → Prop := fun a => ∃ k, k < 14 ∧ a = q k
theorem wX_fst {cI cG : ClassId} {q : Nat → Nat} {S : St} {i : Nat} {p : Nat × va_E} (h : (wX cI cG q S)[i]? = some p) : i < 31 ∧ p.1 = q i := by
  have h1 : ((wX cI cG q S).map Prod.fst)[i]? = some p.1 := by rw [List.getElem?_map, h]; rfl
  have h2 : (wX cI cG q S).map Prod.fst = (List.range 31).map q := rfl
  rw [h2, List.getElem?_map] at h1
  have hi : i < 31 := (List.getElem?_eq_some_iff.mp h).1
  rw [List.getElem?_range hi] at h1
  exact ⟨hi, (Option.some.inj h1).symm⟩
theorem wM_fst {cI cG : ClassId} {q : Nat → Nat} {S : St} {i : Nat} {p : Nat × va_E} (h : (wM cI cG q S)[i]? = some p) : i < 14 ∧ p.1 = q i := by
  have h1 : ((wM cI cG q S).map Prod.fst)[i]? = some p.1 := by rw [List.getElem?_map, h]; rfl
  have h2 : (wM cI cG q S).map Prod.fst = (List.range 14).map q := rfl
  rw [h2, List.getElem?_map] at h1
  have hi : i < 14 := (List.getElem?_eq_some_iff.mp h).1
  rw [List.getElem?_range hi] at h1
  exact ⟨hi, (Option.some.inj h1).symm⟩
theorem dX {cI cG : ClassId} {q : Nat → Nat} (hq : ∀ i j, i < 31 → j < 31 → q i = q j → i = j) (S : St) : va_D (AX q) (wX cI cG q S) := by
  refine ⟨fun i j p r hi hj e => ?_, fun k p hk => ?_⟩
  · obtain ⟨h1, h2⟩ := wX_fst hi
    obtain ⟨h3, h4⟩ := wX_fst hj
    exact hq i j h1 h3 (by rw [← h2, ← h4]; exact e)
  · obtain ⟨h1, h2⟩ := wX_fst hk
    exact ⟨k, h1, h2⟩
theorem dM {cI cG : ClassId} {q : Nat → Nat} (hq : ∀ i j, i < 14 → j < 14 → q i = q j → i = j) (S : St) : va_D (AM q) (wM cI cG q S) := by
  refine ⟨fun i j p r hi hj e => ?_, fun k p hk => ?_⟩
  · obtain ⟨h1, h2⟩ := wM_fst hi
    obtain ⟨h3, h4⟩ := wM_fst hj
    exact hq i j h1 h3 (by rw [← h2, ← h4]; exact e)
  · obtain ⟨h1, h2⟩ := wM_fst hk
    exact ⟨k, h1, h2⟩
abbrev rwQ (w : St → va_W) (D : va_G) (A : Nat → Prop) (r : Int32) (S9 : St) : Array Value → State → Outcome → State → Prop := va_Qi (fun (r' : Int32) (u : St) => r' = r ∧ u = S9) (fun u t => va_P D vwCl (w u) t.heap) A
abbrev rwQv (w : St → va_W) (D : va_G) (A : Nat → Prop) (S9 : St) : Array Value → State → Outcome → State → Prop := va_Qv (fun (u : St) => u = S9) (fun u t => va_P D vwCl (w u) t.heap) A
def RwM (l : Launch) (y : MethodName) (b : ByteArray) (n : Nat) (ret : Option FieldType) (fr lo : Nat) (av : List Value) (D : va_G) (cI cG : ClassId) (w : St → va_W) (A : Nat → Prop) (S : St) (H : Heap) (r : Int32) (S9 : St) : Prop :=
  Met l y (wd y b n ret) { frames := fr, cells := 0, slots := 0, locals := lo } (va_Pc av (roP D cI cG (w S) H)) (rwQ w D A r S9) 0 0 A
def RwMv (l : Launch) (y : MethodName) (b : ByteArray) (n : Nat) (ret : Option FieldType) (fr lo : Nat) (av : List Value) (D : va_G) (cI cG : ClassId) (w : St → va_W) (A : Nat → Prop) (S : St) (H : Heap) (_ : Int32) (S9 : St) : Prop :=
  Met l y (wd y b n ret) { frames := fr, cells := 0, slots := 0, locals := lo } (va_Pc av (roP D cI cG (w S) H)) (rwQv w D A S9) 0 0 A
/-- the two static tables that set reads -/
def stt (a1 a2 : Nat) (A : Nat → Prop) (U : State) (H : Heap) : Prop := (va_Z "FallWith" "LEAST_SETTING" "[I" (.ref a1) A U H ∧ va_T .int a1 4 (fun j => .int (set1 j)) A U H) ∧ (va_Z "FallWith" "GREATEST_SETTING" "[I" (.ref a2) A U H ∧ va_T .int a2 4 (fun j => .int (set2 j)) A U H)
theorem stt.moved {a1 a2 : Nat} {A : Nat → Prop} {u U : State} {H : Heap} (hvm : u.vm.Alike U.vm) (h : stt a1 a2 A u H) : stt a1 a2 A U H := ⟨⟨h.1.1.moved hvm, h.1.2.moved hvm⟩, ⟨h.2.1.moved hvm, h.2.2.moved hvm⟩⟩
theorem stt.kept {a1 a2 : Nat} {A : Nat → Prop} {U : State} {H H1 : Heap} (h : stt a1 a2 A U H) (hq : ∀ a : Nat, a < H.size → ¬ A a → H1[a]? = H[a]?) : stt a1 a2 A U H1 := ⟨⟨h.1.1.kept hq, h.1.2.kept hq⟩, ⟨h.2.1.kept hq, h.2.2.kept hq⟩⟩
theorem stt.narrow {a1 a2 : Nat} {A B : Nat → Prop} {U : State} {H : Heap} (h : stt a1 a2 A U H) (hAB : ∀ q, B q → A q) : stt a1 a2 B U H := ⟨⟨h.1.1.narrow hAB, h.1.2.narrow hAB⟩, ⟨h.2.1.narrow hAB, h.2.2.narrow hAB⟩⟩
def RwMs (l : Launch) (y : MethodName) (b : ByteArray) (n : Nat) (ret : Option FieldType) (fr lo : Nat) (av : List Value) (D : va_G) (cI cG : ClassId) (w : St → va_W) (A : Nat → Prop) (a1 a2 : Nat) (S : St) (H : Heap) (r : Int32) (S9 : St) : Prop :=
  Met l y (wd y b n ret) { frames := fr, cells := 0, slots := 0, locals := lo } (va_Pc av (fun U => roP D cI cG (w S) H U ∧ stt a1 a2 A U U.heap)) (rwQ w D A r S9) 0 0 A
section RWR
variable {p : Program} {l : Launch} {e : Env} {R : Room} {s : State} {m : MethodId} {args : Array Value} {below : List Frame} {meth : Method} {c : Code} {H : Heap} {locs : List Loc} {cells slots : Nat} {Q : State → Prop}
variable {cc : ByteArray} {nL : Nat} {own : String} {D : va_G} {cI cG : ClassId} {w : St → va_W} {S S9 : St} {A A0 : Nat → Prop} {H0 : Heap} {pc : Nat} {ls : Array Slot} {rest st0 : List Value}
theorem rw_V {ret rt : Option FieldType} {index : Nat} {C : String} {y : MethodName} {bytes : ByteArray} {maxL n fr lo : Nat} {b : Nat} {As : List Value} {r : Int32} (X : Cx p s m args meth c cc nL rt own D cI cG) (hP : va_P D vwCl (w S) H) (hAA : ∀ a, A a → A0 a) (hS : va_S A0 H0 H locs) (hl : ls.size = nL)
    (hM : RwM l y bytes maxL ret fr lo (.ref b :: As) D cI cG w A S H r S9) (hw : LinkV own index C y bytes maxL ret n) (hrec : ∃ cellB : Cell, H[b]? = some cellB ∧ cellB.vm.isStatics = false ∧ s.vm.findClass C = some cellB.cls)
    (hR : fr + 1 ≤ R.frames ∧ 8 + (maxL + 11) + lo ≤ R.locals) (hst : st0 = As.reverse ++ .ref b :: rest) (hn : As.length = n) (hr : (rest.map fun v => v.category).sum ≤ 8) (hdg : decode cc pc = .ok (.invokevirtual index, 3)) (hcs : cells + 0 ≤ R.cells ∧ slots + 0 ≤ R.slots)
    (k : ∀ (H1 : Heap) (locs1 : List Loc), va_P D vwCl (w S9) H1 → va_S A0 H0 H1 locs1 → W p l e R s m args below meth c H1 locs1 cells slots Q (F0 m (pc + 3) ls (.int r :: rest))) : W p l e R s m args below meth c H locs cells slots Q (F0 m pc ls st0) := by
  obtain ⟨hx, hb, hml, -, -, hown, hts, hk⟩ := X
  refine va_calli (va_runV (As := As) (rest := rest) (Ts := tbG) ⟨hx, hb, hml, hown, hts⟩ hM (cwV n hts hw.1 rfl rfl rfl hw.2 hR) ⟨roP_blind, hrec, roP_warm hP hk⟩ rfl hn hl hst (lv_room hr) hdg hcs) hS (fun q _ h => hAA q h) hAA (fun r1 u t H1 locs1 ht hvm hw1 hB hz1 hk1 hS1 => ?_)
  obtain ⟨e1, e2⟩ := hw1
  subst e1; subst e2
  rw [ht] at hB
  exact k H1 locs1 hB hS1
theorem rw_Vv {ret rt : Option FieldType} {index : Nat} {C : String} {y : MethodName} {bytes : ByteArray} {maxL n fr lo : Nat} {b : Nat} {As : List Value} {r : Int32} (X : Cx p s m args meth c cc nL rt own D cI cG) (hP : va_P D vwCl (w S) H) (hAA : ∀ a, A a → A0 a) (hS : va_S A0 H0 H locs) (hl : ls.size = nL)
    (hM : RwMv l y bytes maxL ret fr lo (.ref b :: As) D cI cG w A S H r S9) (hw : LinkV own index C y bytes maxL ret n) (hrec : ∃ cellB : Cell, H[b]? = some cellB ∧ cellB.vm.isStatics = false ∧ s.vm.findClass C = some cellB.cls)
    (hR : fr + 1 ≤ R.frames ∧ 8 + (maxL + 11) + lo ≤ R.locals) (hst : st0 = As.reverse ++ .ref b :: rest) (hn : As.length = n) (hr : (rest.map fun v => v.category).sum ≤ 8) (hdg : decode cc pc = .ok (.invokevirtual index, 3)) (hcs : cells + 0 ≤ R.cells ∧ slots + 0 ≤ R.slots)
    (k : ∀ (H1 : Heap) (locs1 : List Loc), va_P D vwCl (w S9) H1 → va_S A0 H0 H1 locs1 → W p l e R s m args below meth c H1 locs1 cells slots Q (F0 m (pc + 3) ls rest)) : W p l e R s m args below meth c H locs cells slots Q (F0 m pc ls st0) := by
  obtain ⟨hx, hb, hml, -, -, hown, hts, hk⟩ := X
  refine va_callv (va_runV (As := As) (rest := rest) (Ts := tbG) ⟨hx, hb, hml, hown, hts⟩ hM (cwV n hts hw.1 rfl rfl rfl hw.2 hR) ⟨roP_blind, hrec, roP_warm hP hk⟩ rfl hn hl hst (lv_room hr) hdg hcs) hS (fun q _ h => hAA q h) hAA (fun u t H1 locs1 ht hvm hw1 hB hz1 hk1 hS1 => ?_)
  subst hw1
  rw [ht] at hB
  exact k H1 locs1 hB hS1
theorem rw_ast {ret : Option FieldType} (X : Cx p s m args meth c cc nL ret own D cI cG) (hP : va_P D vwCl (w S) H) (hD : va_D A (w S)) (hS : va_S A H0 H locs) (k : Nat) {a n : Nat} (ha : (w S)[k]? = some (a, .inl (cI, n, .inl (S k)))) {i x : Int32} (hs : (w S).set k (a, .inl (cI, n, .inl (upd (S k) (ix i) x))) = w (up S k (ix i) x)) (hin : inb i n = true) (hdg : decode cc pc = .ok (.iastore, 1))
    (kk : ∀ (H1 : Heap) (locs1 : List Loc), va_P D vwCl (w (up S k (ix i) x)) H1 → va_S A H0 H1 locs1 → W p l e R s m args below meth c H1 locs1 cells slots Q (F0 m (pc + 1) ls rest)) : W p l e R s m args below meth c H locs cells slots Q (F0 m pc ls (.int x :: .int i :: .ref a :: rest)) :=
  va_iast X.1 X.2.1 X.2.2.2.2.2.2.2.1 hP hD hS k 0 ha rfl (inb_in hin) hdg (fun H1 locs1 h1 _ h3 => kk H1 locs1 (by rw [← hs]; exact h1) h3)
theorem rw_ret {r v : Int32} (X : Cx p s m args meth c cc nL (some .int) own D cI cG) (hP : va_P D vwCl (w S) H) (hS : va_S A s.heap H locs) (h : some (v, S) = some (r, S9)) (hdg : decode cc pc = .ok (.ireturn, 1)) : W p l e R s m args below meth c H locs cells slots (MQ below (rwQ w D A r S9) args s cells slots A) (F0 m pc ls [.int v]) := by
  have hlocks : meth.locks = false := X.2.2.2.2.1
  have h1 : v = r ∧ S = S9 := by cases h; exact ⟨rfl, rfl⟩
  exact W.iret X.1 X.2.1 X.2.2.2.1 (fun t ht hW => ⟨⟨v, S, rfl, h1, by show va_P D vwCl (w S) t.heap; rw [ht]; exact hP⟩, hS.F ht⟩) hS.2.2 hdg
theorem rw_retv {r v : Int32} (X : Cx p s m args meth c cc nL none own D cI cG) (hP : va_P D vwCl (w S) H) (hS : va_S A s.heap H locs) (h : some (v, S) = some (r, S9)) (hdg : decode cc pc = .ok (.return_, 1)) : W p l e R s m args below meth c H locs cells slots (MQ below (rwQv w D A S9) args s cells slots A) (F0 m pc ls []) := by
  have hlocks : meth.locks = false := X.2.2.2.2.1
  have h1 : S = S9 := by cases h; rfl
  exact W.vret X.1 X.2.1 X.2.2.2.1 (fun t ht hW => ⟨⟨S, rfl, h1, by show va_P D vwCl (w S) t.heap; rw [ht]; exact hP⟩, hS.F ht⟩) hS.2.2 hdg
end RWR

theorem RwM.of {l : Launch} {y : MethodName} {b : ByteArray} {n : Nat} {ret : Option FieldType} {fr lo : Nat} {av : List Value} {D : va_G} {cI cG : ClassId} {w : St → va_W} {A : Nat → Prop} {S : St} {H : Heap} {r : Int32} {S9 : St} {own : String} (hy : plainName y.cls = true) (ho : y.cls = own) (hn : (lg_sl av).length ≤ n)
    (walk : ∀ (p : Program) (e : Env) (s : State) (m : MethodId) (args : Array Value) (below : List Frame) (meth : Method) (c : Code) (ls : Array Slot), Cx p s m args meth c b n ret own D cI cG → va_P D vwCl (w S) H → va_S A s.heap H [] → (∀ lv, lv_has (lg_sl av ++ List.replicate (n - (lg_sl av).length) Slot.unset).toArray n lv → lv_has ls n lv) → 
      W p l e { frames := fr, cells := 0, slots := 0, locals := lo } s m args below meth c H [] 0 0 (MQ below (rwQ w D A r S9) args s 0 0 A) (F0 m 0 ls [])) : RwM l y b n ret fr lo av D cI cG w A S H r S9 := by
  refine Met.ofW (cc := b) (maxL := n) (ret := ret) hy rfl ?_
  intro p e s m args below meth c s₁ B hml hv
  obtain ⟨rfl, hH, hP, hk⟩ := hv
  have hts := atoms_spec (ws := wd y b n ret) B.pre
  have hown : s.vm.findClass own = some m.cls := by rw [← ho]; exact findClass_of_methodNamed B.named
  subst hH
  rw [lg_entry_eq]
  exact walk p e s m _ below meth c _ ⟨B.exec, B.bytes, hml, B.returns, B.notSynchronized, hown, fun w h => hts w (List.mem_cons_of_mem _ h), hk⟩ hP va_S.rf (fun lv h => h)

theorem RwMv.of {l : Launch} {y : MethodName} {b : ByteArray} {n : Nat} {ret : Option FieldType} {fr lo : Nat} {av : List Value} {D : va_G} {cI cG : ClassId} {w : St → va_W} {A : Nat → Prop} {S : St} {H : Heap} {r : Int32} {S9 : St} {own : String} (hy : plainName y.cls = true) (ho : y.cls = own) (hn : (lg_sl av).length ≤ n)
    (walk : ∀ (p : Program) (e : Env) (s : State) (m : MethodId) (args : Array Value) (below : List Frame) (meth : Method) (c : Code) (ls : Array Slot), Cx p s m args meth c b n ret own D cI cG → va_P D vwCl (w S) H → va_S A s.heap H [] → (∀ lv, lv_has (lg_sl av ++ List.replicate (n - (lg_sl av).length) Slot.unset).toArray n lv → lv_has ls n lv) → 
      W p l e { frames := fr, cells := 0, slots := 0, locals := lo } s m args below meth c H [] 0 0 (MQ below (rwQv w D A S9) args s 0 0 A) (F0 m 0 ls [])) : RwMv l y b n ret fr lo av D cI cG w A S H r S9 := by
  refine Met.ofW (cc := b) (maxL := n) (ret := ret) hy rfl ?_
  intro p e s m args below meth c s₁ B hml hv
  obtain ⟨rfl, hH, hP, hk⟩ := hv
  have hts := atoms_spec (ws := wd y b n ret) B.pre
  have hown : s.vm.findClass own = some m.cls := by rw [← ho]; exact findClass_of_methodNamed B.named
  subst hH
  rw [lg_entry_eq]
  exact walk p e s m _ below meth c _ ⟨B.exec, B.bytes, hml, B.returns, B.notSynchronized, hown, fun w h => hts w (List.mem_cons_of_mem _ h), hk⟩ hP va_S.rf (fun lv h => h)

theorem RwMs.of {l : Launch} {y : MethodName} {b : ByteArray} {n : Nat} {ret : Option FieldType} {fr lo : Nat} {av : List Value} {D : va_G} {cI cG : ClassId} {w : St → va_W} {A : Nat → Prop} {a1 a2 : Nat} {S : St} {H : Heap} {r : Int32} {S9 : St} {own : String} (hy : plainName y.cls = true) (ho : y.cls = own) (hn : (lg_sl av).length ≤ n)
    (walk : ∀ (p : Program) (e : Env) (s : State) (m : MethodId) (args : Array Value) (below : List Frame) (meth : Method) (c : Code) (ls : Array Slot), Cx p s m args meth c b n ret own D cI cG → va_P D vwCl (w S) H → va_S A s.heap H [] → (∀ lv, lv_has (lg_sl av ++ List.replicate (n - (lg_sl av).length) Slot.unset).toArray n lv → lv_has ls n lv) → stt a1 a2 A s s.heap →
      W p l e { frames := fr, cells := 0, slots := 0, locals := lo } s m args below meth c H [] 0 0 (MQ below (rwQ w D A r S9) args s 0 0 A) (F0 m 0 ls [])) : RwMs l y b n ret fr lo av D cI cG w A a1 a2 S H r S9 := by
  refine Met.ofW (cc := b) (maxL := n) (ret := ret) hy rfl ?_
  intro p e s m args below meth c s₁ B hml hv
  obtain ⟨rfl, ⟨hH, hP, hk⟩, hstt⟩ := hv
  have hts := atoms_spec (ws := wd y b n ret) B.pre
  have hown : s.vm.findClass own = some m.cls := by rw [← ho]; exact findClass_of_methodNamed B.named
  subst hH
  rw [lg_entry_eq]
  exact walk p e s m _ below meth c _ ⟨B.exec, B.bytes, hml, B.returns, B.notSynchronized, hown, fun w h => hts w (List.mem_cons_of_mem _ h), hk⟩ hP va_S.rf (fun lv h => h) hstt

theorem sX_4 {cI cG : ClassId} {q : Nat → Nat} {S : St} {j : Nat} {x : Int32} : (wX cI cG q S).set 4 (q 4, .inl (cI, 12, .inl (upd (S 4) j x))) = wX cI cG q (up S 4 j x) := rfl
theorem sX_5 {cI cG : ClassId} {q : Nat → Nat} {S : St} {j : Nat} {x : Int32} : (wX cI cG q S).set 5 (q 5, .inl (cI, 12, .inl (upd (S 5) j x))) = wX cI cG q (up S 5 j x) := rfl
theorem sX_6 {cI cG : ClassId} {q : Nat → Nat} {S : St} {j : Nat} {x : Int32} : (wX cI cG q S).set 6 (q 6, .inl (cI, 12, .inl (upd (S 6) j x))) = wX cI cG q (up S 6 j x) := rfl
theorem sX_7 {cI cG : ClassId} {q : Nat → Nat} {S : St} {j : Nat} {x : Int32} : (wX cI cG q S).set 7 (q 7, .inl (cI, 12, .inl (upd (S 7) j x))) = wX cI cG q (up S 7 j x) := rfl
theorem sX_9 {cI cG : ClassId} {q : Nat → Nat} {S : St} {j : Nat} {x : Int32} : (wX cI cG q S).set 9 (q 9, .inl (cI, 12, .inl (upd (S 9) j x))) = wX cI cG q (up S 9 j x) := rfl
theorem sX_11 {cI cG : ClassId} {q : Nat → Nat} {S : St} {j : Nat} {x : Int32} : (wX cI cG q S).set 11 (q 11, .inl (cI, 12, .inl (upd (S 11) j x))) = wX cI cG q (up S 11 j x) := rfl
theorem sX_12 {cI cG : ClassId} {q : Nat → Nat} {S : St} {j : Nat} {x : Int32} : (wX cI cG q S).set 12 (q 12, .inl (cI, 12, .inl (upd (S 12) j x))) = wX cI cG q (up S 12 j x) := rfl
theorem sX_13 {cI cG : ClassId} {q : Nat → Nat} {S : St} {j : Nat} {x : Int32} : (wX cI cG q S).set 13 (q 13, .inl (cI, 12, .inl (upd (S 13) j x))) = wX cI cG q (up S 13 j x) := rfl
theorem sX_14 {cI cG : ClassId} {q : Nat → Nat} {S : St} {j : Nat} {x : Int32} : (wX cI cG q S).set 14 (q 14, .inl (cI, 40, .inl (upd (S 14) j x))) = wX cI cG q (up S 14 j x) := rfl
theorem sX_15 {cI cG : ClassId} {q : Nat → Nat} {S : St} {j : Nat} {x : Int32} : (wX cI cG q S).set 15 (q 15, .inl (cI, 12, .inl (upd (S 15) j x))) = wX cI cG q (up S 15 j x) := rfl
theorem sX_16 {cI cG : ClassId} {q : Nat → Nat} {S : St} {j : Nat} {x : Int32} : (wX cI cG q S).set 16 (q 16, .inl (cI, 12, .inl (upd (S 16) j x))) = wX cI cG q (up S 16 j x) := rfl
theorem sX_17 {cI cG : ClassId} {q : Nat → Nat} {S : St} {j : Nat} {x : Int32} : (wX cI cG q S).set 17 (q 17, .inl (cI, 12, .inl (upd (S 17) j x))) = wX cI cG q (up S 17 j x) := rfl
theorem sX_18 {cI cG : ClassId} {q : Nat → Nat} {S : St} {j : Nat} {x : Int32} : (wX cI cG q S).set 18 (q 18, .inl (cI, 12, .inl (upd (S 18) j x))) = wX cI cG q (up S 18 j x) := rfl
theorem sX_19 {cI cG : ClassId} {q : Nat → Nat} {S : St} {j : Nat} {x : Int32} : (wX cI cG q S).set 19 (q 19, .inl (cI, 20, .inl (upd (S 19) j x))) = wX cI cG q (up S 19 j x) := rfl
theorem sX_20 {cI cG : ClassId} {q : Nat → Nat} {S : St} {j : Nat} {x : Int32} : (wX cI cG q S).set 20 (q 20, .inl (cI, 20, .inl (upd (S 20) j x))) = wX cI cG q (up S 20 j x) := rfl
theorem sX_21 {cI cG : ClassId} {q : Nat → Nat} {S : St} {j : Nat} {x : Int32} : (wX cI cG q S).set 21 (q 21, .inl (cI, 20, .inl (upd (S 21) j x))) = wX cI cG q (up S 21 j x) := rfl
theorem sX_22 {cI cG : ClassId} {q : Nat → Nat} {S : St} {j : Nat} {x : Int32} : (wX cI cG q S).set 22 (q 22, .inl (cI, 20, .inl (upd (S 22) j x))) = wX cI cG q (up S 22 j x) := rfl
theorem sX_23 {cI cG : ClassId} {q : Nat → Nat} {S : St} {j : Nat} {x : Int32} : (wX cI cG q S).set 23 (q 23, .inl (cI, 20, .inl (upd (S 23) j x))) = wX cI cG q (up S 23 j x) := rfl
theorem sX_24 {cI cG : ClassId} {q : Nat → Nat} {S : St} {j : Nat} {x : Int32} : (wX cI cG q S).set 24 (q 24, .inl (cI, 20, .inl (upd (S 24) j x))) = wX cI cG q (up S 24 j x) := rfl
theorem sX_25 {cI cG : ClassId} {q : Nat → Nat} {S : St} {j : Nat} {x : Int32} : (wX cI cG q S).set 25 (q 25, .inl (cI, 20, .inl (upd (S 25) j x))) = wX cI cG q (up S 25 j x) := rfl
theorem sX_26 {cI cG : ClassId} {q : Nat → Nat} {S : St} {j : Nat} {x : Int32} : (wX cI cG q S).set 26 (q 26, .inl (cI, 20, .inl (upd (S 26) j x))) = wX cI cG q (up S 26 j x) := rfl
theorem sX_27 {cI cG : ClassId} {q : Nat → Nat} {S : St} {j : Nat} {x : Int32} : (wX cI cG q S).set 27 (q 27, .inl (cI, 20, .inl (upd (S 27) j x))) = wX cI cG q (up S 27 j x) := rfl
theorem sX_28 {cI cG : ClassId} {q : Nat → Nat} {S : St} {j : Nat} {x : Int32} : (wX cI cG q S).set 28 (q 28, .inl (cI, 20, .inl (upd (S 28) j x))) = wX cI cG q (up S 28 j x) := rfl
theorem sX_29 {cI cG : ClassId} {q : Nat → Nat} {S : St} {j : Nat} {x : Int32} : (wX cI cG q S).set 29 (q 29, .inl (cI, 20, .inl (upd (S 29) j x))) = wX cI cG q (up S 29 j x) := rfl
theorem sX_30 {cI cG : ClassId} {q : Nat → Nat} {S : St} {j : Nat} {x : Int32} : (wX cI cG q S).set 30 (q 30, .inl (cI, 20, .inl (upd (S 30) j x))) = wX cI cG q (up S 30 j x) := rfl
theorem sM_1 {cI cG : ClassId} {q : Nat → Nat} {S : St} {j : Nat} {x : Int32} : (wM cI cG q S).set 1 (q 1, .inl (cI, 12, .inl (upd (S 1) j x))) = wM cI cG q (up S 1 j x) := rfl
theorem sM_2 {cI cG : ClassId} {q : Nat → Nat} {S : St} {j : Nat} {x : Int32} : (wM cI cG q S).set 2 (q 2, .inl (cI, 12, .inl (upd (S 2) j x))) = wM cI cG q (up S 2 j x) := rfl
theorem sM_3 {cI cG : ClassId} {q : Nat → Nat} {S : St} {j : Nat} {x : Int32} : (wM cI cG q S).set 3 (q 3, .inl (cI, 12, .inl (upd (S 3) j x))) = wM cI cG q (up S 3 j x) := rfl
theorem sM_4 {cI cG : ClassId} {q : Nat → Nat} {S : St} {j : Nat} {x : Int32} : (wM cI cG q S).set 4 (q 4, .inl (cI, 12, .inl (upd (S 4) j x))) = wM cI cG q (up S 4 j x) := rfl
theorem sM_5 {cI cG : ClassId} {q : Nat → Nat} {S : St} {j : Nat} {x : Int32} : (wM cI cG q S).set 5 (q 5, .inl (cI, 12, .inl (upd (S 5) j x))) = wM cI cG q (up S 5 j x) := rfl
theorem sM_6 {cI cG : ClassId} {q : Nat → Nat} {S : St} {j : Nat} {x : Int32} : (wM cI cG q S).set 6 (q 6, .inl (cI, 12, .inl (upd (S 6) j x))) = wM cI cG q (up S 6 j x) := rfl
theorem sM_7 {cI cG : ClassId} {q : Nat → Nat} {S : St} {j : Nat} {x : Int32} : (wM cI cG q S).set 7 (q 7, .inl (cI, 12, .inl (upd (S 7) j x))) = wM cI cG q (up S 7 j x) := rfl
theorem sM_8 {cI cG : ClassId} {q : Nat → Nat} {S : St} {j : Nat} {x : Int32} : (wM cI cG q S).set 8 (q 8, .inl (cI, 240, .inl (upd (S 8) j x))) = wM cI cG q (up S 8 j x) := rfl
theorem sM_9 {cI cG : ClassId} {q : Nat → Nat} {S : St} {j : Nat} {x : Int32} : (wM cI cG q S).set 9 (q 9, .inl (cI, 12, .inl (upd (S 9) j x))) = wM cI cG q (up S 9 j x) := rfl
theorem sM_10 {cI cG : ClassId} {q : Nat → Nat} {S : St} {j : Nat} {x : Int32} : (wM cI cG q S).set 10 (q 10, .inl (cI, 40, .inl (upd (S 10) j x))) = wM cI cG q (up S 10 j x) := rfl
theorem sM_11 {cI cG : ClassId} {q : Nat → Nat} {S : St} {j : Nat} {x : Int32} : (wM cI cG q S).set 11 (q 11, .inl (cI, 12, .inl (upd (S 11) j x))) = wM cI cG q (up S 11 j x) := rfl
theorem sM_12 {cI cG : ClassId} {q : Nat → Nat} {S : St} {j : Nat} {x : Int32} : (wM cI cG q S).set 12 (q 12, .inl (cI, 12, .inl (upd (S 12) j x))) = wM cI cG q (up S 12 j x) := rfl
theorem sM_13 {cI cG : ClassId} {q : Nat → Nat} {S : St} {j : Nat} {x : Int32} : (wM cI cG q S).set 13 (q 13, .inl (cI, 12, .inl (upd (S 13) j x))) = wM cI cG q (up S 13 j x) := rfl
theorem sX_r15 {cI cG : ClassId} {q : Nat → Nat} {S : St} {j : Nat} {x : Int32} : ∀ {i : Nat}, i < 4 → (wX cI cG q S).set (15 + i) (q (15 + i), .inl (cI, 12, .inl (upd (S (15 + i)) j x))) = wX cI cG q (up S (15 + i) j x)
  | 0, _ => rfl
  | 1, _ => rfl
  | 2, _ => rfl
  | 3, _ => rfl
  | i + 4, h => absurd h (by omega)
theorem sX_r19 {cI cG : ClassId} {q : Nat → Nat} {S : St} {j : Nat} {x : Int32} : ∀ {i : Nat}, i < 12 → (wX cI cG q S).set (19 + i) (q (19 + i), .inl (cI, 20, .inl (upd (S (19 + i)) j x))) = wX cI cG q (up S (19 + i) j x)
  | 0, _ => rfl
  | 1, _ => rfl
  | 2, _ => rfl
  | 3, _ => rfl
  | 4, _ => rfl
  | 5, _ => rfl
  | 6, _ => rfl
  | 7, _ => rfl
  | 8, _ => rfl
  | 9, _ => rfl
  | 10, _ => rfl
  | 11, _ => rfl
  | i + 12, h => absurd h (by omega)
section PF
variable {p : Program} {l : Launch} {e : Env} {R : Room} {s : State} {m : MethodId} {args : Array Value} {below : List Frame} {meth : Method} {c : Code} {H : Heap} {locs : List Loc} {cells slots : Nat} {Q : State → Prop}
variable {cc : ByteArray} {nL : Nat} {D : va_G} {cI cG : ClassId} {q : Nat → Nat} {S : St} {A : Nat → Prop} {H0 : Heap} {pc : Nat} {ls : Array Slot} {rest : List Value} {ret : Option FieldType}
theorem pf_X3_30 {v : Int32} (X : Cx p s m args meth c cc nL ret RX3 D cI cG) (hP : va_P D vwCl (wX cI cG q S) H) (hD : va_D A (wX cI cG q S)) (hS : va_S A H0 H locs) (hdg : decode cc pc = .ok (.putfield 30, 3)) (kk : ∀ (H1 : Heap) (locs1 : List Loc), va_P D vwCl (wX cI cG q (up S 0 0 v)) H1 → va_S A H0 H1 locs1 → W p l e R s m args below meth c H1 locs1 cells slots Q (F0 m (pc + 3) ls rest)) : W p l e R s m args below meth c H locs cells slots Q (F0 m pc ls (.int v :: .ref (q 0) :: rest)) :=
  va_put (D := D) (ci := 3) (v := .int v) (ty := .int) (C := RX3) (T := TX3) (N := 5) X.1 X.2.1 X.2.2.2.2.2.2.1 inX3 tyX3 tyX3_ok nmX3 X.2.2.2.2.2.1 X.2.2.2.2.2.2.2.1 hP hD hS 0 wX_0 rfl 3 (by decide) (X.2.2.2.2.2.2.1 _ w_fl_X3_30) (fun _ h9 => h9) rfl (by decide +kernel) rfl rfl (Nat.le_of_ble_eq_true rfl) hdg (fun H1 locs1 h1 _ h3 => kk H1 locs1 h1 h3)
theorem pf_X3_34 {v : Int32} (X : Cx p s m args meth c cc nL ret RX3 D cI cG) (hP : va_P D vwCl (wX cI cG q S) H) (hD : va_D A (wX cI cG q S)) (hS : va_S A H0 H locs) (hdg : decode cc pc = .ok (.putfield 34, 3)) (kk : ∀ (H1 : Heap) (locs1 : List Loc), va_P D vwCl (wX cI cG q (up S 0 1 v)) H1 → va_S A H0 H1 locs1 → W p l e R s m args below meth c H1 locs1 cells slots Q (F0 m (pc + 3) ls rest)) : W p l e R s m args below meth c H locs cells slots Q (F0 m pc ls (.int v :: .ref (q 0) :: rest)) :=
  va_put (D := D) (ci := 3) (v := .int v) (ty := .int) (C := RX3) (T := TX3) (N := 5) X.1 X.2.1 X.2.2.2.2.2.2.1 inX3 tyX3 tyX3_ok nmX3 X.2.2.2.2.2.1 X.2.2.2.2.2.2.2.1 hP hD hS 0 wX_0 rfl 4 (by decide) (X.2.2.2.2.2.2.1 _ w_fl_X3_34) (fun _ h9 => h9) rfl (by decide +kernel) rfl rfl (Nat.le_of_ble_eq_true rfl) hdg (fun H1 locs1 h1 _ h3 => kk H1 locs1 h1 h3)
theorem pf_X3_48 {v : Int32} (X : Cx p s m args meth c cc nL ret RX3 D cI cG) (hP : va_P D vwCl (wX cI cG q S) H) (hD : va_D A (wX cI cG q S)) (hS : va_S A H0 H locs) (hdg : decode cc pc = .ok (.putfield 48, 3)) (kk : ∀ (H1 : Heap) (locs1 : List Loc), va_P D vwCl (wX cI cG q (up S 1 0 v)) H1 → va_S A H0 H1 locs1 → W p l e R s m args below meth c H1 locs1 cells slots Q (F0 m (pc + 3) ls rest)) : W p l e R s m args below meth c H locs cells slots Q (F0 m pc ls (.int v :: .ref (q 1) :: rest)) :=
  va_put (D := D) (ci := 0) (v := .int v) (ty := .int) (C := RX0) (T := TX0) (N := 8) X.1 X.2.1 X.2.2.2.2.2.2.1 inX0 tyX0 tyX0_ok nmX0 X.2.2.2.2.2.1 X.2.2.2.2.2.2.2.1 hP hD hS 1 wX_1 rfl 7 (by decide) (X.2.2.2.2.2.2.1 _ w_fl_X3_48) (fun _ h9 => h9) rfl (by decide +kernel) rfl rfl (Nat.le_of_ble_eq_true rfl) hdg (fun H1 locs1 h1 _ h3 => kk H1 locs1 h1 h3)
theorem pf_X3_69 {v : Int32} (X : Cx p s m args meth c cc nL ret RX3 D cI cG) (hP : va_P D vwCl (wX cI cG q S) H) (hD : va_D A (wX cI cG q S)) (hS : va_S A H0 H locs) (hdg : decode cc pc = .ok (.putfield 69, 3)) (kk : ∀ (H1 : Heap) (locs1 : List Loc), va_P D vwCl (wX cI cG q (up S 3 0 v)) H1 → va_S A H0 H1 locs1 → W p l e R s m args below meth c H1 locs1 cells slots Q (F0 m (pc + 3) ls rest)) : W p l e R s m args below meth c H locs cells slots Q (F0 m pc ls (.int v :: .ref (q 3) :: rest)) :=
  va_put (D := D) (ci := 2) (v := .int v) (ty := .int) (C := RX2) (T := TX2) (N := 2) X.1 X.2.1 X.2.2.2.2.2.2.1 inX2 tyX2 tyX2_ok nmX2 X.2.2.2.2.2.1 X.2.2.2.2.2.2.2.1 hP hD hS 3 wX_3 rfl 1 (by decide) (X.2.2.2.2.2.2.1 _ w_fl_X3_69) (fun _ h9 => h9) rfl (by decide +kernel) rfl rfl (Nat.le_of_ble_eq_true rfl) hdg (fun H1 locs1 h1 _ h3 => kk H1 locs1 h1 h3)
theorem pf_X3_87 {v : Int32} (X : Cx p s m args meth c cc nL ret RX3 D cI cG) (hP : va_P D vwCl (wX cI cG q S) H) (hD : va_D A (wX cI cG q S)) (hS : va_S A H0 H locs) (hdg : decode cc pc = .ok (.putfield 87, 3)) (kk : ∀ (H1 : Heap) (locs1 : List Loc), va_P D vwCl (wX cI cG q (up S 2 0 v)) H1 → va_S A H0 H1 locs1 → W p l e R s m args below meth c H1 locs1 cells slots Q (F0 m (pc + 3) ls rest)) : W p l e R s m args below meth c H locs cells slots Q (F0 m pc ls (.int v :: .ref (q 2) :: rest)) :=
  va_put (D := D) (ci := 1) (v := .int v) (ty := .int) (C := RX1) (T := TX1) (N := 4) X.1 X.2.1 X.2.2.2.2.2.2.1 inX1 tyX1 tyX1_ok nmX1 X.2.2.2.2.2.1 X.2.2.2.2.2.2.2.1 hP hD hS 2 wX_2 rfl 3 (by decide) (X.2.2.2.2.2.2.1 _ w_fl_X3_87) (fun _ h9 => h9) rfl (by decide +kernel) rfl rfl (Nat.le_of_ble_eq_true rfl) hdg (fun H1 locs1 h1 _ h3 => kk H1 locs1 h1 h3)
theorem pf_X0_41 {v : Int32} (X : Cx p s m args meth c cc nL ret RX0 D cI cG) (hP : va_P D vwCl (wX cI cG q S) H) (hD : va_D A (wX cI cG q S)) (hS : va_S A H0 H locs) (hdg : decode cc pc = .ok (.putfield 41, 3)) (kk : ∀ (H1 : Heap) (locs1 : List Loc), va_P D vwCl (wX cI cG q (up S 1 0 v)) H1 → va_S A H0 H1 locs1 → W p l e R s m args below meth c H1 locs1 cells slots Q (F0 m (pc + 3) ls rest)) : W p l e R s m args below meth c H locs cells slots Q (F0 m pc ls (.int v :: .ref (q 1) :: rest)) :=
  va_put (D := D) (ci := 0) (v := .int v) (ty := .int) (C := RX0) (T := TX0) (N := 8) X.1 X.2.1 X.2.2.2.2.2.2.1 inX0 tyX0 tyX0_ok nmX0 X.2.2.2.2.2.1 X.2.2.2.2.2.2.2.1 hP hD hS 1 wX_1 rfl 7 (by decide) (X.2.2.2.2.2.2.1 _ w_fl_X0_41) (fun _ h9 => h9) rfl (by decide +kernel) rfl rfl (Nat.le_of_ble_eq_true rfl) hdg (fun H1 locs1 h1 _ h3 => kk H1 locs1 h1 h3)
theorem pf_X0_49 {v : Int32} (X : Cx p s m args meth c cc nL ret RX0 D cI cG) (hP : va_P D vwCl (wX cI cG q S) H) (hD : va_D A (wX cI cG q S)) (hS : va_S A H0 H locs) (hdg : decode cc pc = .ok (.putfield 49, 3)) (kk : ∀ (H1 : Heap) (locs1 : List Loc), va_P D vwCl (wX cI cG q (up S 3 0 v)) H1 → va_S A H0 H1 locs1 → W p l e R s m args below meth c H1 locs1 cells slots Q (F0 m (pc + 3) ls rest)) : W p l e R s m args below meth c H locs cells slots Q (F0 m pc ls (.int v :: .ref (q 3) :: rest)) :=
  va_put (D := D) (ci := 2) (v := .int v) (ty := .int) (C := RX2) (T := TX2) (N := 2) X.1 X.2.1 X.2.2.2.2.2.2.1 inX2 tyX2 tyX2_ok nmX2 X.2.2.2.2.2.1 X.2.2.2.2.2.2.2.1 hP hD hS 3 wX_3 rfl 1 (by decide) (X.2.2.2.2.2.2.1 _ w_fl_X0_49) (fun _ h9 => h9) rfl (by decide +kernel) rfl rfl (Nat.le_of_ble_eq_true rfl) hdg (fun H1 locs1 h1 _ h3 => kk H1 locs1 h1 h3)
theorem pf_X1_21 {v : Int32} (X : Cx p s m args meth c cc nL ret RX1 D cI cG) (hP : va_P D vwCl (wX cI cG q S) H) (hD : va_D A (wX cI cG q S)) (hS : va_S A H0 H locs) (hdg : decode cc pc = .ok (.putfield 21, 3)) (kk : ∀ (H1 : Heap) (locs1 : List Loc), va_P D vwCl (wX cI cG q (up S 2 0 v)) H1 → va_S A H0 H1 locs1 → W p l e R s m args below meth c H1 locs1 cells slots Q (F0 m (pc + 3) ls rest)) : W p l e R s m args below meth c H locs cells slots Q (F0 m pc ls (.int v :: .ref (q 2) :: rest)) :=
  va_put (D := D) (ci := 1) (v := .int v) (ty := .int) (C := RX1) (T := TX1) (N := 4) X.1 X.2.1 X.2.2.2.2.2.2.1 inX1 tyX1 tyX1_ok nmX1 X.2.2.2.2.2.1 X.2.2.2.2.2.2.2.1 hP hD hS 2 wX_2 rfl 3 (by decide) (X.2.2.2.2.2.2.1 _ w_fl_X1_21) (fun _ h9 => h9) rfl (by decide +kernel) rfl rfl (Nat.le_of_ble_eq_true rfl) hdg (fun H1 locs1 h1 _ h3 => kk H1 locs1 h1 h3)
theorem pf_X2_15 {v : Int32} (X : Cx p s m args meth c cc nL ret RX2 D cI cG) (hP : va_P D vwCl (wX cI cG q S) H) (hD : va_D A (wX cI cG q S)) (hS : va_S A H0 H locs) (hdg : decode cc pc = .ok (.putfield 15, 3)) (kk : ∀ (H1 : Heap) (locs1 : List Loc), va_P D vwCl (wX cI cG q (up S 3 0 v)) H1 → va_S A H0 H1 locs1 → W p l e R s m args below meth c H1 locs1 cells slots Q (F0 m (pc + 3) ls rest)) : W p l e R s m args below meth c H locs cells slots Q (F0 m pc ls (.int v :: .ref (q 3) :: rest)) :=
  va_put (D := D) (ci := 2) (v := .int v) (ty := .int) (C := RX2) (T := TX2) (N := 2) X.1 X.2.1 X.2.2.2.2.2.2.1 inX2 tyX2 tyX2_ok nmX2 X.2.2.2.2.2.1 X.2.2.2.2.2.2.2.1 hP hD hS 3 wX_3 rfl 1 (by decide) (X.2.2.2.2.2.2.1 _ w_fl_X2_15) (fun _ h9 => h9) rfl (by decide +kernel) rfl rfl (Nat.le_of_ble_eq_true rfl) hdg (fun H1 locs1 h1 _ h3 => kk H1 locs1 h1 h3)
theorem pf_X4_49 {v : Int32} (X : Cx p s m args meth c cc nL ret RX4 D cI cG) (hP : va_P D vwCl (wM cI cG q S) H) (hD : va_D A (wM cI cG q S)) (hS : va_S A H0 H locs) (hdg : decode cc pc = .ok (.putfield 49, 3)) (kk : ∀ (H1 : Heap) (locs1 : List Loc), va_P D vwCl (wM cI cG q (up S 0 3 v)) H1 → va_S A H0 H1 locs1 → W p l e R s m args below meth c H1 locs1 cells slots Q (F0 m (pc + 3) ls rest)) : W p l e R s m args below meth c H locs cells slots Q (F0 m pc ls (.int v :: .ref (q 0) :: rest)) :=
  va_put (D := D) (ci := 4) (v := .int v) (ty := .int) (C := RX4) (T := TX4) (N := 21) X.1 X.2.1 X.2.2.2.2.2.2.1 inX4 tyX4 tyX4_ok nmX4 X.2.2.2.2.2.1 X.2.2.2.2.2.2.2.1 hP hD hS 0 wM_0 rfl 12 (by decide) (X.2.2.2.2.2.2.1 _ w_fl_X4_49) (fun _ h9 => h9) rfl (by decide +kernel) rfl rfl (Nat.le_of_ble_eq_true rfl) hdg (fun H1 locs1 h1 _ h3 => kk H1 locs1 h1 h3)
theorem pf_X4_61 {v : Int32} (X : Cx p s m args meth c cc nL ret RX4 D cI cG) (hP : va_P D vwCl (wM cI cG q S) H) (hD : va_D A (wM cI cG q S)) (hS : va_S A H0 H locs) (hdg : decode cc pc = .ok (.putfield 61, 3)) (kk : ∀ (H1 : Heap) (locs1 : List Loc), va_P D vwCl (wM cI cG q (up S 0 1 v)) H1 → va_S A H0 H1 locs1 → W p l e R s m args below meth c H1 locs1 cells slots Q (F0 m (pc + 3) ls rest)) : W p l e R s m args below meth c H locs cells slots Q (F0 m pc ls (.int v :: .ref (q 0) :: rest)) :=
  va_put (D := D) (ci := 4) (v := .int v) (ty := .int) (C := RX4) (T := TX4) (N := 21) X.1 X.2.1 X.2.2.2.2.2.2.1 inX4 tyX4 tyX4_ok nmX4 X.2.2.2.2.2.1 X.2.2.2.2.2.2.2.1 hP hD hS 0 wM_0 rfl 8 (by decide) (X.2.2.2.2.2.2.1 _ w_fl_X4_61) (fun _ h9 => h9) rfl (by decide +kernel) rfl rfl (Nat.le_of_ble_eq_true rfl) hdg (fun H1 locs1 h1 _ h3 => kk H1 locs1 h1 h3)
theorem pf_X4_78 {v : Int32} (X : Cx p s m args meth c cc nL ret RX4 D cI cG) (hP : va_P D vwCl (wM cI cG q S) H) (hD : va_D A (wM cI cG q S)) (hS : va_S A H0 H locs) (hdg : decode cc pc = .ok (.putfield 78, 3)) (kk : ∀ (H1 : Heap) (locs1 : List Loc), va_P D vwCl (wM cI cG q (up S 0 0 v)) H1 → va_S A H0 H1 locs1 → W p l e R s m args below meth c H1 locs1 cells slots Q (F0 m (pc + 3) ls rest)) : W p l e R s m args below meth c H locs cells slots Q (F0 m pc ls (.int v :: .ref (q 0) :: rest)) :=
  va_put (D := D) (ci := 4) (v := .int v) (ty := .int) (C := RX4) (T := TX4) (N := 21) X.1 X.2.1 X.2.2.2.2.2.2.1 inX4 tyX4 tyX4_ok nmX4 X.2.2.2.2.2.1 X.2.2.2.2.2.2.2.1 hP hD hS 0 wM_0 rfl 7 (by decide) (X.2.2.2.2.2.2.1 _ w_fl_X4_78) (fun _ h9 => h9) rfl (by decide +kernel) rfl rfl (Nat.le_of_ble_eq_true rfl) hdg (fun H1 locs1 h1 _ h3 => kk H1 locs1 h1 h3)
theorem pf_X4_83 {v : Int32} (X : Cx p s m args meth c cc nL ret RX4 D cI cG) (hP : va_P D vwCl (wM cI cG q S) H) (hD : va_D A (wM cI cG q S)) (hS : va_S A H0 H locs) (hdg : decode cc pc = .ok (.putfield 83, 3)) (kk : ∀ (H1 : Heap) (locs1 : List Loc), va_P D vwCl (wM cI cG q (up S 0 2 v)) H1 → va_S A H0 H1 locs1 → W p l e R s m args below meth c H1 locs1 cells slots Q (F0 m (pc + 3) ls rest)) : W p l e R s m args below meth c H locs cells slots Q (F0 m pc ls (.int v :: .ref (q 0) :: rest)) :=
  va_put (D := D) (ci := 4) (v := .int v) (ty := .int) (C := RX4) (T := TX4) (N := 21) X.1 X.2.1 X.2.2.2.2.2.2.1 inX4 tyX4 tyX4_ok nmX4 X.2.2.2.2.2.1 X.2.2.2.2.2.2.2.1 hP hD hS 0 wM_0 rfl 11 (by decide) (X.2.2.2.2.2.2.1 _ w_fl_X4_83) (fun _ h9 => h9) rfl (by decide +kernel) rfl rfl (Nat.le_of_ble_eq_true rfl) hdg (fun H1 locs1 h1 _ h3 => kk H1 locs1 h1 h3)
theorem pf_X4_90 {v : Int32} (X : Cx p s m args meth c cc nL ret RX4 D cI cG) (hP : va_P D vwCl (wM cI cG q S) H) (hD : va_D A (wM cI cG q S)) (hS : va_S A H0 H locs) (hdg : decode cc pc = .ok (.putfield 90, 3)) (kk : ∀ (H1 : Heap) (locs1 : List Loc), va_P D vwCl (wM cI cG q (up S 0 4 v)) H1 → va_S A H0 H1 locs1 → W p l e R s m args below meth c H1 locs1 cells slots Q (F0 m (pc + 3) ls rest)) : W p l e R s m args below meth c H locs cells slots Q (F0 m pc ls (.int v :: .ref (q 0) :: rest)) :=
  va_put (D := D) (ci := 4) (v := .int v) (ty := .int) (C := RX4) (T := TX4) (N := 21) X.1 X.2.1 X.2.2.2.2.2.2.1 inX4 tyX4 tyX4_ok nmX4 X.2.2.2.2.2.1 X.2.2.2.2.2.2.2.1 hP hD hS 0 wM_0 rfl 14 (by decide) (X.2.2.2.2.2.2.1 _ w_fl_X4_90) (fun _ h9 => h9) rfl (by decide +kernel) rfl rfl (Nat.le_of_ble_eq_true rfl) hdg (fun H1 locs1 h1 _ h3 => kk H1 locs1 h1 h3)
theorem pf_X4_101 {v : Int32} (X : Cx p s m args meth c cc nL ret RX4 D cI cG) (hP : va_P D vwCl (wM cI cG q S) H) (hD : va_D A (wM cI cG q S)) (hS : va_S A H0 H locs) (hdg : decode cc pc = .ok (.putfield 101, 3)) (kk : ∀ (H1 : Heap) (locs1 : List Loc), va_P D vwCl (wM cI cG q (up S 0 5 v)) H1 → va_S A H0 H1 locs1 → W p l e R s m args below meth c H1 locs1 cells slots Q (F0 m (pc + 3) ls rest)) : W p l e R s m args below meth c H locs cells slots Q (F0 m pc ls (.int v :: .ref (q 0) :: rest)) :=
  va_put (D := D) (ci := 4) (v := .int v) (ty := .int) (C := RX4) (T := TX4) (N := 21) X.1 X.2.1 X.2.2.2.2.2.2.1 inX4 tyX4 tyX4_ok nmX4 X.2.2.2.2.2.1 X.2.2.2.2.2.2.2.1 hP hD hS 0 wM_0 rfl 18 (by decide) (X.2.2.2.2.2.2.1 _ w_fl_X4_101) (fun _ h9 => h9) rfl (by decide +kernel) rfl rfl (Nat.le_of_ble_eq_true rfl) hdg (fun H1 locs1 h1 _ h3 => kk H1 locs1 h1 h3)
theorem pf_X4_104 {v : Int32} (X : Cx p s m args meth c cc nL ret RX4 D cI cG) (hP : va_P D vwCl (wM cI cG q S) H) (hD : va_D A (wM cI cG q S)) (hS : va_S A H0 H locs) (hdg : decode cc pc = .ok (.putfield 104, 3)) (kk : ∀ (H1 : Heap) (locs1 : List Loc), va_P D vwCl (wM cI cG q (up S 0 6 v)) H1 → va_S A H0 H1 locs1 → W p l e R s m args below meth c H1 locs1 cells slots Q (F0 m (pc + 3) ls rest)) : W p l e R s m args below meth c H locs cells slots Q (F0 m pc ls (.int v :: .ref (q 0) :: rest)) :=
  va_put (D := D) (ci := 4) (v := .int v) (ty := .int) (C := RX4) (T := TX4) (N := 21) X.1 X.2.1 X.2.2.2.2.2.2.1 inX4 tyX4 tyX4_ok nmX4 X.2.2.2.2.2.1 X.2.2.2.2.2.2.2.1 hP hD hS 0 wM_0 rfl 19 (by decide) (X.2.2.2.2.2.2.1 _ w_fl_X4_104) (fun _ h9 => h9) rfl (by decide +kernel) rfl rfl (Nat.le_of_ble_eq_true rfl) hdg (fun H1 locs1 h1 _ h3 => kk H1 locs1 h1 h3)
theorem pf_X4_115 {v : Int32} (X : Cx p s m args meth c cc nL ret RX4 D cI cG) (hP : va_P D vwCl (wM cI cG q S) H) (hD : va_D A (wM cI cG q S)) (hS : va_S A H0 H locs) (hdg : decode cc pc = .ok (.putfield 115, 3)) (kk : ∀ (H1 : Heap) (locs1 : List Loc), va_P D vwCl (wM cI cG q (up S 0 7 v)) H1 → va_S A H0 H1 locs1 → W p l e R s m args below meth c H1 locs1 cells slots Q (F0 m (pc + 3) ls rest)) : W p l e R s m args below meth c H locs cells slots Q (F0 m pc ls (.int v :: .ref (q 0) :: rest)) :=
  va_put (D := D) (ci := 4) (v := .int v) (ty := .int) (C := RX4) (T := TX4) (N := 21) X.1 X.2.1 X.2.2.2.2.2.2.1 inX4 tyX4 tyX4_ok nmX4 X.2.2.2.2.2.1 X.2.2.2.2.2.2.2.1 hP hD hS 0 wM_0 rfl 20 (by decide) (X.2.2.2.2.2.2.1 _ w_fl_X4_115) (fun _ h9 => h9) rfl (by decide +kernel) rfl rfl (Nat.le_of_ble_eq_true rfl) hdg (fun H1 locs1 h1 _ h3 => kk H1 locs1 h1 h3)
end PF
