/-! my own words: states, readings, worlds, contracts of methods that only read -/
abbrev St : Type := Nat → Nat → Int32
abbrev ix (i : Int32) : Nat := i.toNatClampNeg
def inb (i : Int32) (n : Nat) : Bool := decide (¬ (i < 0 ∨ n ≤ i.toNatClampNeg))
theorem inb_in {i : Int32} {n : Nat} (h : inb i n = true) : vp_in i n := by
  have h2 : ¬ (i < 0 ∨ n ≤ i.toNatClampNeg) := of_decide_eq_true h
  exact h2
theorem inb_lt {i : Int32} {n : Nat} (h : inb i n = true) : ix i < n := Nat.not_le.mp fun q => inb_in h (Or.inr q)
def gd {α : Type} (b : Bool) (k : Option α) : Option α := if b = true then k else none
theorem gd_some {α : Type} {b : Bool} {k : Option α} {r : α} (h : gd b k = some r) : b = true ∧ k = some r := by
  unfold gd at h
  split at h
  · exact ⟨by assumption, h⟩
  · cases h
def nm {α : Type} (e : Int32) (k : Int32 → Option α) : Option α := k e
theorem nm_some {α : Type} {e : Int32} {k : Int32 → Option α} {r : α} (h : nm e k = some r) {x : Int32} (ex : x = e) : k x = some r := by rw [ex]; exact h
theorem bd_some {α β : Type} {o : Option α} {k : α → Option β} {r : β} (h : o.bind k = some r) : ∃ x, o = some x ∧ k x = some r := Option.bind_eq_some_iff.mp h
theorem tt_some {α : Type} {c : Prop} [Decidable c] {a b : Option α} {r : α} (h : (if c then a else b) = some r) (hc : c) : a = some r := (if_pos hc).symm.trans h
theorem ff_some {α : Type} {c : Prop} [Decidable c] {a b : Option α} {r : α} (h : (if c then a else b) = some r) (hc : ¬ c) : b = some r := (if_neg hc).symm.trans h
abbrev wd (y : MethodName) (b : ByteArray) (n : Nat) (r : Option FieldType) : List Cond := .code y b n r :: tbG
/-- what is known of the tables everywhere -/
def kk (D : va_G) (cI cG : ClassId) (U : State) : Prop := va_K D vwCl [(cI, .int), (cG, .array .int)] U ∧ va_Nw (.methodLinkNest RX2 27 yX3_within RX3) U ∧ va_Nw (.methodLinkNest RX0 61 yX3_contains RX3) U
theorem kk.same {D : va_G} {cI cG : ClassId} {U V : State} (h : kk D cI cG U) (hv : U.vm = V.vm) : kk D cI cG V := ⟨va_K.moved (by rw [hv]; exact Vm.Alike.refl _) h.1, h.2.1.same rfl hv, h.2.2.same rfl hv⟩
theorem kk.warm {D : va_G} {cI cG : ClassId} {s U : State} (h : kk D cI cG s) (hW : s.WarmedH U.vm) : kk D cI cG U := ⟨va_K.moved hW.alike h.1, h.2.1.warmM hW, h.2.2.warmM hW⟩
/-- a method's start: the heap, the world in it, the tables -/
def roP (D : va_G) (cI cG : ClassId) (ws : va_W) (H : Heap) : State → Prop := fun U => U.heap = H ∧ va_P D vwCl ws H ∧ kk D cI cG U
theorem roP_blind {D : va_G} {cI cG : ClassId} {ws : va_W} {H : Heap} {av : List Value} : FrameBlind (va_Pc av (roP D cI cG ws H)) := fun a U g mk q => by
  obtain ⟨q0, q1, q2, q3⟩ := q
  exact ⟨q0, q1, q2, q3.same rfl⟩
theorem roP_warm {D : va_G} {cI cG : ClassId} {ws : va_W} {H : Heap} {av : List Value} {s : State} (hP : va_P D vwCl ws H) (hk : kk D cI cG s) : ∀ U : State, U.heap = H → s.WarmedH U.vm → va_Pc av (roP D cI cG ws H) av.toArray U := fun U hU hW => ⟨rfl, hU, hP, hk.warm hW⟩
/-- the contract of a method that only reads: it answers r, the heap stays -/
abbrev roQ (H : Heap) (r : Int32) : Array Value → State → Outcome → State → Prop := va_Qi (fun (r' : Int32) (_ : Unit) => r' = r) (fun _ t => t.heap = H) (fun _ => False)
abbrev no : Addr → Prop := fun _ => False
def RoM (l : Launch) (y : MethodName) (b : ByteArray) (n : Nat) (ret : Option FieldType) (fr lo : Nat) (av : List Value) (D : va_G) (cI cG : ClassId) (ws : va_W) (H : Heap) (r : Int32) : Prop :=
  Met l y (wd y b n ret) { frames := fr, cells := 0, slots := 0, locals := lo } (va_Pc av (roP D cI cG ws H)) (roQ H r) 0 0 no
def LinkV (own : String) (index : Nat) (C : String) (y : MethodName) (b : ByteArray) (n : Nat) (ret : Option FieldType) (k : Nat) : Prop :=
  GoodIn tbG (wsV own index C y (wd y b n ret)) ∧ (y.cls = C ∧ y.cls ≠ "java/lang/invoke/MethodHandle" ∧ y.cls ≠ "java/lang/invoke/VarHandle" ∧ (parseMethodDescriptor y.desc).map (fun d => d.parameters.length) = some k)
theorem tb_self : GoodIn tbG tbG := fun w h => ⟨h, good_of_word (List.mem_filter.mp h).2⟩
theorem goodC {w : Cond} {ws : List Cond} (h : w ∈ tbG) (hs : GoodIn tbG ws) : GoodIn tbG (w :: ws) := fun v hv => (List.mem_cons.mp hv).elim (fun e => by rw [e]; exact tb_self w h) (hs v)
theorem LinkV.of {own : String} {index : Nat} {C : String} {y : MethodName} {b : ByteArray} {n : Nat} {ret : Option FieldType} {k : Nat} (h1 : Cond.methodLink own index y ∈ tbG) (h2 : Cond.instanceMethod y ∈ tbG) (h3 : Cond.selects C y y ∈ tbG) (h4 : Cond.initialized C ∈ tbG) (h5 : Cond.code y b n ret ∈ tbG)
    (hd : y.cls = C ∧ y.cls ≠ "java/lang/invoke/MethodHandle" ∧ y.cls ≠ "java/lang/invoke/VarHandle" ∧ (parseMethodDescriptor y.desc).map (fun d => d.parameters.length) = some k) : LinkV own index C y b n ret k :=
  ⟨goodC h1 (goodC h2 (goodC h3 (goodC h4 (goodC h5 tb_self)))), hd⟩
def LinkS (own : String) (index : Nat) (y : MethodName) (b : ByteArray) (n : Nat) (ret : Option FieldType) (k : Nat) : Prop :=
  GoodIn tbG (va_wsS own index y (wd y b n ret)) ∧ (y.cls ≠ "java/lang/invoke/MethodHandle" ∧ y.cls ≠ "java/lang/invoke/VarHandle" ∧ (parseMethodDescriptor y.desc).map (fun d => d.parameters.length) = some k)
theorem LinkS.of {own : String} {index : Nat} {y : MethodName} {b : ByteArray} {n : Nat} {ret : Option FieldType} {k : Nat} (h1 : Cond.methodLink own index y ∈ tbG) (h2 : Cond.static y ∈ tbG) (h4 : Cond.initialized y.cls ∈ tbG) (h5 : Cond.code y b n ret ∈ tbG)
    (hd : y.cls ≠ "java/lang/invoke/MethodHandle" ∧ y.cls ≠ "java/lang/invoke/VarHandle" ∧ (parseMethodDescriptor y.desc).map (fun d => d.parameters.length) = some k) : LinkS own index y b n ret k :=
  ⟨goodC h1 (goodC h2 (goodC h4 (goodC h5 tb_self))), hd⟩
/-- a nest mate's private static -/
def LinkN (own : String) (index : Nat) (y : MethodName) (host : String) (b : ByteArray) (n : Nat) (ret : Option FieldType) (k : Nat) : Prop :=
  GoodIn tbG (wd y b n ret) ∧ Cond.initialized y.cls ∈ tbG ∧ Cond.static y ∈ tbG ∧ (y.cls ≠ "java/lang/invoke/MethodHandle" ∧ y.cls ≠ "java/lang/invoke/VarHandle" ∧ (parseMethodDescriptor y.desc).map (fun d => d.parameters.length) = some k)
section RO
variable {p : Program} {l : Launch} {e : Env} {R : Room} {s : State} {m : MethodId} {args : Array Value} {below : List Frame} {meth : Method} {c : Code} {H : Heap} {locs : List Loc} {cells slots : Nat} {Q : State → Prop}
variable {cc : ByteArray} {nL : Nat} {own : String} {D : va_G} {cI cG : ClassId} {ws : va_W} {A0 : Nat → Prop} {H0 : Heap} {pc : Nat} {ls : Array Slot} {rest st0 : List Value}
/-- what stays all through a method's walk -/
def Cx (p : Program) (s : State) (m : MethodId) (args : Array Value) (meth : Method) (c : Code) (cc : ByteArray) (nL : Nat) (ret : Option FieldType) (own : String) (D : va_G) (cI cG : ClassId) : Prop :=
  p.tables.exec = Jvm.exec ∧ c.code = cc ∧ c.maxLocals = nL ∧ meth.sig.returnType = ret ∧ meth.locks = false ∧ s.vm.findClass own = some m.cls ∧ (∀ w ∈ tbG, w.before args s = true) ∧ kk D cI cG s
theorem ro_V {ret rt : Option FieldType} {index : Nat} {C : String} {y : MethodName} {bytes : ByteArray} {maxL n fr lo : Nat} {b : Nat} {As : List Value} {r : Int32} (X : Cx p s m args meth c cc nL rt own D cI cG) (hP : va_P D vwCl ws H) (hS : va_S A0 H0 H locs) (hl : ls.size = nL)
    (hM : RoM l y bytes maxL ret fr lo (.ref b :: As) D cI cG ws H r) (hw : LinkV own index C y bytes maxL ret n) (hrec : ∃ cellB : Cell, H[b]? = some cellB ∧ cellB.vm.isStatics = false ∧ s.vm.findClass C = some cellB.cls)
    (hR : fr + 1 ≤ R.frames ∧ 8 + (maxL + 11) + lo ≤ R.locals) (hst : st0 = As.reverse ++ .ref b :: rest) (hn : As.length = n) (hr : (rest.map fun v => v.category).sum ≤ 8) (hdg : decode cc pc = .ok (.invokevirtual index, 3)) (hcs : cells + 0 ≤ R.cells ∧ slots + 0 ≤ R.slots)
    (k : ∀ locs1 : List Loc, va_S A0 H0 H locs1 → W p l e R s m args below meth c H locs1 cells slots Q (F0 m (pc + 3) ls (.int r :: rest))) : W p l e R s m args below meth c H locs cells slots Q (F0 m pc ls st0) := by
  obtain ⟨hx, hb, hml, -, -, hown, hts, hk⟩ := X
  refine va_calli (va_runV (As := As) (rest := rest) (Ts := tbG) ⟨hx, hb, hml, hown, hts⟩ hM (cwV n hts hw.1 rfl rfl rfl hw.2 hR) ⟨roP_blind, hrec, roP_warm hP hk⟩ rfl hn hl hst (lv_room hr) hdg hcs) hS (fun q _ h => False.elim h) (fun q h => False.elim h) (fun r1 u t H1 locs1 ht hvm hw1 hB hz1 hk1 hS1 => ?_)
  subst hw1
  have e1 : H1 = H := by rw [← ht]; exact hB
  subst e1
  exact k locs1 hS1
theorem ro_S {ret rt : Option FieldType} {index : Nat} {y : MethodName} {bytes : ByteArray} {maxL n fr lo : Nat} {As : List Value} {r : Int32} (X : Cx p s m args meth c cc nL rt own D cI cG) (hP : va_P D vwCl ws H) (hS : va_S A0 H0 H locs) (hl : ls.size = nL)
    (hM : RoM l y bytes maxL ret fr lo As D cI cG ws H r) (hw : LinkS own index y bytes maxL ret n)
    (hR : fr + 1 ≤ R.frames ∧ 8 + (maxL + 11) + lo ≤ R.locals) (hst : st0 = As.reverse ++ rest) (hn : As.length = n) (hr : (rest.map fun v => v.category).sum ≤ 8) (hdg : decode cc pc = .ok (.invokestatic index, 3)) (hcs : cells + 0 ≤ R.cells ∧ slots + 0 ≤ R.slots)
    (k : ∀ locs1 : List Loc, va_S A0 H0 H locs1 → W p l e R s m args below meth c H locs1 cells slots Q (F0 m (pc + 3) ls (.int r :: rest))) : W p l e R s m args below meth c H locs cells slots Q (F0 m pc ls st0) := by
  obtain ⟨hx, hb, hml, -, -, hown, hts, hk⟩ := X
  refine va_calli (va_runS (As := As) (rest := rest) (Ts := tbG) ⟨hx, hb, hml, hown, hts⟩ hM (va_cwS n hts hw.1 rfl rfl rfl hw.2 hR) ⟨roP_blind, roP_warm hP hk⟩ rfl hn hl hst (lv_room hr) hdg hcs) hS (fun q _ h => False.elim h) (fun q h => False.elim h) (fun r1 u t H1 locs1 ht hvm hw1 hB hz1 hk1 hS1 => ?_)
  subst hw1
  have e1 : H1 = H := by rw [← ht]; exact hB
  subst e1
  exact k locs1 hS1
theorem ro_N {ret rt : Option FieldType} {index : Nat} {y : MethodName} {host : String} {bytes : ByteArray} {maxL n fr lo : Nat} {As : List Value} {r : Int32} (X : Cx p s m args meth c cc nL rt own D cI cG) (hnw : va_Nw (.methodLinkNest own index y host) s) (hP : va_P D vwCl ws H) (hS : va_S A0 H0 H locs) (hl : ls.size = nL)
    (hM : RoM l y bytes maxL ret fr lo As D cI cG ws H r) (hw : LinkN own index y host bytes maxL ret n)
    (hR : fr + 1 ≤ R.frames ∧ 8 + (maxL + 11) + lo ≤ R.locals) (hst : st0 = As.reverse ++ rest) (hn : As.length = n) (hr : (rest.map fun v => v.category).sum ≤ 8) (hdg : decode cc pc = .ok (.invokestatic index, 3)) (hcs : cells + 0 ≤ R.cells ∧ slots + 0 ≤ R.slots)
    (k : ∀ locs1 : List Loc, va_S A0 H0 H locs1 → W p l e R s m args below meth c H locs1 cells slots Q (F0 m (pc + 3) ls (.int r :: rest))) : W p l e R s m args below meth c H locs cells slots Q (F0 m pc ls st0) := by
  obtain ⟨hx, hb, hml, -, -, hown, hts, hk⟩ := X
  refine va_calli (va_runSN (As := As) (rest := rest) (Ts := tbG) ⟨hx, hb, hml, hown, hts⟩ hM ⟨va_cnB n hts hw.1 rfl rfl rfl hnw (hts _ hw.2.1) hw.2.2.2 hR, hts _ hw.2.2.1, trivial⟩ ⟨roP_blind, roP_warm hP hk⟩ rfl hn hl hst (lv_room hr) hdg hcs) hS (fun q _ h => False.elim h) (fun q h => False.elim h) (fun r1 u t H1 locs1 ht hvm hw1 hB hz1 hk1 hS1 => ?_)
  subst hw1
  have e1 : H1 = H := by rw [← ht]; exact hB
  subst e1
  exact k locs1 hS1
/-- reading an int array of the world -/
theorem ro_ald {ret : Option FieldType} (X : Cx p s m args meth c cc nL ret own D cI cG) (hP : va_P D vwCl ws H) (k : Nat) {a n : Nat} {f : Nat → Int32} (ha : ws[k]? = some (a, .inl (cI, n, .inl f))) {i : Int32} (hin : inb i n = true) (hdg : decode cc pc = .ok (.iaload, 1))
    (kk : W p l e R s m args below meth c H locs cells slots Q (F0 m (pc + 1) ls (.int (f (ix i)) :: rest))) : W p l e R s m args below meth c H locs cells slots Q (F0 m pc ls (.int i :: .ref a :: rest)) :=
  va_iald X.1 X.2.1 X.2.2.2.2.2.2.2.1 hP k 0 ha rfl (inb_in hin) hdg kk
/-- reading a row of a grid -/
theorem ro_row {ret : Option FieldType} (X : Cx p s m args meth c cc nL ret own D cI cG) (hP : va_P D vwCl ws H) (k : Nat) {a n : Nat} {g : Nat → Nat} (ha : ws[k]? = some (a, .inl (cG, n, .inr (.inr (.inr (.inr (fun j => some (g j)))))))) {i : Int32} (hin : inb i n = true) (hdg : decode cc pc = .ok (.aaload, 1))
    (kk : W p l e R s m args below meth c H locs cells slots Q (F0 m (pc + 1) ls (.ref (g (ix i)) :: rest))) : W p l e R s m args below meth c H locs cells slots Q (F0 m pc ls (.int i :: .ref a :: rest)) := by
  have hlt : i.toNatClampNeg < n := inb_lt hin
  exact W.aald (v := .ref (g (ix i))) (ty := .array .int) X.1 X.2.1 (hP k _ ha) ((X.2.2.2.2.2.2.2.1.2 1 _ rfl).1 n (fun j => va_rf (some (g j)))) rfl (fun q => by cases q) (by show ¬ (i < 0 ∨ (arrV _ _ _).slots.size ≤ _); rw [arrV_size]; exact inb_in hin) (by show (arrV _ _ _).slots[_]? = _; rw [arrV_read _ _ hlt]; rfl) rfl rfl hdg kk
/-- the end of a reading method -/
theorem ro_ret {r v : Int32} (X : Cx p s m args meth c cc nL (some .int) own D cI cG) (hS : va_S no s.heap H locs) (h : some v = some r) (hdg : decode cc pc = .ok (.ireturn, 1)) : W p l e R s m args below meth c H locs cells slots (MQ below (roQ H r) args s cells slots no) (F0 m pc ls [.int v]) := by
  have hlocks : meth.locks = false := X.2.2.2.2.1
  exact W.iret X.1 X.2.1 X.2.2.2.1 (fun t ht hW => ⟨⟨v, (), rfl, Option.some.inj h, ht⟩, hS.F ht⟩) hS.2.2 hdg
theorem ro_retz {r v : Int32} (X : Cx p s m args meth c cc nL (some .boolean) own D cI cG) (hS : va_S no s.heap H locs) (h : some v = some r) (hn : narrow .boolean (.int v) = .int v) (hdg : decode cc pc = .ok (.ireturn, 1)) : W p l e R s m args below meth c H locs cells slots (MQ below (roQ H r) args s cells slots no) (F0 m pc ls [.int v]) := by
  have hlocks : meth.locks = false := X.2.2.2.2.1
  exact W.zret X.1 X.2.1 X.2.2.2.1 hn (fun t ht hW => ⟨⟨v, (), rfl, Option.some.inj h, ht⟩, hS.F ht⟩) hS.2.2 hdg
end RO
/-- a reading method's contract out of its walk -/
theorem RoM.of {l : Launch} {y : MethodName} {b : ByteArray} {n : Nat} {ret : Option FieldType} {fr lo : Nat} {av : List Value} {D : va_G} {cI cG : ClassId} {ws : va_W} {H : Heap} {r : Int32} {own : String} (hy : plainName y.cls = true) (ho : y.cls = own) (hn : (lg_sl av).length ≤ n)
    (walk : ∀ (p : Program) (e : Env) (s : State) (m : MethodId) (args : Array Value) (below : List Frame) (meth : Method) (c : Code) (ls : Array Slot), Cx p s m args meth c b n ret own D cI cG → va_P D vwCl ws H → va_S no s.heap H [] → (∀ lv, lv_has (lg_sl av ++ List.replicate (n - (lg_sl av).length) Slot.unset).toArray n lv → lv_has ls n lv) →
      W p l e { frames := fr, cells := 0, slots := 0, locals := lo } s m args below meth c H [] 0 0 (MQ below (roQ H r) args s 0 0 no) (F0 m 0 ls [])) : RoM l y b n ret fr lo av D cI cG ws H r := by
  refine Met.ofW (cc := b) (maxL := n) (ret := ret) hy rfl ?_
  intro p e s m args below meth c s₁ B hml hv
  obtain ⟨rfl, hH, hP, hk⟩ := hv
  have hts := atoms_spec (ws := wd y b n ret) B.pre
  have hown : s.vm.findClass own = some m.cls := by rw [← ho]; exact findClass_of_methodNamed B.named
  subst hH
  rw [lg_entry_eq]
  exact walk p e s m _ below meth c _ ⟨B.exec, B.bytes, hml, B.returns, B.notSynchronized, hown, fun w h => hts w (List.mem_cons_of_mem _ h), hk⟩ hP va_S.rf (fun lv h => h)
