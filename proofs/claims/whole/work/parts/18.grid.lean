/-! the word va_AOA: an array class over arrays of t has been made -/
def va_AOA (t : FieldType) (U : State) : Prop := (Cond.arrayOver (.array t)).before #[] U = true
theorem va_AOA.of {t : FieldType} {A : Array Value} {U : State} (h : (Cond.arrayOver (.array t)).before A U = true) : va_AOA t U := h
theorem va_AOA.use {t : FieldType} {A : Array Value} {U : State} (h : va_AOA t U) : (Cond.arrayOver (.array t)).before A U = true := h
/-! the class of the outer array, read off va_AOA -/
theorem gr_over {ty : FieldType} {cy : ClassId} {U : State} (h : va_AOA ty U) (hcy : U.vm.findClass (FieldType.array ty).toString = some cy) :
    ∃ (cA : ClassId) (kA : Class), U.vm.findClass ("[" ++ (FieldType.array ty).toString) = some cA ∧ U.vm.classes[cA]? = some kA ∧ kA.kind = .array cy (.array ty) := by
  have h1 : (Cond.arrayOver (.array ty)).holds #[] U none U [] = true := h
  simp only [Cond.holds, Cond.value, hcy, Option.bind_some, beq_iff_eq, Option.bind_eq_some_iff, Option.map_eq_some_iff] at h1
  obtain ⟨cA, hi, kA, hk, hb⟩ := h1
  have hp := (Array.findIdx?_eq_some_iff_getElem.mp hi).2.1
  rw [(Array.getElem?_eq_some_iff.mp hk).2] at hp
  refine ⟨cA, kA, ?_⟩
  generalize kA.kind = q at hp hb ⊢
  cases q with
  | array co t =>
    simp only [beq_iff_eq] at hp
    simp only [Bool.and_eq_true, decide_eq_true_eq] at hb
    exact ⟨hb.2, hk, by rw [hp, hb.1]⟩
  | _ => cases hb
/-! the outer array with its first i places set: row j lies at h + 1 + j -/
def gr_out (cA : ClassId) (N h i : Nat) : Cell := arrV cA N (fun j => va_rf (if j < i then some (h + 1 + j) else none))
theorem gr_out_sz (cA : ClassId) (N h i : Nat) : (gr_out cA N h i).slots.size = N := Array.size_ofFn
theorem gr_out_zero (cA : ClassId) (N h : Nat) : gr_out cA N h 0 = { cls := cA, slots := Array.replicate N .null, vm := .none } :=
  (arrV_new cA N .null).symm
theorem gr_out_put (cA : ClassId) (N h i : Nat) : (gr_out cA N h i).setSlot i (.ref (h + 1 + i)) = gr_out cA N h (i + 1) := by
  refine (arrV_store cA N i _ _).trans (congrArg (arrV cA N) (funext fun j => ?_))
  show (if j = i then Value.ref (h + 1 + i) else va_rf (if j < i then some (h + 1 + j) else none)) = va_rf (if j < i + 1 then some (h + 1 + j) else none)
  rcases Nat.lt_trichotomy j i with q | q | q
  · rw [if_neg (Nat.ne_of_lt q), if_pos q, if_pos (Nat.lt_succ_of_lt q)]
  · rw [if_pos q, if_pos (by omega), q]; rfl
  · rw [if_neg (Nat.ne_of_gt q), if_neg (by omega), if_neg (by omega)]
/-! the state behind i rounds, in closed form: one outer array, behind it i rows alike -/
def gr_st (T : State) (cA : ClassId) (N : Nat) (z : Cell) (i : Nat) : State :=
  { T with heap := T.heap.push (gr_out cA N T.heap.size i) ++ Array.replicate i z, slotsUsed := T.slotsUsed + N + i * z.slots.size }
section GRS
variable {T : State} {cA : ClassId} {N : Nat} {z : Cell} {i : Nat}
theorem gr_st_size : (gr_st T cA N z i).heap.size = T.heap.size + 1 + i := by
  show (T.heap.push (gr_out cA N T.heap.size i) ++ Array.replicate i z).size = _
  rw [Array.size_append, Array.size_push, Array.size_replicate]
theorem gr_st_old {x : Nat} (h : x < T.heap.size) : (gr_st T cA N z i).heap[x]? = T.heap[x]? := by
  show (T.heap.push (gr_out cA N T.heap.size i) ++ Array.replicate i z)[x]? = _
  rw [Array.getElem?_append_left (by rw [Array.size_push]; omega), Array.getElem?_push, if_neg (by omega)]
theorem gr_st_out : (gr_st T cA N z i).heap[T.heap.size]? = some (gr_out cA N T.heap.size i) := by
  show (T.heap.push (gr_out cA N T.heap.size i) ++ Array.replicate i z)[T.heap.size]? = _
  rw [Array.getElem?_append_left (by rw [Array.size_push]; omega), Array.getElem?_push, if_pos rfl]
theorem gr_st_row {j : Nat} (h : j < i) : (gr_st T cA N z i).heap[T.heap.size + 1 + j]? = some z := by
  show (T.heap.push (gr_out cA N T.heap.size i) ++ Array.replicate i z)[T.heap.size + 1 + j]? = _
  rw [Array.getElem?_append_right (by rw [Array.size_push]; omega), Array.size_push, Array.getElem?_replicate, if_pos (by omega)]
theorem gr_st_zero : gr_st T cA N z 0 = T.pushCell { cls := cA, slots := Array.replicate N .null, vm := .none } := by
  rw [← gr_out_zero cA N T.heap.size]
  show ({ T with heap := T.heap.push (gr_out cA N T.heap.size 0) ++ Array.replicate 0 z, slotsUsed := T.slotsUsed + N + 0 * z.slots.size } : State) = { T with heap := T.heap.push (gr_out cA N T.heap.size 0), slotsUsed := T.slotsUsed + (gr_out cA N T.heap.size 0).slots.size }
  rw [gr_out_sz, Nat.zero_mul, Nat.add_zero, Array.replicate_zero, Array.append_empty]
theorem gr_st_succ : ((gr_st T cA N z i).pushCell z).setCell T.heap.size (gr_out cA N T.heap.size (i + 1)) = gr_st T cA N z (i + 1) := by
  have h1 : ((T.heap.push (gr_out cA N T.heap.size i) ++ Array.replicate i z).push z).setIfInBounds T.heap.size (gr_out cA N T.heap.size (i + 1)) = T.heap.push (gr_out cA N T.heap.size (i + 1)) ++ Array.replicate (i + 1) z := by
    apply Array.ext_getElem?
    intro q
    rw [Array.replicate_succ, ← Array.push_append] 
    simp only [Array.getElem?_setIfInBounds, Array.getElem?_push, Array.getElem?_append, Array.size_push, Array.size_append, Array.size_replicate, Array.getElem?_replicate]
    rcases Nat.lt_trichotomy q T.heap.size with q1 | q1 | q1
    · rw [if_neg (by omega), if_neg (by omega), if_pos (by omega), if_neg (by omega), if_neg (by omega), if_pos (by omega), if_neg (by omega)]
    · rw [if_pos q1.symm, if_pos (by omega), if_neg (by omega), if_pos (by omega), if_pos q1]
    · rw [if_neg (by omega)]
      by_cases q2 : q = T.heap.size + 1 + i
      · rw [if_pos q2, if_pos q2]
      · rw [if_neg q2, if_neg q2, if_neg (show ¬ q < T.heap.size + 1 by omega), if_neg (show ¬ q < T.heap.size + 1 by omega)]
  have h2 : T.slotsUsed + N + i * z.slots.size + z.slots.size = T.slotsUsed + N + (i + 1) * z.slots.size := by rw [Nat.succ_mul]; omega
  show ({ T with heap := ((T.heap.push (gr_out cA N T.heap.size i) ++ Array.replicate i z).push z).setIfInBounds T.heap.size (gr_out cA N T.heap.size (i + 1)), slotsUsed := T.slotsUsed + N + i * z.slots.size + z.slots.size } : State) = _
  rw [h1, h2]
  rfl
end GRS
theorem gr_st_top (T : State) (g : JFrame) (cA : ClassId) (N : Nat) (z : Cell) : ∀ i : Nat, gr_st (T.setTop g) cA N z i = (gr_st T cA N z i).setTop g
  | 0 => by rw [gr_st_zero, gr_st_zero, State.pushCell_setTop]
  | i + 1 => by
    rw [← gr_st_succ, ← gr_st_succ, gr_st_top T g cA N z i, State.heap_setTop, State.pushCell_setTop, State.setCell_setTop]
section GRW
variable {E : CtlPost} {e : Env} {d : Bool} {acts : List Action} {U : State} {cA cy cc : ClassId} {kA kC : Class} {ty : FieldType} {n k : Int32}
/-! one row: the machine's 'make' at one length -/
theorem gr_make1 (hC : U.vm.classes[cy]? = some kC) (hkC : kC.kind = .array cc ty) (hk : ¬ k < 0) (l2 : ¬ k.toNatClampNeg > e.platform.arrayLengthLimit) (w2 : ¬ k.toNatClampNeg * componentBytes ty > e.platform.maxHeapBytes)
    (hdf : fits ty (defaultValue ty) = true) (rc : U.heap.size < e.platform.maxCells) (rs : U.slotsUsed + k.toNatClampNeg ≤ e.platform.maxSlots) {Q : Addr → Pre}
    (hq : ∀ acts', Q U.heap.size d acts' (U.pushCell { cls := cy, slots := Array.replicate k.toNatClampNeg (defaultValue ty), vm := .none })) : wp (multianewarray.make cy [k]) Q E e d acts U := by
  rw [multianewarray.make]
  simp only [wp_bind', W.ite, hk, if_false, wp_pure', W.theClass, hC, hkC, Option.some.injEq, exists_eq_left']
  exact W.newArray_of hC hkC l2 w2 rc rs hdf hq
/-! both lengths: the outer array, then row by row -/
theorem gr_make2 (hA : U.vm.classes[cA]? = some kA) (hkA : kA.kind = .array cy (.array ty)) (hC : U.vm.classes[cy]? = some kC) (hkC : kC.kind = .array cc ty) (hn : ¬ n < 0) (hk : ¬ k < 0)
    (l1 : ¬ n.toNatClampNeg > e.platform.arrayLengthLimit) (w1 : ¬ n.toNatClampNeg * componentBytes (.array ty) > e.platform.maxHeapBytes) (l2 : ¬ k.toNatClampNeg > e.platform.arrayLengthLimit) (w2 : ¬ k.toNatClampNeg * componentBytes ty > e.platform.maxHeapBytes)
    (hdf : fits ty (defaultValue ty) = true) (rc : U.heap.size + (1 + n.toNatClampNeg) ≤ e.platform.maxCells) (rs : U.slotsUsed + (n.toNatClampNeg + n.toNatClampNeg * k.toNatClampNeg) ≤ e.platform.maxSlots) {Q : Addr → Pre}
    (hq : ∀ d' acts', Q U.heap.size d' acts' (gr_st U cA n.toNatClampNeg { cls := cy, slots := Array.replicate k.toNatClampNeg (defaultValue ty), vm := .none } n.toNatClampNeg)) : wp (multianewarray.make cA [n, k]) Q E e d acts U := by
  generalize hz : ({ cls := cy, slots := Array.replicate k.toNatClampNeg (defaultValue ty), vm := .none } : Cell) = z at hq
  have hzs : z.slots.size = k.toNatClampNeg := by rw [← hz]; exact Array.size_replicate
  generalize hN : n.toNatClampNeg = N at l1 w1 rc rs hq
  generalize hM : k.toNatClampNeg = M at l2 w2 rs hz hzs
  have hfind : [k].find? (fun x => decide (x < 0)) = none := by simp [hk]
  rw [multianewarray.make]
  simp only [wp_bind', W.ite, hn, if_false, wp_pure', W.theClass, hA, hkA, Option.some.injEq, exists_eq_left', hN]
  refine W.newArray_of hA hkA l1 w1 (by omega) (by omega) rfl (fun a1 => ?_)
  simp only [hfind, ite_self, wp_bind', Std.Legacy.Range.forIn_eq_forIn_range']
  refine wp_forIn_inv (fun todo V => ∃ i, i + todo.length = N ∧ todo = List.range' i todo.length ∧ V = gr_st U cA N z i) _ _ ⟨0, ?_, ?_, gr_st_zero.symm⟩ ?_ ?_
  · simp [Std.Legacy.Range.size]
  · simp [Std.Legacy.Range.size]
  · rintro x todo V d1 a2 Q1 ⟨i, hlen, hr, rfl⟩ next
    rw [List.length_cons] at hlen
    rw [List.length_cons, List.range'_succ, List.cons.injEq] at hr
    obtain ⟨hx, hr⟩ := hr
    subst hx
    have hle : x * M + M ≤ N * M := by
      have := Nat.mul_le_mul_right M (show x + 1 ≤ N by omega)
      rw [Nat.succ_mul] at this
      exact this
    have hus : (gr_st U cA N z x).slotsUsed = U.slotsUsed + N + x * M := by rw [← hzs]; rfl
    simp only [wp_bind']
    refine gr_make1 (U := gr_st U cA N z x) (kC := kC) (cc := cc) (ty := ty) hC hkC hk (by rw [hM]; exact l2) (by rw [hM]; exact w2) hdf (by rw [gr_st_size]; omega) (by rw [hus, hM]; omega) (fun a3 => ?_)
    rw [hM, hz, gr_st_size]
    have hcell : ((gr_st U cA N z x).pushCell z).heap[U.heap.size]? = some (gr_out cA N U.heap.size x) := by
      have hlt : U.heap.size < (gr_st U cA N z x).heap.size := by rw [gr_st_size]; omega
      rw [State.heap_pushCell_of_lt _ _ hlt]
      exact gr_st_out
    simp only [wp_bind', W.writeLoc, wp_pure']
    refine ⟨_, hcell, (by intro q; cases q), (by rw [gr_out_sz]; omega), ?_, next _ _ _ ⟨x + 1, by omega, hr, ?_⟩⟩
    · show State.fitsSlot _ cA .none x (.ref (U.heap.size + 1 + x)) = true
      have hA' : ((gr_st U cA N z x).pushCell z).vm.classes[cA]? = some kA := hA
      simp only [State.fitsSlot, State.slotType?, hA', Option.bind_eq_bind, Option.bind_some, hkA]
      rfl
    · rw [gr_out_put]
      exact gr_st_succ
  · rintro V d1 a2 ⟨i, hlen, -, rfl⟩
    rw [List.length_nil, Nat.add_zero] at hlen
    subst hlen
    simp only [wp_pure']
    exact hq _ _
end GRW
section GRX
variable {p : Program} {l : Launch} {e : Env} {R : Room} {s : State} {m : MethodId} {args : Array Value} {below : List Frame} {meth : Method} {c : Code} {T : State} {locs : List Loc} {cells slots : Nat}
/-! the walk stands behind every round; the outer array is new, so its places bind nothing -/
theorem gr_stand (X : Stand p l e R s m args below meth c T locs cells slots) (cA : ClassId) (N : Nat) (z : Cell) : ∀ i : Nat, Stand p l e R s m args below meth c (gr_st T cA N z i) locs (cells + 1 + i) (slots + N + i * z.slots.size)
  | 0 => by
    have h := X.pushed (gr_out cA N T.heap.size 0)
    rw [gr_out_sz, gr_out_zero, ← gr_st_zero (z := z)] at h
    rw [Nat.zero_mul]
    exact h
  | i + 1 => by
    have h := (gr_stand X cA N z i).pushed z
    have hc : ((gr_st T cA N z i).pushCell z).heap[T.heap.size]? = some (gr_out cA N T.heap.size i) := by
      have hlt : T.heap.size < (gr_st T cA N z i).heap.size := by rw [gr_st_size]; omega
      rw [State.heap_pushCell_of_lt _ _ hlt]
      exact gr_st_out
    have h2 := (h.stored hc i (.ref (T.heap.size + 1 + i))).dropFresh (fun x hx => by
      rw [List.mem_singleton.mp hx]
      exact X.heapGrown)
    rw [gr_out_put, gr_st_succ] at h2
    rw [show slots + N + (i + 1) * z.slots.size = slots + N + i * z.slots.size + z.slots.size by rw [Nat.succ_mul]; omega]
    exact h2
/-! the instruction -/
theorem gr_step (X : Stand p l e R s m args below meth c T locs cells slots) (hexec : p.tables.exec = Jvm.exec) {own : String} {index : Nat} {ty : FieldType} {cy : ClassId} (hown : s.vm.findClass own = some m.cls) (hclink : (Cond.classLink own index ("[" ++ (FieldType.array ty).toString)).before args s = true)
    (hover : va_AOA ty s) (harr : (Cond.arrayClass ty).before args s = true) (hcy : s.vm.findClass (FieldType.array ty).toString = some cy) {g : JFrame} (hg : g.method = m) (hdg : decode c.code g.pc = .ok (.multianewarray index 2, 4)) {n k : Int32} {rest : List Value} (hst : g.stack = .int k :: .int n :: rest)
    (hn : ¬ n < 0) (hk : ¬ k < 0) (hb1 : n.toNatClampNeg * 4 ≤ 536870912) (hb2 : k.toNatClampNeg * componentBytes ty ≤ 536870912) (hb3 : k.toNatClampNeg ≤ 536870912) (hdf : fits ty (defaultValue ty) = true)
    (hcells : cells + (1 + n.toNatClampNeg) ≤ R.cells) (hslots : slots + (n.toNatClampNeg + n.toNatClampNeg * k.toNatClampNeg) ≤ R.slots) {z : Cell} (hz : ({ cls := cy, slots := Array.replicate k.toNatClampNeg (defaultValue ty), vm := .none } : Cell) = z) :
    ∃ (vm₁ : Vm) (cA : ClassId) (kA : Class), s.vm.findClass ("[" ++ (FieldType.array ty).toString) = some cA ∧ s.vm.classes[cA]? = some kA ∧ kA.kind = .array cy (.array ty) ∧
      Stand p l e R s m args below meth c (gr_st (T.setVm vm₁) cA n.toNatClampNeg z n.toNatClampNeg) locs (cells + 1 + n.toNatClampNeg) (slots + n.toNatClampNeg + n.toNatClampNeg * k.toNatClampNeg) ∧
      ∀ target, Steps p.tables e below ((gr_st (T.setVm vm₁) cA n.toNatClampNeg z n.toNatClampNeg).setTop { g with pc := g.pc + 4, stack := .ref T.heap.size :: rest }) target → Steps p.tables e below (T.setTop g) target := by
  subst hg
  have hzs : z.slots.size = k.toNatClampNeg := by rw [← hz]; exact Array.size_replicate
  obtain ⟨cA, kA, hfA, hkA, hqA⟩ := gr_over hover hcy
  obtain ⟨c2, kC, cc, hf2, hkC, hqC⟩ := Cond.arrayClass_spec harr
  have e2 : c2 = cy := Option.some.inj (hf2.symm.trans hcy)
  subst e2
  obtain ⟨c3, hf3, hlk⟩ := Cond.classLink_spec hown hclink e.platform (by rw [X.admits.platform])
  have e3 : c3 = cA := Option.some.inj (hf3.symm.trans hfA)
  subst e3
  obtain ⟨giv, wrm, -⟩ := State.classEntry (e := e) X.warmed hlk
  generalize T.vm.noted g.method.cls index (.cls c3) = vm₁ at giv wrm
  obtain ⟨kA1, hkA1, eA⟩ := wrm.alike.2.2 _ _ hkA
  obtain ⟨kC1, hkC1, eC⟩ := wrm.alike.2.2 _ _ hkC
  have hqA1 : kA1.kind = .array c2 (.array ty) := by rw [eA]; exact hqA
  have hqC1 : kC1.kind = .array cc ty := by rw [eC]; exact hqC
  have X1 := gr_stand (X.noted wrm) c3 n.toNatClampNeg z n.toNatClampNeg
  rw [hzs] at X1
  obtain ⟨rc, rs⟩ := X.roomAbove hcells hslots
  have al := Launch.admits_arrayLengthLimit X.admits
  have ah := Launch.admits_maxHeapBytes X.admits
  have w1 : ¬ n.toNatClampNeg * componentBytes (.array ty) > e.platform.maxHeapBytes := by
    rw [ah]
    exact Nat.not_lt.mpr hb1
  refine ⟨vm₁, c3, kA, hfA, hkA, hqA, X1, fun target go => ?_⟩
  jvm_step X.here [hexec, hdg]
  simp only [multianewarray.sem, wp_bind', W.resolveClassAt_links (State.method?_setTop g X.here.top) giv]
  rw [W.popN, if_neg (by decide)]
  refine ⟨g, State.topJava?_setTop' (s := T.setVm vm₁) g X.here.top, [.int n, .int k], rest, rfl, hst, ?_⟩
  simp only [List.mapM_cons, List.mapM_nil, wp_bind', wp_pure']
  refine gr_make2 (U := ((T.setTop g).setVm vm₁).setTop { g with stack := rest }) (kA := kA1) (kC := kC1) (cy := c2) (cc := cc) (ty := ty) hkA1 hqA1 hkC1 hqC1 hn hk (by rw [al]; omega) w1 (by rw [al]; omega) (by rw [ah]; omega) hdf rc rs (fun d1 a1 => ?_)
  rw [hz]
  have eS : ((T.setTop g).setVm vm₁).setTop { g with stack := rest } = (T.setVm vm₁).setTop { g with stack := rest } := State.setTop_setTop (T.setVm vm₁) g _
  rw [eS, gr_st_top]
  simp only [wp_bind', W.mark, W.pushRef, State.topJava?_setTop' _ X1.here.top, Option.some.injEq, exists_eq_left', State.setTop_setTop, State.heap_setTop]
  intro a2
  simp [jvm, X1.here.top]
  exact go
end GRX
/-! ===== BEGIN new T[n][m]: the outer array a place, the inner ones among the pooled ===== -/
/-- f, but v at every address of l -/
def vr_up {α : Type} (f : Nat → α) (l : List Nat) (v : α) : Nat → α := fun a => if a ∈ l then v else f a
theorem vr_up_in {α : Type} {f : Nat → α} {l : List Nat} {v : α} {a : Nat} (h : a ∈ l) : vr_up f l v a = v := if_pos h
theorem vr_up_ne {α : Type} {f : Nat → α} {l : List Nat} {v : α} {a : Nat} (h : a ∉ l) : vr_up f l v a = f a := if_neg h
theorem vr_rows {L l : List Nat} {f : Nat → va_E} {e : va_E} (h : ∀ a, a ∈ l → a ∉ L) : va_pl L f ++ l.map (fun a => (a, e)) = va_pl (L ++ l) (vr_up f l e) := by
  unfold va_pl
  rw [List.map_append]
  congr 1
  · apply List.map_congr_left
    intro a ha
    rw [vr_up_ne (fun q => h a q ha)]
  · apply List.map_congr_left
    intro a ha
    rw [vr_up_in ha]
theorem vr_lay {X rows : va_W} {x : Nat × va_E} {pl : va_W} {D : va_G} {cl : List vw_C} {H : Heap} (hP : va_P D cl (((X ++ pl) ++ [x]) ++ rows) H) : va_P D cl ((X ++ [x]) ++ (pl ++ rows)) H := by
  rw [List.append_assoc (X ++ pl)] at hP
  have h := va_P.swap hP
  rw [← List.append_assoc X] at h
  have h2 := va_P.swap h
  rw [List.append_assoc (X ++ [x])] at h2
  exact h2
theorem vr_layD {X rows : va_W} {x : Nat × va_E} {pl : va_W} {A : Nat → Prop} (hD : va_D A (((X ++ pl) ++ [x]) ++ rows)) : va_D A ((X ++ [x]) ++ (pl ++ rows)) := by
  rw [List.append_assoc (X ++ pl)] at hD
  have h := va_D.swap hD
  rw [← List.append_assoc X] at h
  have h2 := va_D.swap h
  rw [List.append_assoc (X ++ [x])] at h2
  exact h2
section VGM
variable {p : Program} {l : Launch} {e : Env} {R : Room} {s : State} {m : MethodId} {args : Array Value} {below : List Frame} {meth : Method} {c : Code} {H : Heap} {locs : List Loc} {cells slots : Nat} {Q : State → Prop}
variable {cc : ByteArray} {pc : Nat} {ls : Array Slot} {rest : List Value} {D : va_G} {cl : List vw_C} {A : Nat → Prop} {a : Nat} {tys : List (ClassId × FieldType)} {ws : va_W} {H0 : Heap}
theorem va_mna {X : va_W} {L : List Nat} {f : Nat → va_E} {cc : ByteArray} (hexec : p.tables.exec = Jvm.exec) (hb : c.code = cc) {own : String} {index : Nat} {ty : FieldType} {cy : ClassId} (hown : s.vm.findClass own = some m.cls) (hclink : (Cond.classLink own index ("[" ++ (FieldType.array ty).toString)).before args s = true) (hover : va_AOA ty s) (harr : (Cond.arrayClass ty).before args s = true) (hcy : s.vm.findClass (FieldType.array ty).toString = some cy)
    (hK : va_K D cl tys s) (hP : va_P D cl (X ++ va_pl L f) H) (hD : va_D A (X ++ va_pl L f)) (hS : va_S A H0 H locs) (hA : ∀ q, H0.size ≤ q → A q) {n k : Int32} {N' K' : Nat} {z : vp_A} (hn : ¬ n < 0) (hk : ¬ k < 0) (hN : n.toNatClampNeg = N') (hM : k.toNatClampNeg = K')
    (hb1 : N' * 4 ≤ 536870912) (hb2 : K' * componentBytes ty ≤ 536870912) (hb3 : K' ≤ 536870912) (hdf : fits ty (defaultValue ty) = true) (hdd : (defaultValue ty).isDefault = true) (hcells : cells + (1 + N') ≤ R.cells) (hslots : slots + (N' + N' * K') ≤ R.slots) (hz : ∀ c : ClassId, ({ cls := c, slots := Array.replicate K' (defaultValue ty), vm := .none } : Cell) = vp_cell c z) (hdg : decode cc pc = .ok (.multianewarray index 2, 4))
    (kk : ∀ (q : Nat) (r : Nat → Nat) (cA : ClassId) (H1 : Heap), (∀ i j : Nat, i < N' → j < N' → r i = r j → i = j) → (∀ i : Nat, i < N' → r i ∉ L) → va_K D cl (tys ++ [(cA, .array ty)]) s →
      va_P D cl ((X ++ [(q, .inl (cA, N', .inr (.inr (.inr (.inr (fun i => if i < N' then some (r i) else none))))))]) ++ va_pl (L ++ (List.range N').map r) (vr_up f ((List.range N').map r) (.inl (cy, z)))) H1 → va_D A ((X ++ [(q, .inl (cA, N', .inr (.inr (.inr (.inr (fun i => if i < N' then some (r i) else none))))))]) ++ va_pl (L ++ (List.range N').map r) (vr_up f ((List.range N').map r) (.inl (cy, z)))) → va_S A H0 H1 locs →
      W p l e R s m args below meth c H1 locs (cells + 1 + N') (slots + N' + N' * K') Q (F0 m (pc + 4) ls (.ref q :: rest))) : W p l e R s m args below meth c H locs cells slots Q (F0 m pc ls (.int k :: .int n :: rest)) := by
  subst hN
  subst hM
  intro T hT Xs
  obtain ⟨vm₁, cA, kA, fA, hkA, hqA, X', step⟩ := gr_step Xs hexec hown hclink hover harr hcy (g := F0 m pc ls (.int k :: .int n :: rest)) rfl (by rw [hb]; exact hdg) rfl hn hk hb1 hb2 hb3 hdf hcells hslots (hz cy)
  have hTh : (T.setVm vm₁).heap = H := hT
  generalize hF : gr_st (T.setVm vm₁) cA n.toNatClampNeg (vp_cell cy z) n.toNatClampNeg = F at X' step
  have f1 : F.heap.size = H.size + 1 + n.toNatClampNeg := by
    rw [← hF, ← hTh]
    exact gr_st_size
  have f2 : F.heap[H.size]? = some (vp_cell cA (n.toNatClampNeg, .inr (.inr (.inr (.inr (fun i => if i < n.toNatClampNeg then some (H.size + 1 + i) else none)))))) := by
    rw [← hF, ← hTh, vp_cell_q]
    exact gr_st_out
  have hold : ∀ x : Nat, x < H.size → F.heap[x]? = H[x]? := fun x hx => by
    rw [← hTh] at hx
    rw [← hF, ← hTh]
    exact gr_st_old hx
  have hrow : ∀ j : Nat, j < n.toNatClampNeg → F.heap[H.size + 1 + j]? = some (vp_cell cy z) := fun j hj => by
    rw [← hF, ← hTh]
    exact gr_st_row hj
  have hlt : ∀ a, a ∈ L → a < H.size := fun a ha => by
    obtain ⟨k9, hk9⟩ := va_pl_get (X := X) (f := f) ha
    exact (hP k9 _ hk9).lt
  have hnl : ∀ i : Nat, i < n.toNatClampNeg → H.size + 1 + i ∉ L := fun i _ h => by
    have := hlt _ h
    omega
  have hnm : ∀ a, a ∈ (List.range n.toNatClampNeg).map (fun i => H.size + 1 + i) → a ∉ L := fun a ha h => by
    obtain ⟨i, -, rfl⟩ := List.mem_map.mp ha
    have := hlt _ h
    omega
  have hP0 : va_P D cl (X ++ va_pl L f) F.heap := hP.kept (fun k9 x hx => hold x.1 ((hP k9 x hx).lt))
  have hP1 : va_P D cl ((X ++ va_pl L f) ++ [(H.size, .inl (cA, n.toNatClampNeg, .inr (.inr (.inr (.inr (fun i => if i < n.toNatClampNeg then some (H.size + 1 + i) else none))))))]) F.heap := hP0.app (fun k9 x hx => by
    have h0 : k9 < 1 := (List.getElem?_eq_some_iff.mp hx).1
    rw [show k9 = 0 by omega] at hx
    cases hx
    exact f2)
  have hP2 : va_P D cl (((X ++ va_pl L f) ++ [(H.size, .inl (cA, n.toNatClampNeg, .inr (.inr (.inr (.inr (fun i => if i < n.toNatClampNeg then some (H.size + 1 + i) else none))))))]) ++ ((List.range n.toNatClampNeg).map (fun i => H.size + 1 + i)).map (fun a => (a, .inl (cy, z)))) F.heap := hP1.app (fun k9 x hx => by
    obtain ⟨a, ha, rfl⟩ := List.mem_map.mp (List.mem_of_getElem? hx)
    obtain ⟨i, hi, rfl⟩ := List.mem_map.mp ha
    exact hrow i (List.mem_range.mp hi))
  have hD2 : va_D A (((X ++ va_pl L f) ++ [(H.size, .inl (cA, n.toNatClampNeg, .inr (.inr (.inr (.inr (fun i => if i < n.toNatClampNeg then some (H.size + 1 + i) else none))))))]) ++ ((List.range n.toNatClampNeg).map (fun i => H.size + 1 + i)).map (fun a => (a, .inl (cy, z)))) := by
    have hD1 := hD.push (e := .inl (cA, n.toNatClampNeg, .inr (.inr (.inr (.inr (fun i => if i < n.toNatClampNeg then some (H.size + 1 + i) else none)))))) hP rfl (hA _ hS.1)
    generalize hW1 : (X ++ va_pl L f) ++ [(H.size, .inl (cA, n.toNatClampNeg, .inr (.inr (.inr (.inr (fun i => if i < n.toNatClampNeg then some (H.size + 1 + i) else none))))))] = W1 at hD1 hP1 ⊢
    have hle : ∀ (k9 : Nat) (x : Nat × va_E), W1[k9]? = some x → x.1 ≤ H.size := fun k9 x hx => by
      rw [← hW1] at hx
      by_cases hl : k9 < (X ++ va_pl L f).length
      · rw [List.getElem?_append_left hl] at hx
        exact Nat.le_of_lt ((hP k9 x hx).lt)
      · rw [List.getElem?_append_right (by omega)] at hx
        have h0 : k9 - (X ++ va_pl L f).length < 1 := (List.getElem?_eq_some_iff.mp hx).1
        rw [show k9 - (X ++ va_pl L f).length = 0 by omega] at hx
        cases hx
        exact Nat.le_refl _
    have hr : ∀ (k9 : Nat) (x : Nat × va_E), (((List.range n.toNatClampNeg).map (fun i => H.size + 1 + i)).map (fun a => ((a, .inl (cy, z)) : Nat × va_E)))[k9]? = some x → x.1 = H.size + 1 + k9 := fun k9 x hx => by
      rw [List.getElem?_map, List.getElem?_map] at hx
      by_cases h9 : k9 < n.toNatClampNeg
      · rw [List.getElem?_range h9] at hx
        cases hx
        rfl
      · have hn0 : (List.range n.toNatClampNeg)[k9]? = none := List.getElem?_eq_none (by rw [List.length_range]; omega)
        rw [hn0] at hx
        cases hx
    refine ⟨fun i j x y hi hj hxy => ?_, fun k9 x hx => ?_⟩
    · by_cases h1 : i < W1.length <;> by_cases h2 : j < W1.length
      · rw [List.getElem?_append_left h1] at hi
        rw [List.getElem?_append_left h2] at hj
        exact hD1.1 i j x y hi hj hxy
      · rw [List.getElem?_append_left h1] at hi
        rw [List.getElem?_append_right (by omega)] at hj
        have := hle _ _ hi
        have := hr _ _ hj
        omega
      · rw [List.getElem?_append_right (by omega)] at hi
        rw [List.getElem?_append_left h2] at hj
        have := hle _ _ hj
        have := hr _ _ hi
        omega
      · rw [List.getElem?_append_right (by omega)] at hi hj
        have := hr _ _ hi
        have := hr _ _ hj
        omega
    · by_cases h1 : k9 < W1.length
      · rw [List.getElem?_append_left h1] at hx
        exact hD1.2 k9 x hx
      · rw [List.getElem?_append_right (by omega)] at hx
        have := hr _ _ hx
        exact hA _ (by have := hS.1; omega)
  have hAr : ArrOfT s cA (.array ty) := fun N9 z9 => ⟨(fun q hq => by cases hq), kA, hkA, cy, hqA⟩
  have hK2 : va_K D cl (tys ++ [(cA, .array ty)]) s := ⟨hK.1, fun k9 x hx => by
    by_cases hl : k9 < tys.length
    · rw [List.getElem?_append_left hl] at hx
      exact hK.2 k9 x hx
    · rw [List.getElem?_append_right (by omega)] at hx
      have h0 : k9 - tys.length < 1 := (List.getElem?_eq_some_iff.mp hx).1
      rw [show k9 - tys.length = 0 by omega] at hx
      cases hx
      exact ⟨hAr, fA⟩⟩
  obtain ⟨t, a1, b1⟩ := kk H.size (fun i => H.size + 1 + i) cA F.heap (fun i j _ _ h => by have h9 : H.size + 1 + i = H.size + 1 + j := h; omega) hnl hK2 (by rw [← vr_rows hnm]; exact vr_lay hP2) (by rw [← vr_rows hnm]; exact vr_layD hD2) ⟨by rw [f1]; have := hS.1; omega, fun x h1 h2 => (hold x (Nat.lt_of_lt_of_le h1 hS.1)).trans (hS.2.1 x h1 h2), hS.2.2⟩ F rfl X'
  refine ⟨t, step t ?_, b1⟩
  have e : T.heap.size = H.size := by rw [hT]
  rw [e]
  exact a1
end VGM
/-! ===== END ===== -/
