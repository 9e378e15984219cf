/-! constructors -/
theorem va_AOA.moved {t : FieldType} {u U : State} (hvm : u.vm.Alike U.vm) (h : va_AOA t u) : va_AOA t U := by
  obtain ⟨comp, c, k, h1, h2, h3, h4, h5⟩ := arrayOverA_spec h
  obtain ⟨k', hk', he⟩ := hvm.2.2 _ _ h3
  have hb : u.vm.bare = U.vm.bare := by first | exact hvm.bare_eq | exact hvm.bare_eq.symm
  have e1 := va_idx_bare U.vm comp
  have e2 := va_idx_bare u.vm comp
  rw [hb] at e2
  have hi := e1.symm.trans (e2.trans h2)
  have hkind : k'.kind = .array comp (.array t) := by rw [he]; exact h4
  have f1 : U.vm.findClass (FieldType.array t).toString = some comp := by rw [hvm.findClass]; exact h1
  have f2 : U.vm.findClass ("[" ++ (FieldType.array t).toString) = some c := by rw [hvm.findClass]; exact h5
  unfold va_AOA Cond.before Cond.holds
  simp only [Cond.value]
  rw [f1, Option.bind_some]
  refine (congrArg (fun o : Option Nat => (o.bind (fun c => (U.vm.classes[c]?).map fun (k : Class) => match k.kind with | .array _ ty => decide (ty = FieldType.array t) && decide (U.vm.findClass ("[" ++ (FieldType.array t).toString) = some c) | _ => false) == some true)) hi).trans ?_
  simp [hk', hkind, f2]
abbrev gE (c : ClassId) (N : Nat) (f : Nat → Option Nat) : va_E := .inl (c, N, .inr (.inr (.inr (.inr f))))
/-- what a constructor knows of the tables -/
def kc (D : va_G) (cI cG : ClassId) (U : State) : Prop := kk D cI cG U ∧ va_AOA .int U ∧ va_Nw (.methodLinkNest RX3 18 yX1_init RX3) U ∧ va_Nw (.methodLinkNest RX3 25 yX2_init RX3) U
theorem kc.same {D : va_G} {cI cG : ClassId} {U V : State} (h : kc D cI cG U) (hv : U.vm = V.vm) : kc D cI cG V := ⟨h.1.same hv, h.2.1.moved (by rw [hv]; exact Vm.Alike.refl _), h.2.2.1.same rfl hv, h.2.2.2.same rfl hv⟩
theorem kc.warm {D : va_G} {cI cG : ClassId} {s U : State} (h : kc D cI cG s) (hW : s.WarmedH U.vm) : kc D cI cG U := ⟨h.1.warm hW, h.2.1.moved hW.alike, h.2.2.1.warmM hW, h.2.2.2.warmM hW⟩
def inP (D : va_G) (cI cG : ClassId) (ws : va_W) (sz : Nat) : State → Prop := fun U => U.heap.size = sz ∧ va_P D vwCl ws U.heap ∧ kc D cI cG U
theorem inP_blind {D : va_G} {cI cG : ClassId} {ws : va_W} {sz : Nat} {av : List Value} : FrameBlind (va_Pc av (inP D cI cG ws sz)) := fun a U g mk q => by
  obtain ⟨q0, q1, q2, q3⟩ := q
  exact ⟨q0, q1, q2, q3.same rfl⟩
abbrev inQ (D : va_G) (h0 k0 : Nat) (ws : va_W) (sz : Nat) (out : (Nat → Nat) → va_W) : Array Value → State → Outcome → State → Prop := va_Qv (fun q : Nat → Nat => q k0 = h0) (fun q t => va_P D vwCl (out q) t.heap ∧ va_D (va_A ws sz) (out q)) (va_A ws sz)
def InM (l : Launch) (y : MethodName) (b : ByteArray) (fr lo mc ms : Nat) (D : va_G) (cI cG : ClassId) (h0 k0 : Nat) (e : va_E) (sz : Nat) (out : (Nat → Nat) → va_W) : Prop :=
  Met l y (wd y b 1 none) { frames := fr, cells := mc, slots := ms, locals := lo } (va_Pc [.ref h0] (inP D cI cG [(h0, e)] sz)) (inQ D h0 k0 [(h0, e)] sz out) mc ms (va_A [(h0, e)] sz)
theorem d_one {x : Nat × va_E} : va_D (fun _ => True) [x] := by
  refine ⟨fun i j p r hi hj _ => ?_, fun _ _ _ => trivial⟩
  have h1 := (List.getElem?_eq_some_iff.mp hi).1
  have h2 := (List.getElem?_eq_some_iff.mp hj).1
  simp only [List.length_cons, List.length_nil] at h1 h2
  omega
theorem cell_i {c : ClassId} {n : Nat} {f g : Nat → Int32} (h : ∀ j, j < n → f j = g j) : vp_cell c (n, .inl f) = vp_cell c (n, .inl g) := by
  rw [vp_cell_i, vp_cell_i]
  unfold arrV
  congr 1
  exact congrArg Array.ofFn (funext fun j => by show Value.int (f j.val) = Value.int (g j.val); rw [h j.val j.isLt])
theorem cell_q {c : ClassId} {n : Nat} {f g : Nat → Option Nat} (h : ∀ j, j < n → f j = g j) : vp_cell c (n, .inr (.inr (.inr (.inr f)))) = vp_cell c (n, .inr (.inr (.inr (.inr g)))) := by
  rw [vp_cell_q, vp_cell_q]
  unfold arrV
  congr 1
  exact congrArg Array.ofFn (funext fun j => by show va_rf (f j.val) = va_rf (g j.val); rw [h j.val j.isLt])
theorem g_swap {D : va_G} {cl : List vw_C} {ws : va_W} {H : Heap} {k q N : Nat} {cG : ClassId} {f g : Nat → Option Nat} (ha : ws[k]? = some (q, gE cG N f)) (h : ∀ j, j < N → f j = g j) (hP : va_P D cl ws H) : va_P D cl (ws.set k (q, gE cG N g)) H := by
  have hl1 := (List.getElem?_eq_some_iff.mp ha).1
  intro j p hj
  by_cases hjk : j = k
  · subst hjk
    rw [List.getElem?_set_self hl1] at hj
    cases hj
    have h4 := hP j _ ha
    show H[q]? = some (vp_cell cG _)
    rw [← cell_q h]
    exact h4
  · rw [List.getElem?_set_ne (Ne.symm hjk)] at hj
    exact hP j p hj
section INR
variable {p : Program} {l : Launch} {e : Env} {R : Room} {s : State} {m : MethodId} {args : Array Value} {below : List Frame} {meth : Method} {c : Code} {H : Heap} {locs : List Loc} {cells slots : Nat} {Q : State → Prop}
variable {cc : ByteArray} {nL : Nat} {own : String} {D : va_G} {cI cG : ClassId} {ws : va_W} {A : Nat → Prop} {H0 : Heap} {pc : Nat} {ls : Array Slot} {rest st0 : List Value} {ret : Option FieldType}
theorem nw_ia (X : Cx p s m args meth c cc nL ret own D cI cG) (hP : va_P D vwCl ws H) (hD : va_D A ws) (hS : va_S A H0 H locs) (hA : ∀ q, H0.size ≤ q → A q) {n : Int32} {N : Nat} (hn : ¬ n < 0) (hN : n.toNatClampNeg = N) (hbytes : N * componentBytes .int ≤ 536870912) (hcells : cells + 1 ≤ R.cells) (hslots : slots + N ≤ R.slots) (hdg : decode cc pc = .ok (.newarray .int, 2))
    (k : ∀ (q : Nat) (H1 : Heap), va_P D vwCl (ws ++ [(q, .inl (cI, N, .inl (fun _ => 0)))]) H1 → va_D A (ws ++ [(q, .inl (cI, N, .inl (fun _ => 0)))]) → va_S A H0 H1 locs → W p l e R s m args below meth c H1 locs (cells + 1) (slots + N) Q (F0 m (pc + 2) ls (.ref q :: rest))) : W p l e R s m args below meth c H locs cells slots Q (F0 m pc ls (.int n :: rest)) := by
  have hk := X.2.2.2.2.2.2.2
  refine va_newa (atype := .int) (ty := .int) X.1 X.2.1 (X.2.2.2.2.2.2.1 _ w_arc) rfl hk.1 hP hD hS hA (a0 := (N, .inl (fun _ => 0))) (fun cA => rfl) hn hN hbytes hcells hslots hdg (fun q cA H1 hK2 hP2 hD2 hS2 => ?_)
  have e1 : va_RA s cA .int := (hK2.2 2 (cA, .int) rfl).2
  have e2 : va_RA s cI .int := (hk.1.2 0 (cI, .int) rfl).2
  have e3 : cA = cI := Option.some.inj (Eq.trans (Eq.symm e1) e2)
  subst e3
  exact k q H1 hP2 hD2 hS2
def rows (cI : ClassId) (N K : Nat) (r : Nat → Nat) : va_W := (List.range N).map (fun i => (r i, (.inl (cI, K, .inl (fun _ => 0)) : va_E)))
theorem nw_grid (X : Cx p s m args meth c cc nL ret own D cI cG) (hO : va_AOA .int s) {index : Nat} (hcl : Cond.classLink own index "[[I" ∈ tbG) (hP : va_P D vwCl ws H) (hD : va_D A ws) (hS : va_S A H0 H locs) (hA : ∀ q, H0.size ≤ q → A q) {n k : Int32} {N K : Nat} (hn : ¬ n < 0) (hk0 : ¬ k < 0) (hN : n.toNatClampNeg = N) (hM : k.toNatClampNeg = K)
    (hb1 : N * 4 ≤ 536870912) (hb2 : K * componentBytes .int ≤ 536870912) (hb3 : K ≤ 536870912) (hcells : cells + (1 + N) ≤ R.cells) (hslots : slots + (N + N * K) ≤ R.slots) (hdg : decode cc pc = .ok (.multianewarray index 2, 4))
    (kq : ∀ (q : Nat) (r : Nat → Nat) (H1 : Heap), va_P D vwCl ((ws ++ [(q, gE cG N (fun i => some (r i)))]) ++ rows cI N K r) H1 → va_D A ((ws ++ [(q, gE cG N (fun i => some (r i)))]) ++ rows cI N K r) → va_S A H0 H1 locs →
      W p l e R s m args below meth c H1 locs (cells + 1 + N) (slots + N + N * K) Q (F0 m (pc + 4) ls (.ref q :: rest))) : W p l e R s m args below meth c H locs cells slots Q (F0 m pc ls (.int k :: .int n :: rest)) := by
  have hk := X.2.2.2.2.2.2.2
  have eI : s.vm.findClass (FieldType.array .int).toString = some cI := (hk.1.2 0 (cI, .int) rfl).2
  have eG : s.vm.findClass ("[" ++ (FieldType.array .int).toString) = some cG := (hk.1.2 1 (cG, .array .int) rfl).2
  refine va_mna (X := ws) (L := []) (f := fun _ => .inl (cI, 0, .inl (fun _ => 0))) (ty := .int) (cy := cI) (z := (K, .inl (fun _ => 0))) X.1 X.2.1 X.2.2.2.2.2.1 (X.2.2.2.2.2.2.1 _ hcl) hO (X.2.2.2.2.2.2.1 _ w_arc) eI hk.1 (by simpa [va_pl] using hP) (by simpa [va_pl] using hD) hS hA hn hk0 hN hM hb1 hb2 hb3 rfl rfl hcells hslots (fun cc => by rw [vp_cell_i]; exact arrV_new cc K (.int 0)) hdg (fun q r cA H1 hinj hnl hK2 hP2 hD2 hS2 => ?_)
  have e1 : s.vm.findClass ("[" ++ (FieldType.array .int).toString) = some cA := (hK2.2 2 (cA, .array .int) rfl).2
  have e3 : cA = cG := Option.some.inj (e1.symm.trans eG)
  subst e3
  have hrow : va_pl ([] ++ (List.range N).map r) (vr_up (fun _ => .inl (cI, 0, .inl (fun _ => 0))) ((List.range N).map r) (.inl (cI, K, .inl (fun _ => 0)))) = rows cI N K r := by
    unfold va_pl rows
    rw [List.nil_append, List.map_map]
    apply List.map_congr_left
    intro i hi
    show (r i, vr_up _ _ _ (r i)) = _
    rw [vr_up_in (List.mem_map.mpr ⟨i, hi, rfl⟩)]
  rw [hrow] at hP2 hD2
  have hset : ∀ (x y : va_E) (j : Nat), ((ws ++ [(q, x)]) ++ rows cI N K r)[j]? = ((ws ++ [(q, y)]) ++ rows cI N K r)[j]? ∨ (j = ws.length ∧ ((ws ++ [(q, x)]) ++ rows cI N K r)[j]? = some (q, x) ∧ ((ws ++ [(q, y)]) ++ rows cI N K r)[j]? = some (q, y)) := by
    intro x y j
    rcases Nat.lt_trichotomy j ws.length with h | h | h
    · left; rw [List.append_assoc, List.append_assoc, List.getElem?_append_left h, List.getElem?_append_left h]
    · right
      subst h
      refine ⟨rfl, ?_, ?_⟩ <;> simp
    · left
      rw [List.getElem?_append_right (by simp; omega), List.getElem?_append_right (by simp; omega)]
      simp
  refine kq q r H1 (fun j p hj => ?_) ?_ hS2
  · rcases hset (gE cA N (fun i => if i < N then some (r i) else none)) (gE cA N (fun i => some (r i))) j with h | ⟨h1, h2, h3⟩
    · exact hP2 j p (h.trans hj)
    · rw [h3] at hj
      cases hj
      have h4 := hP2 j _ h2
      show H1[q]? = some (vp_cell cA _)
      rw [cell_q (f := fun i => some (r i)) (g := fun i => if i < N then some (r i) else none) (fun i hi => by simp [hi])]
      exact h4
  · have hset2 : ∀ (j : Nat) (p : Nat × va_E), ((ws ++ [(q, gE cA N (fun i => some (r i)))]) ++ rows cI N K r)[j]? = some p → ∃ p', ((ws ++ [(q, gE cA N (fun i => if i < N then some (r i) else none))]) ++ rows cI N K r)[j]? = some p' ∧ p'.1 = p.1 := by
      intro j p hj
      rcases hset (gE cA N (fun i => if i < N then some (r i) else none)) (gE cA N (fun i => some (r i))) j with h | ⟨h1, h2, h3⟩
      · exact ⟨p, h.trans hj, rfl⟩
      · rw [h3] at hj
        cases hj
        exact ⟨_, h2, rfl⟩
    refine ⟨fun i j x y hi hj hxy => ?_, fun j x hx => ?_⟩
    · obtain ⟨x', h1, h2⟩ := hset2 i x hi
      obtain ⟨y', h3, h4⟩ := hset2 j y hj
      exact hD2.1 i j x' y' h1 h3 (by rw [h2, h4]; exact hxy)
    · obtain ⟨x', h1, h2⟩ := hset2 j x hx
      rw [← h2]
      exact hD2.2 j x' h1
theorem in_obj (X : Cx p s m args meth c cc nL ret own D cI cG) {a idx : Nat} (hl : ls.size = nL) (h1 : Cond.methodLink own idx objectInit ∈ tbG) (hdg : decode cc pc = .ok (.invokespecial idx, 3)) (hframes : 1 ≤ R.frames) (hlocals : 12 ≤ R.locals)
    (k : W p l e R s m args below meth c H locs cells slots Q (F0 m (pc + 3) ls [])) : W p l e R s m args below meth c H locs cells slots Q (F0 m pc ls [.ref a]) :=
  W.objInit X.1 X.2.1 X.2.2.2.2.2.1 (X.2.2.2.2.2.2.1 _ h1) (X.2.2.2.2.2.2.1 _ w_im_Object__init_) (X.2.2.2.2.2.2.1 _ w_co_Object__init_) rfl (by rw [X.2.2.1]; exact hl) rfl hdg hframes hlocals k
end INR
theorem InM.of {l : Launch} {y : MethodName} {b : ByteArray} {fr lo mc ms : Nat} {D : va_G} {cI cG : ClassId} {h0 k0 : Nat} {e : va_E} {sz : Nat} {out : (Nat → Nat) → va_W} {own : String} (hy : plainName y.cls = true) (hny : y.name = "<init>") (ho : y.cls = own)
    (walk : ∀ (p : Program) (ev : Env) (s : State) (m : MethodId) (args : Array Value) (below : List Frame) (meth : Method) (c : Code) (ls : Array Slot) (A : Nat → Prop), Cx p s m args meth c b 1 none own D cI cG → kc D cI cG s → meth.name = "<init>" → A = va_A [(h0, e)] sz → va_P D vwCl [(h0, e)] s.heap → va_D A [(h0, e)] → va_S A s.heap s.heap [] → (∀ q : Nat, s.heap.size ≤ q → A q) → lv_has ls 1 [(0, .ref h0)] →
      W p l ev { frames := fr, cells := mc, slots := ms, locals := lo } s m args below meth c s.heap [] 0 0 (MQ below (inQ D h0 k0 [(h0, e)] sz out) args s mc ms (va_A [(h0, e)] sz)) (F0 m 0 ls [])) : InM l y b fr lo mc ms D cI cG h0 k0 e sz out := by
  refine Met.ofW (cc := b) (maxL := 1) (ret := none) hy rfl ?_
  intro p ev s m args below meth c s₁ B hml hv
  obtain ⟨rfl, hH, hP, hk⟩ := hv
  have hts := atoms_spec (ws := wd y b 1 none) B.pre
  have hown : s.vm.findClass own = some m.cls := by rw [← ho]; exact findClass_of_methodNamed B.named
  have hin : meth.name = "<init>" := by rw [← hny]; exact (name_of_methodNamed B.named B.method).1
  subst hH
  rw [lg_entry_eq]
  exact walk p ev s m _ below meth c _ _ ⟨B.exec, B.bytes, hml, B.returns, B.notSynchronized, hown, fun w h => hts w (List.mem_cons_of_mem _ h), hk.1⟩ hk hin rfl hP (d_one.self (sz := s.heap.size)) va_S.rf (fun q h => Or.inr h) (lv_entry [.ref h0] (n := 1) (Nat.le_of_ble_eq_true rfl))


/-- Arrays.fill: every place holds v -/
abbrev wF (cI : ClassId) (a N : Nat) (S : St) : va_W := [(a, .inl (cI, N, .inl (S 0)))]
theorem dF {cI : ClassId} {a N : Nat} (S : St) : va_D (fun x => x = a) (wF cI a N S) := by
  refine ⟨(d_one (x := (a, .inl (cI, N, .inl (S 0))))).1, fun k p hk => ?_⟩
  have h1 := (List.getElem?_eq_some_iff.mp hk).1
  simp only [wF, List.length_cons, List.length_nil] at h1
  rw [show k = 0 by omega] at hk
  cases hk
  rfl
set_option maxHeartbeats 4000000 in
set_option maxRecDepth 100000 in
theorem wk_fill {p : Program} {l : Launch} {e : Env} {s : State} {m : MethodId} {args : Array Value} {below : List Frame} {meth : Method} {c : Code} {D : va_G} {cI cG : ClassId} {a N : Nat} {v r : Int32} (hN : N < 2 ^ 31) (X : Cx p s m args meth c cJ7_fill_53178 4 none RJ7 D cI cG) :
    ∀ (n i : Nat) (x2 : Int32) (S : St) (ls : Array Slot) (locs : List Loc) (H : Heap), x2 = nI i → i ≤ N → N < i + n → (∀ j, j < i → S 0 j = v) → lv_has ls 4 [(0, .ref a), (1, .int v), (2, .int x2), (3, .int (nI N))] → va_P D vwCl (wF cI a N S) H → va_S (fun x => x = a) s.heap H locs →
      W p l e { frames := 0, cells := 0, slots := 0, locals := 0 } s m args below meth c H locs 0 0 (MQ below (rwQv (wF cI a N) D (fun x => x = a) (fun _ _ => v)) args s 0 0 (fun x => x = a)) (F0 m 5 ls []) := by
  have hx := X.1
  have hb := X.2.1
  intro n
  induction n with
  | zero => intro i x2 S ls locs H _ h1 h2; omega
  | succ n ih =>
    intro i x2 S ls locs H ex hi hn hv hl hP hS
    refine lv_iload_n hx hb dJ7_fill_53178_5 rfl (lv_at hl 2 rfl) ?_
    refine lv_iload_n hx hb dJ7_fill_53178_6 rfl (lv_at hl 3 rfl) ?_
    refine lv_icmp_ge (tgt := 20) hx hb dJ7_fill_53178_7 (by decide) (fun c1 => ?_) (fun c1 => ?_)
    · have hin : i = N := by
        rcases Nat.lt_or_ge i N with q | q
        · exact absurd c1 (by rw [ex]; exact nI_ge q hN)
        · omega
      have hP2 : va_P D vwCl (wF cI a N (fun _ _ => v)) H := by
        intro k p hk
        have h1 := (List.getElem?_eq_some_iff.mp hk).1
        simp only [wF, List.length_cons, List.length_nil] at h1
        rw [show k = 0 by omega] at hk
        cases hk
        have h2 := hP 0 _ rfl
        show H[a]? = some (vp_cell cI (N, .inl (fun _ => v)))
        rw [← cell_i (f := S 0) (fun j hj => hv j (by omega))]
        exact h2
      exact rw_retv (w := wF cI a N) (r := 0) (v := 0) X hP2 hS rfl dJ7_fill_53178_20
    · have hlt : i < N := by
        rcases Nat.lt_or_ge i N with q | q
        · exact q
        · exact absurd (by rw [ex]; exact nI_le q (by omega)) c1
      have hix : inb x2 N = true := by
        rw [ex]
        exact decide_eq_true (vp_in_nI hlt hN)
      refine lv_aload_n hx hb dJ7_fill_53178_10 rfl (lv_at hl 0 rfl) ?_
      refine lv_iload_n hx hb dJ7_fill_53178_11 rfl (lv_at hl 2 rfl) ?_
      refine lv_iload_n hx hb dJ7_fill_53178_12 rfl (lv_at hl 1 rfl) ?_
      refine rw_ast (w := wF cI a N) (S := S) X hP (dF S) hS 0 rfl rfl hix dJ7_fill_53178_13 (fun H locs hP hS => ?_)
      obtain ⟨v8, ev8⟩ : ∃ y : Int32, y = x2 + 1 := ⟨_, rfl⟩
      refine lv_iinc (v := v8) (lv' := [(2, .int v8), (0, .ref a), (1, .int v), (3, .int (nI N))]) hx hb dJ7_fill_53178_14 hl (k := 2) rfl (by rw [ev8]; rfl) (by decide) rfl (fun ls hl => ?_)
      refine lv_goto (tgt := 5) hx hb dJ7_fill_53178_17 (by decide) ?_
      refine ih (i + 1) v8 _ ls _ _ (by rw [ev8, ex]; exact nI_1 i) hlt (by omega) ?_ (lv_sub hl [1, 2, 0, 3] rfl) hP hS
      intro j hj
      show upd (S 0) (ix x2) v j = v
      have e1 : ix x2 = i := by rw [ex]; exact nI_clamp (by omega)
      unfold upd
      rw [e1]
      split
      · rfl
      · exact hv j (by omega)
set_option maxHeartbeats 4000000 in
set_option maxRecDepth 100000 in
theorem c_fill (l : Launch) (D : va_G) (cI cG : ClassId) (a N : Nat) (f : Nat → Int32) (H : Heap) (v : Int32) (hN : N < 2 ^ 31) : RwMv l yJ7_fill_53178 cJ7_fill_53178 4 none 0 0 [.ref a, .int v] D cI cG (wF cI a N) (fun x => x = a) (fun _ => f) H 0 (fun _ _ => v) := by
  refine RwMv.of (own := RJ7) (by decide) rfl (Nat.le_of_ble_eq_true rfl) ?_
  intro p e s m args below meth c ls X hP hS hl0
  have hl : lv_has ls 4 [(0, .ref a), (1, .int v)] := hl0 _ (lv_entry [.ref a, .int v] (n := 4) (Nat.le_of_ble_eq_true rfl))
  have hx := X.1
  have hb := X.2.1
  refine lv_iconst (v := 0) hx hb dJ7_fill_53178_0 (by decide) ?_
  refine lv_istore_n (lv' := [(2, .int 0), (0, .ref a), (1, .int v)]) hx hb dJ7_fill_53178_1 rfl hl (by decide) rfl (fun ls hl => ?_)
  refine lv_aload_n hx hb dJ7_fill_53178_2 rfl (lv_at hl 1 rfl) ?_
  refine va_alen (v := nI N) hx hb X.2.2.2.2.2.2.2.1 hP 0 0 rfl rfl rfl dJ7_fill_53178_3 ?_
  refine lv_istore_n (lv' := [(3, .int (nI N)), (2, .int 0), (0, .ref a), (1, .int v)]) hx hb dJ7_fill_53178_4 rfl hl (by decide) rfl (fun ls hl => ?_)
  exact wk_fill (r := 0) hN X (N + 1) 0 0 (fun _ => f) ls _ _ nI_0.symm (Nat.zero_le _) (by omega) (fun j hj => absurd hj (Nat.not_lt_zero j)) (lv_sub hl [2, 3, 1, 0] rfl) hP hS
section FIL
variable {p : Program} {l : Launch} {e : Env} {R : Room} {s : State} {m : MethodId} {args : Array Value} {below : List Frame} {meth : Method} {c : Code} {H : Heap} {locs : List Loc} {cells slots : Nat} {Q : State → Prop}
variable {cc : ByteArray} {nL : Nat} {own : String} {D : va_G} {cI cG : ClassId} {ws : va_W} {A : Nat → Prop} {H0 : Heap} {pc : Nat} {ls : Array Slot} {rest st0 : List Value} {ret : Option FieldType}
theorem in_fill (X : Cx p s m args meth c cc nL ret own D cI cG) {index : Nat} (hw : LinkS own index yJ7_fill_53178 cJ7_fill_53178 4 none 2) (hP : va_P D vwCl ws H) (hD : va_D A ws) (hS : va_S A H0 H locs) (hl : ls.size = nL) (k : Nat) {a N : Nat} {f : Nat → Int32} (ha : ws[k]? = some (a, .inl (cI, N, .inl f))) {v : Int32} (hN : N < 2 ^ 31)
    (hR : 1 ≤ R.frames ∧ 23 ≤ R.locals) (hcs : cells ≤ R.cells ∧ slots ≤ R.slots) (hdg : decode cc pc = .ok (.invokestatic index, 3))
    (kk : ∀ (H1 : Heap) (locs1 : List Loc), va_P D vwCl (ws.set k (a, .inl (cI, N, .inl (fun _ => v)))) H1 → va_D A (ws.set k (a, .inl (cI, N, .inl (fun _ => v)))) → va_S A H0 H1 locs1 → W p l e R s m args below meth c H1 locs1 cells slots Q (F0 m (pc + 3) ls [])) : W p l e R s m args below meth c H locs cells slots Q (F0 m pc ls [.int v, .ref a]) := by
  obtain ⟨hx, hb, hml, -, -, hown, hts, hk⟩ := X
  have hP1 : va_P D vwCl (wF cI a N (fun _ => f)) H := by
    intro j p hj
    have h1 := (List.getElem?_eq_some_iff.mp hj).1
    simp only [wF, List.length_cons, List.length_nil] at h1
    rw [show j = 0 by omega] at hj
    cases hj
    exact hP k _ ha
  have haA : A a := hD.2 k _ ha
  refine va_callv (va_runS (As := [.ref a, .int v]) (rest := []) (Ts := tbG) ⟨hx, hb, hml, hown, hts⟩ (c_fill l D cI cG a N f H v hN) (va_cwS 2 hts hw.1 rfl rfl rfl hw.2 ⟨hR.1, hR.2⟩) ⟨roP_blind, roP_warm hP1 hk⟩ rfl rfl hl rfl (lv_room (Nat.le_of_ble_eq_true rfl)) hdg hcs) hS (fun q _ h => by rw [h]; exact haA) (fun q h => by rw [h]; exact haA) (fun u t H1 locs1 ht hvm hw1 hB hz1 hk1 hS1 => ?_)
  subst hw1
  rw [ht] at hB
  have hl1 := (List.getElem?_eq_some_iff.mp ha).1
  refine kk H1 locs1 (fun j p hj => ?_) (hD.set ha) hS1
  by_cases hjk : j = k
  · subst hjk
    rw [List.getElem?_set_self hl1] at hj
    cases hj
    exact hB 0 _ rfl
  · rw [List.getElem?_set_ne (Ne.symm hjk)] at hj
    exact (hP j p hj).kept (hk1 p.1 (hP j p hj).lt (fun z => hjk (hD.1 j k p _ hj ha z)))
end FIL

def iX2 (cI cG : ClassId) (q : Nat → Nat) : va_W := [(q 3, .inr (2, [.ref (q 14), .int 0])), (q 14, .inl (cI, 40, .inl (fun _ => 0)))]
set_option maxHeartbeats 4000000 in
set_option maxRecDepth 100000 in
theorem c_X2_init (l : Launch) (D : va_G) (cI cG : ClassId) (h0 sz : Nat) : InM l yX2_init cX2_init 1 12 1 40 D cI cG h0 3 (.inr (2, [.null, .int 0])) sz (iX2 cI cG) := by
  refine InM.of (own := RX2) (by decide) rfl rfl ?_
  intro p e s m args below meth c ls A X hc hin hAe hP hD hS hA hl
  have hx := X.1
  have hb := X.2.1
  have hlocks : meth.locks = false := X.2.2.2.2.1
  refine lv_aload_n hx hb dX2_init_0 rfl (lv_at hl 0 rfl) ?_
  refine in_obj X hl.1 w_ml_X2_3 dX2_init_1 (Nat.le_of_ble_eq_true rfl) (Nat.le_of_ble_eq_true rfl) ?_
  refine lv_aload_n hx hb dX2_init_4 rfl (lv_at hl 0 rfl) ?_
  refine lv_bipush (v := (40 : Int32)) hx hb dX2_init_5 (by decide) ?_
  refine nw_ia (N := 40) X hP hD hS hA (by decide) (by decide) (by decide) (Nat.le_of_ble_eq_true rfl) (Nat.le_of_ble_eq_true rfl) dX2_init_7 (fun a7 H hP hD hS => ?_)
  have hP : va_P D vwCl [(h0, .inr (2, [.null, .int 0])), (a7, .inl (cI, 40, .inl (fun _ => 0)))] H := hP
  have hD : va_D A [(h0, .inr (2, [.null, .int 0])), (a7, .inl (cI, 40, .inl (fun _ => 0)))] := hD
  refine W.widen (k := 1) (n := 40) (by omega) (by omega) ?_
  refine va_putF (D := D) (ci := 2) (v := .ref (a7)) (ty := .array .int) (C := RX2) (T := TX2) (N := 2) hx hb X.2.2.2.2.2.2.1 inX2 tyX2 tyX2_ok nmX2 X.2.2.2.2.2.1 X.2.2.2.2.2.2.2.1 hP hD hS 0 rfl rfl 0 (by decide) (X.2.2.2.2.2.2.1 _ w_fl_X2_9) (fun _ h9 => h9) rfl hin rfl (by decide +kernel) rfl rfl (Nat.le_of_ble_eq_true rfl) dX2_init_9 (fun H locs hP hD hS => ?_)
  have hP : va_P D vwCl [(h0, .inr (2, [.ref a7, .int 0])), (a7, .inl (cI, 40, .inl (fun _ => 0)))] H := hP
  have hD : va_D A [(h0, .inr (2, [.ref a7, .int 0])), (a7, .inl (cI, 40, .inl (fun _ => 0)))] := hD
  obtain ⟨qf, hqf⟩ : ∃ qf : Nat → Nat, qf = (fun k => match k with | 14 => a7 | _ => h0) := ⟨_, rfl⟩
  exact W.vret hx hb X.2.2.2.1 (fun t ht hW => ⟨⟨qf, rfl, by subst hqf; rfl, by subst hqf; rw [ht]; exact hP, by subst hqf; rw [← hAe]; exact hD⟩, by rw [← hAe]; exact hS.F ht⟩) (by rw [← hAe]; exact hS.2.2) dX2_init_12
def iX1 (cI cG : ClassId) (q : Nat → Nat) : va_W := [(q 2, .inr (1, [.ref (q 11), .ref (q 12), .ref (q 13), .int 0])), (q 11, .inl (cI, 12, .inl (fun _ => 0))), (q 12, .inl (cI, 12, .inl (fun _ => 0))), (q 13, .inl (cI, 12, .inl (fun _ => 0)))]
set_option maxHeartbeats 4000000 in
set_option maxRecDepth 100000 in
theorem c_X1_init (l : Launch) (D : va_G) (cI cG : ClassId) (h0 sz : Nat) : InM l yX1_init cX1_init 1 12 3 36 D cI cG h0 2 (.inr (1, [.null, .null, .null, .int 0])) sz (iX1 cI cG) := by
  refine InM.of (own := RX1) (by decide) rfl rfl ?_
  intro p e s m args below meth c ls A X hc hin hAe hP hD hS hA hl
  have hx := X.1
  have hb := X.2.1
  have hlocks : meth.locks = false := X.2.2.2.2.1
  refine lv_aload_n hx hb dX1_init_0 rfl (lv_at hl 0 rfl) ?_
  refine in_obj X hl.1 w_ml_X1_3 dX1_init_1 (Nat.le_of_ble_eq_true rfl) (Nat.le_of_ble_eq_true rfl) ?_
  refine lv_aload_n hx hb dX1_init_4 rfl (lv_at hl 0 rfl) ?_
  refine lv_bipush (v := (12 : Int32)) hx hb dX1_init_5 (by decide) ?_
  refine nw_ia (N := 12) X hP hD hS hA (by decide) (by decide) (by decide) (Nat.le_of_ble_eq_true rfl) (Nat.le_of_ble_eq_true rfl) dX1_init_7 (fun a7 H hP hD hS => ?_)
  have hP : va_P D vwCl [(h0, .inr (1, [.null, .null, .null, .int 0])), (a7, .inl (cI, 12, .inl (fun _ => 0)))] H := hP
  have hD : va_D A [(h0, .inr (1, [.null, .null, .null, .int 0])), (a7, .inl (cI, 12, .inl (fun _ => 0)))] := hD
  refine W.widen (k := 1) (n := 12) (by omega) (by omega) ?_
  refine va_putF (D := D) (ci := 1) (v := .ref (a7)) (ty := .array .int) (C := RX1) (T := TX1) (N := 4) hx hb X.2.2.2.2.2.2.1 inX1 tyX1 tyX1_ok nmX1 X.2.2.2.2.2.1 X.2.2.2.2.2.2.2.1 hP hD hS 0 rfl rfl 0 (by decide) (X.2.2.2.2.2.2.1 _ w_fl_X1_9) (fun _ h9 => h9) rfl hin rfl (by decide +kernel) rfl rfl (Nat.le_of_ble_eq_true rfl) dX1_init_9 (fun H locs hP hD hS => ?_)
  have hP : va_P D vwCl [(h0, .inr (1, [.ref a7, .null, .null, .int 0])), (a7, .inl (cI, 12, .inl (fun _ => 0)))] H := hP
  have hD : va_D A [(h0, .inr (1, [.ref a7, .null, .null, .int 0])), (a7, .inl (cI, 12, .inl (fun _ => 0)))] := hD
  refine lv_aload_n hx hb dX1_init_12 rfl (lv_at hl 0 rfl) ?_
  refine lv_bipush (v := (12 : Int32)) hx hb dX1_init_13 (by decide) ?_
  refine nw_ia (N := 12) X hP hD hS hA (by decide) (by decide) (by decide) (Nat.le_of_ble_eq_true rfl) (Nat.le_of_ble_eq_true rfl) dX1_init_15 (fun a15 H hP hD hS => ?_)
  have hP : va_P D vwCl [(h0, .inr (1, [.ref a7, .null, .null, .int 0])), (a7, .inl (cI, 12, .inl (fun _ => 0))), (a15, .inl (cI, 12, .inl (fun _ => 0)))] H := hP
  have hD : va_D A [(h0, .inr (1, [.ref a7, .null, .null, .int 0])), (a7, .inl (cI, 12, .inl (fun _ => 0))), (a15, .inl (cI, 12, .inl (fun _ => 0)))] := hD
  refine W.widen (k := 2) (n := 24) (by omega) (by omega) ?_
  refine va_putF (D := D) (ci := 1) (v := .ref (a15)) (ty := .array .int) (C := RX1) (T := TX1) (N := 4) hx hb X.2.2.2.2.2.2.1 inX1 tyX1 tyX1_ok nmX1 X.2.2.2.2.2.1 X.2.2.2.2.2.2.2.1 hP hD hS 0 rfl rfl 1 (by decide) (X.2.2.2.2.2.2.1 _ w_fl_X1_15) (fun _ h9 => h9) rfl hin rfl (by decide +kernel) rfl rfl (Nat.le_of_ble_eq_true rfl) dX1_init_17 (fun H locs hP hD hS => ?_)
  have hP : va_P D vwCl [(h0, .inr (1, [.ref a7, .ref a15, .null, .int 0])), (a7, .inl (cI, 12, .inl (fun _ => 0))), (a15, .inl (cI, 12, .inl (fun _ => 0)))] H := hP
  have hD : va_D A [(h0, .inr (1, [.ref a7, .ref a15, .null, .int 0])), (a7, .inl (cI, 12, .inl (fun _ => 0))), (a15, .inl (cI, 12, .inl (fun _ => 0)))] := hD
  refine lv_aload_n hx hb dX1_init_20 rfl (lv_at hl 0 rfl) ?_
  refine lv_bipush (v := (12 : Int32)) hx hb dX1_init_21 (by decide) ?_
  refine nw_ia (N := 12) X hP hD hS hA (by decide) (by decide) (by decide) (Nat.le_of_ble_eq_true rfl) (Nat.le_of_ble_eq_true rfl) dX1_init_23 (fun a23 H hP hD hS => ?_)
  have hP : va_P D vwCl [(h0, .inr (1, [.ref a7, .ref a15, .null, .int 0])), (a7, .inl (cI, 12, .inl (fun _ => 0))), (a15, .inl (cI, 12, .inl (fun _ => 0))), (a23, .inl (cI, 12, .inl (fun _ => 0)))] H := hP
  have hD : va_D A [(h0, .inr (1, [.ref a7, .ref a15, .null, .int 0])), (a7, .inl (cI, 12, .inl (fun _ => 0))), (a15, .inl (cI, 12, .inl (fun _ => 0))), (a23, .inl (cI, 12, .inl (fun _ => 0)))] := hD
  refine W.widen (k := 3) (n := 36) (by omega) (by omega) ?_
  refine va_putF (D := D) (ci := 1) (v := .ref (a23)) (ty := .array .int) (C := RX1) (T := TX1) (N := 4) hx hb X.2.2.2.2.2.2.1 inX1 tyX1 tyX1_ok nmX1 X.2.2.2.2.2.1 X.2.2.2.2.2.2.2.1 hP hD hS 0 rfl rfl 2 (by decide) (X.2.2.2.2.2.2.1 _ w_fl_X1_18) (fun _ h9 => h9) rfl hin rfl (by decide +kernel) rfl rfl (Nat.le_of_ble_eq_true rfl) dX1_init_25 (fun H locs hP hD hS => ?_)
  have hP : va_P D vwCl [(h0, .inr (1, [.ref a7, .ref a15, .ref a23, .int 0])), (a7, .inl (cI, 12, .inl (fun _ => 0))), (a15, .inl (cI, 12, .inl (fun _ => 0))), (a23, .inl (cI, 12, .inl (fun _ => 0)))] H := hP
  have hD : va_D A [(h0, .inr (1, [.ref a7, .ref a15, .ref a23, .int 0])), (a7, .inl (cI, 12, .inl (fun _ => 0))), (a15, .inl (cI, 12, .inl (fun _ => 0))), (a23, .inl (cI, 12, .inl (fun _ => 0)))] := hD
  obtain ⟨qf, hqf⟩ : ∃ qf : Nat → Nat, qf = (fun k => match k with | 11 => a7 | 12 => a15 | 13 => a23 | _ => h0) := ⟨_, rfl⟩
  exact W.vret hx hb X.2.2.2.1 (fun t ht hW => ⟨⟨qf, rfl, by subst hqf; rfl, by subst hqf; rw [ht]; exact hP, by subst hqf; rw [← hAe]; exact hD⟩, by rw [← hAe]; exact hS.F ht⟩) (by rw [← hAe]; exact hS.2.2) dX1_init_28
def iX4 (cI cG : ClassId) (q : Nat → Nat) : va_W := [(q 0, .inr (4, [.ref (q 1), .ref (q 2), .ref (q 3), .ref (q 4), .ref (q 5), .ref (q 6), .ref (q 7), .int 0, .int 0, .ref (q 8), .ref (q 9), .int 0, .int 1, .ref (q 10), .int 0, .ref (q 11), .ref (q 12), .ref (q 13), .int 0, .int 0, .int 0])), (q 1, .inl (cI, 12, .inl (fun _ => 0))), (q 2, .inl (cI, 12, .inl (fun _ => 0))), (q 3, .inl (cI, 12, .inl (fun _ => 0))), (q 4, .inl (cI, 12, .inl (fun _ => 0))), (q 5, .inl (cI, 12, .inl (fun _ => 0))), (q 6, .inl (cI, 12, .inl (fun _ => 0))), (q 7, .inl (cI, 12, .inl (fun _ => 0))), (q 8, .inl (cI, 240, .inl (fun _ => 0))), (q 9, .inl (cI, 12, .inl (fun _ => 0))), (q 10, .inl (cI, 40, .inl (fun _ => 0))), (q 11, .inl (cI, 12, .inl (fun _ => 0))), (q 12, .inl (cI, 12, .inl (fun _ => 0))), (q 13, .inl (cI, 12, .inl (fun _ => 0)))]
set_option maxHeartbeats 4000000 in
set_option maxRecDepth 100000 in
theorem c_X4_init (l : Launch) (D : va_G) (cI cG : ClassId) (h0 sz : Nat) : InM l yX4_init cX4_init 1 12 13 412 D cI cG h0 0 (.inr (4, [.null, .null, .null, .null, .null, .null, .null, .int 0, .int 0, .null, .null, .int 0, .int 0, .null, .int 0, .null, .null, .null, .int 0, .int 0, .int 0])) sz (iX4 cI cG) := by
  refine InM.of (own := RX4) (by decide) rfl rfl ?_
  intro p e s m args below meth c ls A X hc hin hAe hP hD hS hA hl
  have hx := X.1
  have hb := X.2.1
  have hlocks : meth.locks = false := X.2.2.2.2.1
  refine lv_aload_n hx hb dX4_init_0 rfl (lv_at hl 0 rfl) ?_
  refine in_obj X hl.1 w_ml_X4_1 dX4_init_1 (Nat.le_of_ble_eq_true rfl) (Nat.le_of_ble_eq_true rfl) ?_
  refine lv_aload_n hx hb dX4_init_4 rfl (lv_at hl 0 rfl) ?_
  refine lv_bipush (v := (12 : Int32)) hx hb dX4_init_5 (by decide) ?_
  refine nw_ia (N := 12) X hP hD hS hA (by decide) (by decide) (by decide) (Nat.le_of_ble_eq_true rfl) (Nat.le_of_ble_eq_true rfl) dX4_init_7 (fun a7 H hP hD hS => ?_)
  have hP : va_P D vwCl [(h0, .inr (4, [.null, .null, .null, .null, .null, .null, .null, .int 0, .int 0, .null, .null, .int 0, .int 0, .null, .int 0, .null, .null, .null, .int 0, .int 0, .int 0])), (a7, .inl (cI, 12, .inl (fun _ => 0)))] H := hP
  have hD : va_D A [(h0, .inr (4, [.null, .null, .null, .null, .null, .null, .null, .int 0, .int 0, .null, .null, .int 0, .int 0, .null, .int 0, .null, .null, .null, .int 0, .int 0, .int 0])), (a7, .inl (cI, 12, .inl (fun _ => 0)))] := hD
  refine W.widen (k := 1) (n := 12) (by omega) (by omega) ?_
  refine va_putF (D := D) (ci := 4) (v := .ref (a7)) (ty := .array .int) (C := RX4) (T := TX4) (N := 21) hx hb X.2.2.2.2.2.2.1 inX4 tyX4 tyX4_ok nmX4 X.2.2.2.2.2.1 X.2.2.2.2.2.2.2.1 hP hD hS 0 rfl rfl 0 (by decide) (X.2.2.2.2.2.2.1 _ w_fl_X4_7) (fun _ h9 => h9) rfl hin rfl (by decide +kernel) rfl rfl (Nat.le_of_ble_eq_true rfl) dX4_init_9 (fun H locs hP hD hS => ?_)
  have hP : va_P D vwCl [(h0, .inr (4, [.ref a7, .null, .null, .null, .null, .null, .null, .int 0, .int 0, .null, .null, .int 0, .int 0, .null, .int 0, .null, .null, .null, .int 0, .int 0, .int 0])), (a7, .inl (cI, 12, .inl (fun _ => 0)))] H := hP
  have hD : va_D A [(h0, .inr (4, [.ref a7, .null, .null, .null, .null, .null, .null, .int 0, .int 0, .null, .null, .int 0, .int 0, .null, .int 0, .null, .null, .null, .int 0, .int 0, .int 0])), (a7, .inl (cI, 12, .inl (fun _ => 0)))] := hD
  refine lv_aload_n hx hb dX4_init_12 rfl (lv_at hl 0 rfl) ?_
  refine lv_bipush (v := (12 : Int32)) hx hb dX4_init_13 (by decide) ?_
  refine nw_ia (N := 12) X hP hD hS hA (by decide) (by decide) (by decide) (Nat.le_of_ble_eq_true rfl) (Nat.le_of_ble_eq_true rfl) dX4_init_15 (fun a15 H hP hD hS => ?_)
  have hP : va_P D vwCl [(h0, .inr (4, [.ref a7, .null, .null, .null, .null, .null, .null, .int 0, .int 0, .null, .null, .int 0, .int 0, .null, .int 0, .null, .null, .null, .int 0, .int 0, .int 0])), (a7, .inl (cI, 12, .inl (fun _ => 0))), (a15, .inl (cI, 12, .inl (fun _ => 0)))] H := hP
  have hD : va_D A [(h0, .inr (4, [.ref a7, .null, .null, .null, .null, .null, .null, .int 0, .int 0, .null, .null, .int 0, .int 0, .null, .int 0, .null, .null, .null, .int 0, .int 0, .int 0])), (a7, .inl (cI, 12, .inl (fun _ => 0))), (a15, .inl (cI, 12, .inl (fun _ => 0)))] := hD
  refine W.widen (k := 2) (n := 24) (by omega) (by omega) ?_
  refine va_putF (D := D) (ci := 4) (v := .ref (a15)) (ty := .array .int) (C := RX4) (T := TX4) (N := 21) hx hb X.2.2.2.2.2.2.1 inX4 tyX4 tyX4_ok nmX4 X.2.2.2.2.2.1 X.2.2.2.2.2.2.2.1 hP hD hS 0 rfl rfl 1 (by decide) (X.2.2.2.2.2.2.1 _ w_fl_X4_13) (fun _ h9 => h9) rfl hin rfl (by decide +kernel) rfl rfl (Nat.le_of_ble_eq_true rfl) dX4_init_17 (fun H locs hP hD hS => ?_)
  have hP : va_P D vwCl [(h0, .inr (4, [.ref a7, .ref a15, .null, .null, .null, .null, .null, .int 0, .int 0, .null, .null, .int 0, .int 0, .null, .int 0, .null, .null, .null, .int 0, .int 0, .int 0])), (a7, .inl (cI, 12, .inl (fun _ => 0))), (a15, .inl (cI, 12, .inl (fun _ => 0)))] H := hP
  have hD : va_D A [(h0, .inr (4, [.ref a7, .ref a15, .null, .null, .null, .null, .null, .int 0, .int 0, .null, .null, .int 0, .int 0, .null, .int 0, .null, .null, .null, .int 0, .int 0, .int 0])), (a7, .inl (cI, 12, .inl (fun _ => 0))), (a15, .inl (cI, 12, .inl (fun _ => 0)))] := hD
  refine lv_aload_n hx hb dX4_init_20 rfl (lv_at hl 0 rfl) ?_
  refine lv_bipush (v := (12 : Int32)) hx hb dX4_init_21 (by decide) ?_
  refine nw_ia (N := 12) X hP hD hS hA (by decide) (by decide) (by decide) (Nat.le_of_ble_eq_true rfl) (Nat.le_of_ble_eq_true rfl) dX4_init_23 (fun a23 H hP hD hS => ?_)
  have hP : va_P D vwCl [(h0, .inr (4, [.ref a7, .ref a15, .null, .null, .null, .null, .null, .int 0, .int 0, .null, .null, .int 0, .int 0, .null, .int 0, .null, .null, .null, .int 0, .int 0, .int 0])), (a7, .inl (cI, 12, .inl (fun _ => 0))), (a15, .inl (cI, 12, .inl (fun _ => 0))), (a23, .inl (cI, 12, .inl (fun _ => 0)))] H := hP
  have hD : va_D A [(h0, .inr (4, [.ref a7, .ref a15, .null, .null, .null, .null, .null, .int 0, .int 0, .null, .null, .int 0, .int 0, .null, .int 0, .null, .null, .null, .int 0, .int 0, .int 0])), (a7, .inl (cI, 12, .inl (fun _ => 0))), (a15, .inl (cI, 12, .inl (fun _ => 0))), (a23, .inl (cI, 12, .inl (fun _ => 0)))] := hD
  refine W.widen (k := 3) (n := 36) (by omega) (by omega) ?_
  refine va_putF (D := D) (ci := 4) (v := .ref (a23)) (ty := .array .int) (C := RX4) (T := TX4) (N := 21) hx hb X.2.2.2.2.2.2.1 inX4 tyX4 tyX4_ok nmX4 X.2.2.2.2.2.1 X.2.2.2.2.2.2.2.1 hP hD hS 0 rfl rfl 2 (by decide) (X.2.2.2.2.2.2.1 _ w_fl_X4_16) (fun _ h9 => h9) rfl hin rfl (by decide +kernel) rfl rfl (Nat.le_of_ble_eq_true rfl) dX4_init_25 (fun H locs hP hD hS => ?_)
  have hP : va_P D vwCl [(h0, .inr (4, [.ref a7, .ref a15, .ref a23, .null, .null, .null, .null, .int 0, .int 0, .null, .null, .int 0, .int 0, .null, .int 0, .null, .null, .null, .int 0, .int 0, .int 0])), (a7, .inl (cI, 12, .inl (fun _ => 0))), (a15, .inl (cI, 12, .inl (fun _ => 0))), (a23, .inl (cI, 12, .inl (fun _ => 0)))] H := hP
  have hD : va_D A [(h0, .inr (4, [.ref a7, .ref a15, .ref a23, .null, .null, .null, .null, .int 0, .int 0, .null, .null, .int 0, .int 0, .null, .int 0, .null, .null, .null, .int 0, .int 0, .int 0])), (a7, .inl (cI, 12, .inl (fun _ => 0))), (a15, .inl (cI, 12, .inl (fun _ => 0))), (a23, .inl (cI, 12, .inl (fun _ => 0)))] := hD
  refine lv_aload_n hx hb dX4_init_28 rfl (lv_at hl 0 rfl) ?_
  refine lv_bipush (v := (12 : Int32)) hx hb dX4_init_29 (by decide) ?_
  refine nw_ia (N := 12) X hP hD hS hA (by decide) (by decide) (by decide) (Nat.le_of_ble_eq_true rfl) (Nat.le_of_ble_eq_true rfl) dX4_init_31 (fun a31 H hP hD hS => ?_)
  have hP : va_P D vwCl [(h0, .inr (4, [.ref a7, .ref a15, .ref a23, .null, .null, .null, .null, .int 0, .int 0, .null, .null, .int 0, .int 0, .null, .int 0, .null, .null, .null, .int 0, .int 0, .int 0])), (a7, .inl (cI, 12, .inl (fun _ => 0))), (a15, .inl (cI, 12, .inl (fun _ => 0))), (a23, .inl (cI, 12, .inl (fun _ => 0))), (a31, .inl (cI, 12, .inl (fun _ => 0)))] H := hP
  have hD : va_D A [(h0, .inr (4, [.ref a7, .ref a15, .ref a23, .null, .null, .null, .null, .int 0, .int 0, .null, .null, .int 0, .int 0, .null, .int 0, .null, .null, .null, .int 0, .int 0, .int 0])), (a7, .inl (cI, 12, .inl (fun _ => 0))), (a15, .inl (cI, 12, .inl (fun _ => 0))), (a23, .inl (cI, 12, .inl (fun _ => 0))), (a31, .inl (cI, 12, .inl (fun _ => 0)))] := hD
  refine W.widen (k := 4) (n := 48) (by omega) (by omega) ?_
  refine va_putF (D := D) (ci := 4) (v := .ref (a31)) (ty := .array .int) (C := RX4) (T := TX4) (N := 21) hx hb X.2.2.2.2.2.2.1 inX4 tyX4 tyX4_ok nmX4 X.2.2.2.2.2.1 X.2.2.2.2.2.2.2.1 hP hD hS 0 rfl rfl 3 (by decide) (X.2.2.2.2.2.2.1 _ w_fl_X4_19) (fun _ h9 => h9) rfl hin rfl (by decide +kernel) rfl rfl (Nat.le_of_ble_eq_true rfl) dX4_init_33 (fun H locs hP hD hS => ?_)
  have hP : va_P D vwCl [(h0, .inr (4, [.ref a7, .ref a15, .ref a23, .ref a31, .null, .null, .null, .int 0, .int 0, .null, .null, .int 0, .int 0, .null, .int 0, .null, .null, .null, .int 0, .int 0, .int 0])), (a7, .inl (cI, 12, .inl (fun _ => 0))), (a15, .inl (cI, 12, .inl (fun _ => 0))), (a23, .inl (cI, 12, .inl (fun _ => 0))), (a31, .inl (cI, 12, .inl (fun _ => 0)))] H := hP
  have hD : va_D A [(h0, .inr (4, [.ref a7, .ref a15, .ref a23, .ref a31, .null, .null, .null, .int 0, .int 0, .null, .null, .int 0, .int 0, .null, .int 0, .null, .null, .null, .int 0, .int 0, .int 0])), (a7, .inl (cI, 12, .inl (fun _ => 0))), (a15, .inl (cI, 12, .inl (fun _ => 0))), (a23, .inl (cI, 12, .inl (fun _ => 0))), (a31, .inl (cI, 12, .inl (fun _ => 0)))] := hD
  refine lv_aload_n hx hb dX4_init_36 rfl (lv_at hl 0 rfl) ?_
  refine lv_bipush (v := (12 : Int32)) hx hb dX4_init_37 (by decide) ?_
  refine nw_ia (N := 12) X hP hD hS hA (by decide) (by decide) (by decide) (Nat.le_of_ble_eq_true rfl) (Nat.le_of_ble_eq_true rfl) dX4_init_39 (fun a39 H hP hD hS => ?_)
  have hP : va_P D vwCl [(h0, .inr (4, [.ref a7, .ref a15, .ref a23, .ref a31, .null, .null, .null, .int 0, .int 0, .null, .null, .int 0, .int 0, .null, .int 0, .null, .null, .null, .int 0, .int 0, .int 0])), (a7, .inl (cI, 12, .inl (fun _ => 0))), (a15, .inl (cI, 12, .inl (fun _ => 0))), (a23, .inl (cI, 12, .inl (fun _ => 0))), (a31, .inl (cI, 12, .inl (fun _ => 0))), (a39, .inl (cI, 12, .inl (fun _ => 0)))] H := hP
  have hD : va_D A [(h0, .inr (4, [.ref a7, .ref a15, .ref a23, .ref a31, .null, .null, .null, .int 0, .int 0, .null, .null, .int 0, .int 0, .null, .int 0, .null, .null, .null, .int 0, .int 0, .int 0])), (a7, .inl (cI, 12, .inl (fun _ => 0))), (a15, .inl (cI, 12, .inl (fun _ => 0))), (a23, .inl (cI, 12, .inl (fun _ => 0))), (a31, .inl (cI, 12, .inl (fun _ => 0))), (a39, .inl (cI, 12, .inl (fun _ => 0)))] := hD
  refine W.widen (k := 5) (n := 60) (by omega) (by omega) ?_
  refine va_putF (D := D) (ci := 4) (v := .ref (a39)) (ty := .array .int) (C := RX4) (T := TX4) (N := 21) hx hb X.2.2.2.2.2.2.1 inX4 tyX4 tyX4_ok nmX4 X.2.2.2.2.2.1 X.2.2.2.2.2.2.2.1 hP hD hS 0 rfl rfl 4 (by decide) (X.2.2.2.2.2.2.1 _ w_fl_X4_22) (fun _ h9 => h9) rfl hin rfl (by decide +kernel) rfl rfl (Nat.le_of_ble_eq_true rfl) dX4_init_41 (fun H locs hP hD hS => ?_)
  have hP : va_P D vwCl [(h0, .inr (4, [.ref a7, .ref a15, .ref a23, .ref a31, .ref a39, .null, .null, .int 0, .int 0, .null, .null, .int 0, .int 0, .null, .int 0, .null, .null, .null, .int 0, .int 0, .int 0])), (a7, .inl (cI, 12, .inl (fun _ => 0))), (a15, .inl (cI, 12, .inl (fun _ => 0))), (a23, .inl (cI, 12, .inl (fun _ => 0))), (a31, .inl (cI, 12, .inl (fun _ => 0))), (a39, .inl (cI, 12, .inl (fun _ => 0)))] H := hP
  have hD : va_D A [(h0, .inr (4, [.ref a7, .ref a15, .ref a23, .ref a31, .ref a39, .null, .null, .int 0, .int 0, .null, .null, .int 0, .int 0, .null, .int 0, .null, .null, .null, .int 0, .int 0, .int 0])), (a7, .inl (cI, 12, .inl (fun _ => 0))), (a15, .inl (cI, 12, .inl (fun _ => 0))), (a23, .inl (cI, 12, .inl (fun _ => 0))), (a31, .inl (cI, 12, .inl (fun _ => 0))), (a39, .inl (cI, 12, .inl (fun _ => 0)))] := hD
  refine lv_aload_n hx hb dX4_init_44 rfl (lv_at hl 0 rfl) ?_
  refine lv_bipush (v := (12 : Int32)) hx hb dX4_init_45 (by decide) ?_
  refine nw_ia (N := 12) X hP hD hS hA (by decide) (by decide) (by decide) (Nat.le_of_ble_eq_true rfl) (Nat.le_of_ble_eq_true rfl) dX4_init_47 (fun a47 H hP hD hS => ?_)
  have hP : va_P D vwCl [(h0, .inr (4, [.ref a7, .ref a15, .ref a23, .ref a31, .ref a39, .null, .null, .int 0, .int 0, .null, .null, .int 0, .int 0, .null, .int 0, .null, .null, .null, .int 0, .int 0, .int 0])), (a7, .inl (cI, 12, .inl (fun _ => 0))), (a15, .inl (cI, 12, .inl (fun _ => 0))), (a23, .inl (cI, 12, .inl (fun _ => 0))), (a31, .inl (cI, 12, .inl (fun _ => 0))), (a39, .inl (cI, 12, .inl (fun _ => 0))), (a47, .inl (cI, 12, .inl (fun _ => 0)))] H := hP
  have hD : va_D A [(h0, .inr (4, [.ref a7, .ref a15, .ref a23, .ref a31, .ref a39, .null, .null, .int 0, .int 0, .null, .null, .int 0, .int 0, .null, .int 0, .null, .null, .null, .int 0, .int 0, .int 0])), (a7, .inl (cI, 12, .inl (fun _ => 0))), (a15, .inl (cI, 12, .inl (fun _ => 0))), (a23, .inl (cI, 12, .inl (fun _ => 0))), (a31, .inl (cI, 12, .inl (fun _ => 0))), (a39, .inl (cI, 12, .inl (fun _ => 0))), (a47, .inl (cI, 12, .inl (fun _ => 0)))] := hD
  refine W.widen (k := 6) (n := 72) (by omega) (by omega) ?_
  refine va_putF (D := D) (ci := 4) (v := .ref (a47)) (ty := .array .int) (C := RX4) (T := TX4) (N := 21) hx hb X.2.2.2.2.2.2.1 inX4 tyX4 tyX4_ok nmX4 X.2.2.2.2.2.1 X.2.2.2.2.2.2.2.1 hP hD hS 0 rfl rfl 5 (by decide) (X.2.2.2.2.2.2.1 _ w_fl_X4_25) (fun _ h9 => h9) rfl hin rfl (by decide +kernel) rfl rfl (Nat.le_of_ble_eq_true rfl) dX4_init_49 (fun H locs hP hD hS => ?_)
  have hP : va_P D vwCl [(h0, .inr (4, [.ref a7, .ref a15, .ref a23, .ref a31, .ref a39, .ref a47, .null, .int 0, .int 0, .null, .null, .int 0, .int 0, .null, .int 0, .null, .null, .null, .int 0, .int 0, .int 0])), (a7, .inl (cI, 12, .inl (fun _ => 0))), (a15, .inl (cI, 12, .inl (fun _ => 0))), (a23, .inl (cI, 12, .inl (fun _ => 0))), (a31, .inl (cI, 12, .inl (fun _ => 0))), (a39, .inl (cI, 12, .inl (fun _ => 0))), (a47, .inl (cI, 12, .inl (fun _ => 0)))] H := hP
  have hD : va_D A [(h0, .inr (4, [.ref a7, .ref a15, .ref a23, .ref a31, .ref a39, .ref a47, .null, .int 0, .int 0, .null, .null, .int 0, .int 0, .null, .int 0, .null, .null, .null, .int 0, .int 0, .int 0])), (a7, .inl (cI, 12, .inl (fun _ => 0))), (a15, .inl (cI, 12, .inl (fun _ => 0))), (a23, .inl (cI, 12, .inl (fun _ => 0))), (a31, .inl (cI, 12, .inl (fun _ => 0))), (a39, .inl (cI, 12, .inl (fun _ => 0))), (a47, .inl (cI, 12, .inl (fun _ => 0)))] := hD
  refine lv_aload_n hx hb dX4_init_52 rfl (lv_at hl 0 rfl) ?_
  refine lv_bipush (v := (12 : Int32)) hx hb dX4_init_53 (by decide) ?_
  refine nw_ia (N := 12) X hP hD hS hA (by decide) (by decide) (by decide) (Nat.le_of_ble_eq_true rfl) (Nat.le_of_ble_eq_true rfl) dX4_init_55 (fun a55 H hP hD hS => ?_)
  have hP : va_P D vwCl [(h0, .inr (4, [.ref a7, .ref a15, .ref a23, .ref a31, .ref a39, .ref a47, .null, .int 0, .int 0, .null, .null, .int 0, .int 0, .null, .int 0, .null, .null, .null, .int 0, .int 0, .int 0])), (a7, .inl (cI, 12, .inl (fun _ => 0))), (a15, .inl (cI, 12, .inl (fun _ => 0))), (a23, .inl (cI, 12, .inl (fun _ => 0))), (a31, .inl (cI, 12, .inl (fun _ => 0))), (a39, .inl (cI, 12, .inl (fun _ => 0))), (a47, .inl (cI, 12, .inl (fun _ => 0))), (a55, .inl (cI, 12, .inl (fun _ => 0)))] H := hP
  have hD : va_D A [(h0, .inr (4, [.ref a7, .ref a15, .ref a23, .ref a31, .ref a39, .ref a47, .null, .int 0, .int 0, .null, .null, .int 0, .int 0, .null, .int 0, .null, .null, .null, .int 0, .int 0, .int 0])), (a7, .inl (cI, 12, .inl (fun _ => 0))), (a15, .inl (cI, 12, .inl (fun _ => 0))), (a23, .inl (cI, 12, .inl (fun _ => 0))), (a31, .inl (cI, 12, .inl (fun _ => 0))), (a39, .inl (cI, 12, .inl (fun _ => 0))), (a47, .inl (cI, 12, .inl (fun _ => 0))), (a55, .inl (cI, 12, .inl (fun _ => 0)))] := hD
  refine W.widen (k := 7) (n := 84) (by omega) (by omega) ?_
  refine va_putF (D := D) (ci := 4) (v := .ref (a55)) (ty := .array .int) (C := RX4) (T := TX4) (N := 21) hx hb X.2.2.2.2.2.2.1 inX4 tyX4 tyX4_ok nmX4 X.2.2.2.2.2.1 X.2.2.2.2.2.2.2.1 hP hD hS 0 rfl rfl 6 (by decide) (X.2.2.2.2.2.2.1 _ w_fl_X4_28) (fun _ h9 => h9) rfl hin rfl (by decide +kernel) rfl rfl (Nat.le_of_ble_eq_true rfl) dX4_init_57 (fun H locs hP hD hS => ?_)
  have hP : va_P D vwCl [(h0, .inr (4, [.ref a7, .ref a15, .ref a23, .ref a31, .ref a39, .ref a47, .ref a55, .int 0, .int 0, .null, .null, .int 0, .int 0, .null, .int 0, .null, .null, .null, .int 0, .int 0, .int 0])), (a7, .inl (cI, 12, .inl (fun _ => 0))), (a15, .inl (cI, 12, .inl (fun _ => 0))), (a23, .inl (cI, 12, .inl (fun _ => 0))), (a31, .inl (cI, 12, .inl (fun _ => 0))), (a39, .inl (cI, 12, .inl (fun _ => 0))), (a47, .inl (cI, 12, .inl (fun _ => 0))), (a55, .inl (cI, 12, .inl (fun _ => 0)))] H := hP
  have hD : va_D A [(h0, .inr (4, [.ref a7, .ref a15, .ref a23, .ref a31, .ref a39, .ref a47, .ref a55, .int 0, .int 0, .null, .null, .int 0, .int 0, .null, .int 0, .null, .null, .null, .int 0, .int 0, .int 0])), (a7, .inl (cI, 12, .inl (fun _ => 0))), (a15, .inl (cI, 12, .inl (fun _ => 0))), (a23, .inl (cI, 12, .inl (fun _ => 0))), (a31, .inl (cI, 12, .inl (fun _ => 0))), (a39, .inl (cI, 12, .inl (fun _ => 0))), (a47, .inl (cI, 12, .inl (fun _ => 0))), (a55, .inl (cI, 12, .inl (fun _ => 0)))] := hD
  refine lv_aload_n hx hb dX4_init_60 rfl (lv_at hl 0 rfl) ?_
  refine lv_sipush (v := (240 : Int32)) hx hb dX4_init_61 (by decide) ?_
  refine nw_ia (N := 240) X hP hD hS hA (by decide) (by decide) (by decide) (Nat.le_of_ble_eq_true rfl) (Nat.le_of_ble_eq_true rfl) dX4_init_64 (fun a64 H hP hD hS => ?_)
  have hP : va_P D vwCl [(h0, .inr (4, [.ref a7, .ref a15, .ref a23, .ref a31, .ref a39, .ref a47, .ref a55, .int 0, .int 0, .null, .null, .int 0, .int 0, .null, .int 0, .null, .null, .null, .int 0, .int 0, .int 0])), (a7, .inl (cI, 12, .inl (fun _ => 0))), (a15, .inl (cI, 12, .inl (fun _ => 0))), (a23, .inl (cI, 12, .inl (fun _ => 0))), (a31, .inl (cI, 12, .inl (fun _ => 0))), (a39, .inl (cI, 12, .inl (fun _ => 0))), (a47, .inl (cI, 12, .inl (fun _ => 0))), (a55, .inl (cI, 12, .inl (fun _ => 0))), (a64, .inl (cI, 240, .inl (fun _ => 0)))] H := hP
  have hD : va_D A [(h0, .inr (4, [.ref a7, .ref a15, .ref a23, .ref a31, .ref a39, .ref a47, .ref a55, .int 0, .int 0, .null, .null, .int 0, .int 0, .null, .int 0, .null, .null, .null, .int 0, .int 0, .int 0])), (a7, .inl (cI, 12, .inl (fun _ => 0))), (a15, .inl (cI, 12, .inl (fun _ => 0))), (a23, .inl (cI, 12, .inl (fun _ => 0))), (a31, .inl (cI, 12, .inl (fun _ => 0))), (a39, .inl (cI, 12, .inl (fun _ => 0))), (a47, .inl (cI, 12, .inl (fun _ => 0))), (a55, .inl (cI, 12, .inl (fun _ => 0))), (a64, .inl (cI, 240, .inl (fun _ => 0)))] := hD
  refine W.widen (k := 8) (n := 324) (by omega) (by omega) ?_
  refine va_putF (D := D) (ci := 4) (v := .ref (a64)) (ty := .array .int) (C := RX4) (T := TX4) (N := 21) hx hb X.2.2.2.2.2.2.1 inX4 tyX4 tyX4_ok nmX4 X.2.2.2.2.2.1 X.2.2.2.2.2.2.2.1 hP hD hS 0 rfl rfl 9 (by decide) (X.2.2.2.2.2.2.1 _ w_fl_X4_31) (fun _ h9 => h9) rfl hin rfl (by decide +kernel) rfl rfl (Nat.le_of_ble_eq_true rfl) dX4_init_66 (fun H locs hP hD hS => ?_)
  have hP : va_P D vwCl [(h0, .inr (4, [.ref a7, .ref a15, .ref a23, .ref a31, .ref a39, .ref a47, .ref a55, .int 0, .int 0, .ref a64, .null, .int 0, .int 0, .null, .int 0, .null, .null, .null, .int 0, .int 0, .int 0])), (a7, .inl (cI, 12, .inl (fun _ => 0))), (a15, .inl (cI, 12, .inl (fun _ => 0))), (a23, .inl (cI, 12, .inl (fun _ => 0))), (a31, .inl (cI, 12, .inl (fun _ => 0))), (a39, .inl (cI, 12, .inl (fun _ => 0))), (a47, .inl (cI, 12, .inl (fun _ => 0))), (a55, .inl (cI, 12, .inl (fun _ => 0))), (a64, .inl (cI, 240, .inl (fun _ => 0)))] H := hP
  have hD : va_D A [(h0, .inr (4, [.ref a7, .ref a15, .ref a23, .ref a31, .ref a39, .ref a47, .ref a55, .int 0, .int 0, .ref a64, .null, .int 0, .int 0, .null, .int 0, .null, .null, .null, .int 0, .int 0, .int 0])), (a7, .inl (cI, 12, .inl (fun _ => 0))), (a15, .inl (cI, 12, .inl (fun _ => 0))), (a23, .inl (cI, 12, .inl (fun _ => 0))), (a31, .inl (cI, 12, .inl (fun _ => 0))), (a39, .inl (cI, 12, .inl (fun _ => 0))), (a47, .inl (cI, 12, .inl (fun _ => 0))), (a55, .inl (cI, 12, .inl (fun _ => 0))), (a64, .inl (cI, 240, .inl (fun _ => 0)))] := hD
  refine lv_aload_n hx hb dX4_init_69 rfl (lv_at hl 0 rfl) ?_
  refine lv_bipush (v := (12 : Int32)) hx hb dX4_init_70 (by decide) ?_
  refine nw_ia (N := 12) X hP hD hS hA (by decide) (by decide) (by decide) (Nat.le_of_ble_eq_true rfl) (Nat.le_of_ble_eq_true rfl) dX4_init_72 (fun a72 H hP hD hS => ?_)
  have hP : va_P D vwCl [(h0, .inr (4, [.ref a7, .ref a15, .ref a23, .ref a31, .ref a39, .ref a47, .ref a55, .int 0, .int 0, .ref a64, .null, .int 0, .int 0, .null, .int 0, .null, .null, .null, .int 0, .int 0, .int 0])), (a7, .inl (cI, 12, .inl (fun _ => 0))), (a15, .inl (cI, 12, .inl (fun _ => 0))), (a23, .inl (cI, 12, .inl (fun _ => 0))), (a31, .inl (cI, 12, .inl (fun _ => 0))), (a39, .inl (cI, 12, .inl (fun _ => 0))), (a47, .inl (cI, 12, .inl (fun _ => 0))), (a55, .inl (cI, 12, .inl (fun _ => 0))), (a64, .inl (cI, 240, .inl (fun _ => 0))), (a72, .inl (cI, 12, .inl (fun _ => 0)))] H := hP
  have hD : va_D A [(h0, .inr (4, [.ref a7, .ref a15, .ref a23, .ref a31, .ref a39, .ref a47, .ref a55, .int 0, .int 0, .ref a64, .null, .int 0, .int 0, .null, .int 0, .null, .null, .null, .int 0, .int 0, .int 0])), (a7, .inl (cI, 12, .inl (fun _ => 0))), (a15, .inl (cI, 12, .inl (fun _ => 0))), (a23, .inl (cI, 12, .inl (fun _ => 0))), (a31, .inl (cI, 12, .inl (fun _ => 0))), (a39, .inl (cI, 12, .inl (fun _ => 0))), (a47, .inl (cI, 12, .inl (fun _ => 0))), (a55, .inl (cI, 12, .inl (fun _ => 0))), (a64, .inl (cI, 240, .inl (fun _ => 0))), (a72, .inl (cI, 12, .inl (fun _ => 0)))] := hD
  refine W.widen (k := 9) (n := 336) (by omega) (by omega) ?_
  refine va_putF (D := D) (ci := 4) (v := .ref (a72)) (ty := .array .int) (C := RX4) (T := TX4) (N := 21) hx hb X.2.2.2.2.2.2.1 inX4 tyX4 tyX4_ok nmX4 X.2.2.2.2.2.1 X.2.2.2.2.2.2.2.1 hP hD hS 0 rfl rfl 10 (by decide) (X.2.2.2.2.2.2.1 _ w_fl_X4_34) (fun _ h9 => h9) rfl hin rfl (by decide +kernel) rfl rfl (Nat.le_of_ble_eq_true rfl) dX4_init_74 (fun H locs hP hD hS => ?_)
  have hP : va_P D vwCl [(h0, .inr (4, [.ref a7, .ref a15, .ref a23, .ref a31, .ref a39, .ref a47, .ref a55, .int 0, .int 0, .ref a64, .ref a72, .int 0, .int 0, .null, .int 0, .null, .null, .null, .int 0, .int 0, .int 0])), (a7, .inl (cI, 12, .inl (fun _ => 0))), (a15, .inl (cI, 12, .inl (fun _ => 0))), (a23, .inl (cI, 12, .inl (fun _ => 0))), (a31, .inl (cI, 12, .inl (fun _ => 0))), (a39, .inl (cI, 12, .inl (fun _ => 0))), (a47, .inl (cI, 12, .inl (fun _ => 0))), (a55, .inl (cI, 12, .inl (fun _ => 0))), (a64, .inl (cI, 240, .inl (fun _ => 0))), (a72, .inl (cI, 12, .inl (fun _ => 0)))] H := hP
  have hD : va_D A [(h0, .inr (4, [.ref a7, .ref a15, .ref a23, .ref a31, .ref a39, .ref a47, .ref a55, .int 0, .int 0, .ref a64, .ref a72, .int 0, .int 0, .null, .int 0, .null, .null, .null, .int 0, .int 0, .int 0])), (a7, .inl (cI, 12, .inl (fun _ => 0))), (a15, .inl (cI, 12, .inl (fun _ => 0))), (a23, .inl (cI, 12, .inl (fun _ => 0))), (a31, .inl (cI, 12, .inl (fun _ => 0))), (a39, .inl (cI, 12, .inl (fun _ => 0))), (a47, .inl (cI, 12, .inl (fun _ => 0))), (a55, .inl (cI, 12, .inl (fun _ => 0))), (a64, .inl (cI, 240, .inl (fun _ => 0))), (a72, .inl (cI, 12, .inl (fun _ => 0)))] := hD
  refine lv_aload_n hx hb dX4_init_77 rfl (lv_at hl 0 rfl) ?_
  refine lv_bipush (v := (40 : Int32)) hx hb dX4_init_78 (by decide) ?_
  refine nw_ia (N := 40) X hP hD hS hA (by decide) (by decide) (by decide) (Nat.le_of_ble_eq_true rfl) (Nat.le_of_ble_eq_true rfl) dX4_init_80 (fun a80 H hP hD hS => ?_)
  have hP : va_P D vwCl [(h0, .inr (4, [.ref a7, .ref a15, .ref a23, .ref a31, .ref a39, .ref a47, .ref a55, .int 0, .int 0, .ref a64, .ref a72, .int 0, .int 0, .null, .int 0, .null, .null, .null, .int 0, .int 0, .int 0])), (a7, .inl (cI, 12, .inl (fun _ => 0))), (a15, .inl (cI, 12, .inl (fun _ => 0))), (a23, .inl (cI, 12, .inl (fun _ => 0))), (a31, .inl (cI, 12, .inl (fun _ => 0))), (a39, .inl (cI, 12, .inl (fun _ => 0))), (a47, .inl (cI, 12, .inl (fun _ => 0))), (a55, .inl (cI, 12, .inl (fun _ => 0))), (a64, .inl (cI, 240, .inl (fun _ => 0))), (a72, .inl (cI, 12, .inl (fun _ => 0))), (a80, .inl (cI, 40, .inl (fun _ => 0)))] H := hP
  have hD : va_D A [(h0, .inr (4, [.ref a7, .ref a15, .ref a23, .ref a31, .ref a39, .ref a47, .ref a55, .int 0, .int 0, .ref a64, .ref a72, .int 0, .int 0, .null, .int 0, .null, .null, .null, .int 0, .int 0, .int 0])), (a7, .inl (cI, 12, .inl (fun _ => 0))), (a15, .inl (cI, 12, .inl (fun _ => 0))), (a23, .inl (cI, 12, .inl (fun _ => 0))), (a31, .inl (cI, 12, .inl (fun _ => 0))), (a39, .inl (cI, 12, .inl (fun _ => 0))), (a47, .inl (cI, 12, .inl (fun _ => 0))), (a55, .inl (cI, 12, .inl (fun _ => 0))), (a64, .inl (cI, 240, .inl (fun _ => 0))), (a72, .inl (cI, 12, .inl (fun _ => 0))), (a80, .inl (cI, 40, .inl (fun _ => 0)))] := hD
  refine W.widen (k := 10) (n := 376) (by omega) (by omega) ?_
  refine va_putF (D := D) (ci := 4) (v := .ref (a80)) (ty := .array .int) (C := RX4) (T := TX4) (N := 21) hx hb X.2.2.2.2.2.2.1 inX4 tyX4 tyX4_ok nmX4 X.2.2.2.2.2.1 X.2.2.2.2.2.2.2.1 hP hD hS 0 rfl rfl 13 (by decide) (X.2.2.2.2.2.2.1 _ w_fl_X4_37) (fun _ h9 => h9) rfl hin rfl (by decide +kernel) rfl rfl (Nat.le_of_ble_eq_true rfl) dX4_init_82 (fun H locs hP hD hS => ?_)
  have hP : va_P D vwCl [(h0, .inr (4, [.ref a7, .ref a15, .ref a23, .ref a31, .ref a39, .ref a47, .ref a55, .int 0, .int 0, .ref a64, .ref a72, .int 0, .int 0, .ref a80, .int 0, .null, .null, .null, .int 0, .int 0, .int 0])), (a7, .inl (cI, 12, .inl (fun _ => 0))), (a15, .inl (cI, 12, .inl (fun _ => 0))), (a23, .inl (cI, 12, .inl (fun _ => 0))), (a31, .inl (cI, 12, .inl (fun _ => 0))), (a39, .inl (cI, 12, .inl (fun _ => 0))), (a47, .inl (cI, 12, .inl (fun _ => 0))), (a55, .inl (cI, 12, .inl (fun _ => 0))), (a64, .inl (cI, 240, .inl (fun _ => 0))), (a72, .inl (cI, 12, .inl (fun _ => 0))), (a80, .inl (cI, 40, .inl (fun _ => 0)))] H := hP
  have hD : va_D A [(h0, .inr (4, [.ref a7, .ref a15, .ref a23, .ref a31, .ref a39, .ref a47, .ref a55, .int 0, .int 0, .ref a64, .ref a72, .int 0, .int 0, .ref a80, .int 0, .null, .null, .null, .int 0, .int 0, .int 0])), (a7, .inl (cI, 12, .inl (fun _ => 0))), (a15, .inl (cI, 12, .inl (fun _ => 0))), (a23, .inl (cI, 12, .inl (fun _ => 0))), (a31, .inl (cI, 12, .inl (fun _ => 0))), (a39, .inl (cI, 12, .inl (fun _ => 0))), (a47, .inl (cI, 12, .inl (fun _ => 0))), (a55, .inl (cI, 12, .inl (fun _ => 0))), (a64, .inl (cI, 240, .inl (fun _ => 0))), (a72, .inl (cI, 12, .inl (fun _ => 0))), (a80, .inl (cI, 40, .inl (fun _ => 0)))] := hD
  refine lv_aload_n hx hb dX4_init_85 rfl (lv_at hl 0 rfl) ?_
  refine lv_bipush (v := (12 : Int32)) hx hb dX4_init_86 (by decide) ?_
  refine nw_ia (N := 12) X hP hD hS hA (by decide) (by decide) (by decide) (Nat.le_of_ble_eq_true rfl) (Nat.le_of_ble_eq_true rfl) dX4_init_88 (fun a88 H hP hD hS => ?_)
  have hP : va_P D vwCl [(h0, .inr (4, [.ref a7, .ref a15, .ref a23, .ref a31, .ref a39, .ref a47, .ref a55, .int 0, .int 0, .ref a64, .ref a72, .int 0, .int 0, .ref a80, .int 0, .null, .null, .null, .int 0, .int 0, .int 0])), (a7, .inl (cI, 12, .inl (fun _ => 0))), (a15, .inl (cI, 12, .inl (fun _ => 0))), (a23, .inl (cI, 12, .inl (fun _ => 0))), (a31, .inl (cI, 12, .inl (fun _ => 0))), (a39, .inl (cI, 12, .inl (fun _ => 0))), (a47, .inl (cI, 12, .inl (fun _ => 0))), (a55, .inl (cI, 12, .inl (fun _ => 0))), (a64, .inl (cI, 240, .inl (fun _ => 0))), (a72, .inl (cI, 12, .inl (fun _ => 0))), (a80, .inl (cI, 40, .inl (fun _ => 0))), (a88, .inl (cI, 12, .inl (fun _ => 0)))] H := hP
  have hD : va_D A [(h0, .inr (4, [.ref a7, .ref a15, .ref a23, .ref a31, .ref a39, .ref a47, .ref a55, .int 0, .int 0, .ref a64, .ref a72, .int 0, .int 0, .ref a80, .int 0, .null, .null, .null, .int 0, .int 0, .int 0])), (a7, .inl (cI, 12, .inl (fun _ => 0))), (a15, .inl (cI, 12, .inl (fun _ => 0))), (a23, .inl (cI, 12, .inl (fun _ => 0))), (a31, .inl (cI, 12, .inl (fun _ => 0))), (a39, .inl (cI, 12, .inl (fun _ => 0))), (a47, .inl (cI, 12, .inl (fun _ => 0))), (a55, .inl (cI, 12, .inl (fun _ => 0))), (a64, .inl (cI, 240, .inl (fun _ => 0))), (a72, .inl (cI, 12, .inl (fun _ => 0))), (a80, .inl (cI, 40, .inl (fun _ => 0))), (a88, .inl (cI, 12, .inl (fun _ => 0)))] := hD
  refine W.widen (k := 11) (n := 388) (by omega) (by omega) ?_
  refine va_putF (D := D) (ci := 4) (v := .ref (a88)) (ty := .array .int) (C := RX4) (T := TX4) (N := 21) hx hb X.2.2.2.2.2.2.1 inX4 tyX4 tyX4_ok nmX4 X.2.2.2.2.2.1 X.2.2.2.2.2.2.2.1 hP hD hS 0 rfl rfl 15 (by decide) (X.2.2.2.2.2.2.1 _ w_fl_X4_40) (fun _ h9 => h9) rfl hin rfl (by decide +kernel) rfl rfl (Nat.le_of_ble_eq_true rfl) dX4_init_90 (fun H locs hP hD hS => ?_)
  have hP : va_P D vwCl [(h0, .inr (4, [.ref a7, .ref a15, .ref a23, .ref a31, .ref a39, .ref a47, .ref a55, .int 0, .int 0, .ref a64, .ref a72, .int 0, .int 0, .ref a80, .int 0, .ref a88, .null, .null, .int 0, .int 0, .int 0])), (a7, .inl (cI, 12, .inl (fun _ => 0))), (a15, .inl (cI, 12, .inl (fun _ => 0))), (a23, .inl (cI, 12, .inl (fun _ => 0))), (a31, .inl (cI, 12, .inl (fun _ => 0))), (a39, .inl (cI, 12, .inl (fun _ => 0))), (a47, .inl (cI, 12, .inl (fun _ => 0))), (a55, .inl (cI, 12, .inl (fun _ => 0))), (a64, .inl (cI, 240, .inl (fun _ => 0))), (a72, .inl (cI, 12, .inl (fun _ => 0))), (a80, .inl (cI, 40, .inl (fun _ => 0))), (a88, .inl (cI, 12, .inl (fun _ => 0)))] H := hP
  have hD : va_D A [(h0, .inr (4, [.ref a7, .ref a15, .ref a23, .ref a31, .ref a39, .ref a47, .ref a55, .int 0, .int 0, .ref a64, .ref a72, .int 0, .int 0, .ref a80, .int 0, .ref a88, .null, .null, .int 0, .int 0, .int 0])), (a7, .inl (cI, 12, .inl (fun _ => 0))), (a15, .inl (cI, 12, .inl (fun _ => 0))), (a23, .inl (cI, 12, .inl (fun _ => 0))), (a31, .inl (cI, 12, .inl (fun _ => 0))), (a39, .inl (cI, 12, .inl (fun _ => 0))), (a47, .inl (cI, 12, .inl (fun _ => 0))), (a55, .inl (cI, 12, .inl (fun _ => 0))), (a64, .inl (cI, 240, .inl (fun _ => 0))), (a72, .inl (cI, 12, .inl (fun _ => 0))), (a80, .inl (cI, 40, .inl (fun _ => 0))), (a88, .inl (cI, 12, .inl (fun _ => 0)))] := hD
  refine lv_aload_n hx hb dX4_init_93 rfl (lv_at hl 0 rfl) ?_
  refine lv_bipush (v := (12 : Int32)) hx hb dX4_init_94 (by decide) ?_
  refine nw_ia (N := 12) X hP hD hS hA (by decide) (by decide) (by decide) (Nat.le_of_ble_eq_true rfl) (Nat.le_of_ble_eq_true rfl) dX4_init_96 (fun a96 H hP hD hS => ?_)
  have hP : va_P D vwCl [(h0, .inr (4, [.ref a7, .ref a15, .ref a23, .ref a31, .ref a39, .ref a47, .ref a55, .int 0, .int 0, .ref a64, .ref a72, .int 0, .int 0, .ref a80, .int 0, .ref a88, .null, .null, .int 0, .int 0, .int 0])), (a7, .inl (cI, 12, .inl (fun _ => 0))), (a15, .inl (cI, 12, .inl (fun _ => 0))), (a23, .inl (cI, 12, .inl (fun _ => 0))), (a31, .inl (cI, 12, .inl (fun _ => 0))), (a39, .inl (cI, 12, .inl (fun _ => 0))), (a47, .inl (cI, 12, .inl (fun _ => 0))), (a55, .inl (cI, 12, .inl (fun _ => 0))), (a64, .inl (cI, 240, .inl (fun _ => 0))), (a72, .inl (cI, 12, .inl (fun _ => 0))), (a80, .inl (cI, 40, .inl (fun _ => 0))), (a88, .inl (cI, 12, .inl (fun _ => 0))), (a96, .inl (cI, 12, .inl (fun _ => 0)))] H := hP
  have hD : va_D A [(h0, .inr (4, [.ref a7, .ref a15, .ref a23, .ref a31, .ref a39, .ref a47, .ref a55, .int 0, .int 0, .ref a64, .ref a72, .int 0, .int 0, .ref a80, .int 0, .ref a88, .null, .null, .int 0, .int 0, .int 0])), (a7, .inl (cI, 12, .inl (fun _ => 0))), (a15, .inl (cI, 12, .inl (fun _ => 0))), (a23, .inl (cI, 12, .inl (fun _ => 0))), (a31, .inl (cI, 12, .inl (fun _ => 0))), (a39, .inl (cI, 12, .inl (fun _ => 0))), (a47, .inl (cI, 12, .inl (fun _ => 0))), (a55, .inl (cI, 12, .inl (fun _ => 0))), (a64, .inl (cI, 240, .inl (fun _ => 0))), (a72, .inl (cI, 12, .inl (fun _ => 0))), (a80, .inl (cI, 40, .inl (fun _ => 0))), (a88, .inl (cI, 12, .inl (fun _ => 0))), (a96, .inl (cI, 12, .inl (fun _ => 0)))] := hD
  refine W.widen (k := 12) (n := 400) (by omega) (by omega) ?_
  refine va_putF (D := D) (ci := 4) (v := .ref (a96)) (ty := .array .int) (C := RX4) (T := TX4) (N := 21) hx hb X.2.2.2.2.2.2.1 inX4 tyX4 tyX4_ok nmX4 X.2.2.2.2.2.1 X.2.2.2.2.2.2.2.1 hP hD hS 0 rfl rfl 16 (by decide) (X.2.2.2.2.2.2.1 _ w_fl_X4_43) (fun _ h9 => h9) rfl hin rfl (by decide +kernel) rfl rfl (Nat.le_of_ble_eq_true rfl) dX4_init_98 (fun H locs hP hD hS => ?_)
  have hP : va_P D vwCl [(h0, .inr (4, [.ref a7, .ref a15, .ref a23, .ref a31, .ref a39, .ref a47, .ref a55, .int 0, .int 0, .ref a64, .ref a72, .int 0, .int 0, .ref a80, .int 0, .ref a88, .ref a96, .null, .int 0, .int 0, .int 0])), (a7, .inl (cI, 12, .inl (fun _ => 0))), (a15, .inl (cI, 12, .inl (fun _ => 0))), (a23, .inl (cI, 12, .inl (fun _ => 0))), (a31, .inl (cI, 12, .inl (fun _ => 0))), (a39, .inl (cI, 12, .inl (fun _ => 0))), (a47, .inl (cI, 12, .inl (fun _ => 0))), (a55, .inl (cI, 12, .inl (fun _ => 0))), (a64, .inl (cI, 240, .inl (fun _ => 0))), (a72, .inl (cI, 12, .inl (fun _ => 0))), (a80, .inl (cI, 40, .inl (fun _ => 0))), (a88, .inl (cI, 12, .inl (fun _ => 0))), (a96, .inl (cI, 12, .inl (fun _ => 0)))] H := hP
  have hD : va_D A [(h0, .inr (4, [.ref a7, .ref a15, .ref a23, .ref a31, .ref a39, .ref a47, .ref a55, .int 0, .int 0, .ref a64, .ref a72, .int 0, .int 0, .ref a80, .int 0, .ref a88, .ref a96, .null, .int 0, .int 0, .int 0])), (a7, .inl (cI, 12, .inl (fun _ => 0))), (a15, .inl (cI, 12, .inl (fun _ => 0))), (a23, .inl (cI, 12, .inl (fun _ => 0))), (a31, .inl (cI, 12, .inl (fun _ => 0))), (a39, .inl (cI, 12, .inl (fun _ => 0))), (a47, .inl (cI, 12, .inl (fun _ => 0))), (a55, .inl (cI, 12, .inl (fun _ => 0))), (a64, .inl (cI, 240, .inl (fun _ => 0))), (a72, .inl (cI, 12, .inl (fun _ => 0))), (a80, .inl (cI, 40, .inl (fun _ => 0))), (a88, .inl (cI, 12, .inl (fun _ => 0))), (a96, .inl (cI, 12, .inl (fun _ => 0)))] := hD
  refine lv_aload_n hx hb dX4_init_101 rfl (lv_at hl 0 rfl) ?_
  refine lv_bipush (v := (12 : Int32)) hx hb dX4_init_102 (by decide) ?_
  refine nw_ia (N := 12) X hP hD hS hA (by decide) (by decide) (by decide) (Nat.le_of_ble_eq_true rfl) (Nat.le_of_ble_eq_true rfl) dX4_init_104 (fun a104 H hP hD hS => ?_)
  have hP : va_P D vwCl [(h0, .inr (4, [.ref a7, .ref a15, .ref a23, .ref a31, .ref a39, .ref a47, .ref a55, .int 0, .int 0, .ref a64, .ref a72, .int 0, .int 0, .ref a80, .int 0, .ref a88, .ref a96, .null, .int 0, .int 0, .int 0])), (a7, .inl (cI, 12, .inl (fun _ => 0))), (a15, .inl (cI, 12, .inl (fun _ => 0))), (a23, .inl (cI, 12, .inl (fun _ => 0))), (a31, .inl (cI, 12, .inl (fun _ => 0))), (a39, .inl (cI, 12, .inl (fun _ => 0))), (a47, .inl (cI, 12, .inl (fun _ => 0))), (a55, .inl (cI, 12, .inl (fun _ => 0))), (a64, .inl (cI, 240, .inl (fun _ => 0))), (a72, .inl (cI, 12, .inl (fun _ => 0))), (a80, .inl (cI, 40, .inl (fun _ => 0))), (a88, .inl (cI, 12, .inl (fun _ => 0))), (a96, .inl (cI, 12, .inl (fun _ => 0))), (a104, .inl (cI, 12, .inl (fun _ => 0)))] H := hP
  have hD : va_D A [(h0, .inr (4, [.ref a7, .ref a15, .ref a23, .ref a31, .ref a39, .ref a47, .ref a55, .int 0, .int 0, .ref a64, .ref a72, .int 0, .int 0, .ref a80, .int 0, .ref a88, .ref a96, .null, .int 0, .int 0, .int 0])), (a7, .inl (cI, 12, .inl (fun _ => 0))), (a15, .inl (cI, 12, .inl (fun _ => 0))), (a23, .inl (cI, 12, .inl (fun _ => 0))), (a31, .inl (cI, 12, .inl (fun _ => 0))), (a39, .inl (cI, 12, .inl (fun _ => 0))), (a47, .inl (cI, 12, .inl (fun _ => 0))), (a55, .inl (cI, 12, .inl (fun _ => 0))), (a64, .inl (cI, 240, .inl (fun _ => 0))), (a72, .inl (cI, 12, .inl (fun _ => 0))), (a80, .inl (cI, 40, .inl (fun _ => 0))), (a88, .inl (cI, 12, .inl (fun _ => 0))), (a96, .inl (cI, 12, .inl (fun _ => 0))), (a104, .inl (cI, 12, .inl (fun _ => 0)))] := hD
  refine W.widen (k := 13) (n := 412) (by omega) (by omega) ?_
  refine va_putF (D := D) (ci := 4) (v := .ref (a104)) (ty := .array .int) (C := RX4) (T := TX4) (N := 21) hx hb X.2.2.2.2.2.2.1 inX4 tyX4 tyX4_ok nmX4 X.2.2.2.2.2.1 X.2.2.2.2.2.2.2.1 hP hD hS 0 rfl rfl 17 (by decide) (X.2.2.2.2.2.2.1 _ w_fl_X4_46) (fun _ h9 => h9) rfl hin rfl (by decide +kernel) rfl rfl (Nat.le_of_ble_eq_true rfl) dX4_init_106 (fun H locs hP hD hS => ?_)
  have hP : va_P D vwCl [(h0, .inr (4, [.ref a7, .ref a15, .ref a23, .ref a31, .ref a39, .ref a47, .ref a55, .int 0, .int 0, .ref a64, .ref a72, .int 0, .int 0, .ref a80, .int 0, .ref a88, .ref a96, .ref a104, .int 0, .int 0, .int 0])), (a7, .inl (cI, 12, .inl (fun _ => 0))), (a15, .inl (cI, 12, .inl (fun _ => 0))), (a23, .inl (cI, 12, .inl (fun _ => 0))), (a31, .inl (cI, 12, .inl (fun _ => 0))), (a39, .inl (cI, 12, .inl (fun _ => 0))), (a47, .inl (cI, 12, .inl (fun _ => 0))), (a55, .inl (cI, 12, .inl (fun _ => 0))), (a64, .inl (cI, 240, .inl (fun _ => 0))), (a72, .inl (cI, 12, .inl (fun _ => 0))), (a80, .inl (cI, 40, .inl (fun _ => 0))), (a88, .inl (cI, 12, .inl (fun _ => 0))), (a96, .inl (cI, 12, .inl (fun _ => 0))), (a104, .inl (cI, 12, .inl (fun _ => 0)))] H := hP
  have hD : va_D A [(h0, .inr (4, [.ref a7, .ref a15, .ref a23, .ref a31, .ref a39, .ref a47, .ref a55, .int 0, .int 0, .ref a64, .ref a72, .int 0, .int 0, .ref a80, .int 0, .ref a88, .ref a96, .ref a104, .int 0, .int 0, .int 0])), (a7, .inl (cI, 12, .inl (fun _ => 0))), (a15, .inl (cI, 12, .inl (fun _ => 0))), (a23, .inl (cI, 12, .inl (fun _ => 0))), (a31, .inl (cI, 12, .inl (fun _ => 0))), (a39, .inl (cI, 12, .inl (fun _ => 0))), (a47, .inl (cI, 12, .inl (fun _ => 0))), (a55, .inl (cI, 12, .inl (fun _ => 0))), (a64, .inl (cI, 240, .inl (fun _ => 0))), (a72, .inl (cI, 12, .inl (fun _ => 0))), (a80, .inl (cI, 40, .inl (fun _ => 0))), (a88, .inl (cI, 12, .inl (fun _ => 0))), (a96, .inl (cI, 12, .inl (fun _ => 0))), (a104, .inl (cI, 12, .inl (fun _ => 0)))] := hD
  refine lv_aload_n hx hb dX4_init_109 rfl (lv_at hl 0 rfl) ?_
  refine lv_iconst (v := (1 : Int32)) hx hb dX4_init_110 (by decide) ?_
  refine va_put (D := D) (ci := 4) (v := .int 1) (ty := .int) (C := RX4) (T := TX4) (N := 21) hx hb X.2.2.2.2.2.2.1 inX4 tyX4 tyX4_ok nmX4 X.2.2.2.2.2.1 X.2.2.2.2.2.2.2.1 hP hD hS 0 rfl rfl 12 (by decide) (X.2.2.2.2.2.2.1 _ w_fl_X4_49) (fun _ h9 => h9) rfl (by decide +kernel) rfl rfl (Nat.le_of_ble_eq_true rfl) dX4_init_111 (fun H locs hP hD hS => ?_)
  have hP : va_P D vwCl [(h0, .inr (4, [.ref a7, .ref a15, .ref a23, .ref a31, .ref a39, .ref a47, .ref a55, .int 0, .int 0, .ref a64, .ref a72, .int 0, .int 1, .ref a80, .int 0, .ref a88, .ref a96, .ref a104, .int 0, .int 0, .int 0])), (a7, .inl (cI, 12, .inl (fun _ => 0))), (a15, .inl (cI, 12, .inl (fun _ => 0))), (a23, .inl (cI, 12, .inl (fun _ => 0))), (a31, .inl (cI, 12, .inl (fun _ => 0))), (a39, .inl (cI, 12, .inl (fun _ => 0))), (a47, .inl (cI, 12, .inl (fun _ => 0))), (a55, .inl (cI, 12, .inl (fun _ => 0))), (a64, .inl (cI, 240, .inl (fun _ => 0))), (a72, .inl (cI, 12, .inl (fun _ => 0))), (a80, .inl (cI, 40, .inl (fun _ => 0))), (a88, .inl (cI, 12, .inl (fun _ => 0))), (a96, .inl (cI, 12, .inl (fun _ => 0))), (a104, .inl (cI, 12, .inl (fun _ => 0)))] H := hP
  have hD : va_D A [(h0, .inr (4, [.ref a7, .ref a15, .ref a23, .ref a31, .ref a39, .ref a47, .ref a55, .int 0, .int 0, .ref a64, .ref a72, .int 0, .int 1, .ref a80, .int 0, .ref a88, .ref a96, .ref a104, .int 0, .int 0, .int 0])), (a7, .inl (cI, 12, .inl (fun _ => 0))), (a15, .inl (cI, 12, .inl (fun _ => 0))), (a23, .inl (cI, 12, .inl (fun _ => 0))), (a31, .inl (cI, 12, .inl (fun _ => 0))), (a39, .inl (cI, 12, .inl (fun _ => 0))), (a47, .inl (cI, 12, .inl (fun _ => 0))), (a55, .inl (cI, 12, .inl (fun _ => 0))), (a64, .inl (cI, 240, .inl (fun _ => 0))), (a72, .inl (cI, 12, .inl (fun _ => 0))), (a80, .inl (cI, 40, .inl (fun _ => 0))), (a88, .inl (cI, 12, .inl (fun _ => 0))), (a96, .inl (cI, 12, .inl (fun _ => 0))), (a104, .inl (cI, 12, .inl (fun _ => 0)))] := hD
  obtain ⟨qf, hqf⟩ : ∃ qf : Nat → Nat, qf = (fun k => match k with | 1 => a7 | 2 => a15 | 3 => a23 | 4 => a31 | 5 => a39 | 6 => a47 | 7 => a55 | 8 => a64 | 9 => a72 | 10 => a80 | 11 => a88 | 12 => a96 | 13 => a104 | _ => h0) := ⟨_, rfl⟩
  exact W.vret hx hb X.2.2.2.1 (fun t ht hW => ⟨⟨qf, rfl, by subst hqf; rfl, by subst hqf; rw [ht]; exact hP, by subst hqf; rw [← hAe]; exact hD⟩, by rw [← hAe]; exact hS.F ht⟩) (by rw [← hAe]; exact hS.2.2) dX4_init_114
def iX0 (cI cG : ClassId) (q : Nat → Nat) : va_W := [(q 1, .inr (0, [.ref (q 4), .ref (q 5), .ref (q 6), .ref (q 7), .ref (q 8), .ref (q 9), .ref (q 10), .int 0])), (q 4, .inl (cI, 12, .inl (fun _ => 0))), (q 5, .inl (cI, 12, .inl (fun _ => 0))), (q 6, .inl (cI, 12, .inl (fun _ => 0))), (q 7, .inl (cI, 12, .inl (fun _ => 0))), (q 8, gE cG 4 (fun i => some (q (15 + i)))), (q 15, .inl (cI, 12, .inl (fun _ => 0))), (q 16, .inl (cI, 12, .inl (fun _ => 99))), (q 17, .inl (cI, 12, .inl (fun _ => -1))), (q 18, .inl (cI, 12, .inl (fun _ => 0))), (q 9, .inl (cI, 12, .inl (fun _ => 0))), (q 10, gE cG 12 (fun i => some (q (19 + i)))), (q 19, .inl (cI, 20, .inl (fun _ => 0))), (q 20, .inl (cI, 20, .inl (fun _ => 0))), (q 21, .inl (cI, 20, .inl (fun _ => 0))), (q 22, .inl (cI, 20, .inl (fun _ => 0))), (q 23, .inl (cI, 20, .inl (fun _ => 0))), (q 24, .inl (cI, 20, .inl (fun _ => 0))), (q 25, .inl (cI, 20, .inl (fun _ => 0))), (q 26, .inl (cI, 20, .inl (fun _ => 0))), (q 27, .inl (cI, 20, .inl (fun _ => 0))), (q 28, .inl (cI, 20, .inl (fun _ => 0))), (q 29, .inl (cI, 20, .inl (fun _ => 0))), (q 30, .inl (cI, 20, .inl (fun _ => 0)))]
set_option maxHeartbeats 4000000 in
set_option maxRecDepth 100000 in
theorem c_X0_init (l : Launch) (D : va_G) (cI cG : ClassId) (h0 sz : Nat) : InM l yX0_init cX0_init 1 23 23 364 D cI cG h0 1 (.inr (0, [.null, .null, .null, .null, .null, .null, .null, .int 0])) sz (iX0 cI cG) := by
  refine InM.of (own := RX0) (by decide) rfl rfl ?_
  intro p e s m args below meth c ls A X hc hin hAe hP hD hS hA hl
  have hx := X.1
  have hb := X.2.1
  have hlocks : meth.locks = false := X.2.2.2.2.1
  refine lv_aload_n hx hb dX0_init_0 rfl (lv_at hl 0 rfl) ?_
  refine in_obj X hl.1 w_ml_X0_3 dX0_init_1 (Nat.le_of_ble_eq_true rfl) (Nat.le_of_ble_eq_true rfl) ?_
  refine lv_aload_n hx hb dX0_init_4 rfl (lv_at hl 0 rfl) ?_
  refine lv_bipush (v := (12 : Int32)) hx hb dX0_init_5 (by decide) ?_
  refine nw_ia (N := 12) X hP hD hS hA (by decide) (by decide) (by decide) (Nat.le_of_ble_eq_true rfl) (Nat.le_of_ble_eq_true rfl) dX0_init_7 (fun a7 H hP hD hS => ?_)
  have hP : va_P D vwCl [(h0, .inr (0, [.null, .null, .null, .null, .null, .null, .null, .int 0])), (a7, .inl (cI, 12, .inl (fun _ => 0)))] H := hP
  have hD : va_D A [(h0, .inr (0, [.null, .null, .null, .null, .null, .null, .null, .int 0])), (a7, .inl (cI, 12, .inl (fun _ => 0)))] := hD
  refine W.widen (k := 1) (n := 12) (by omega) (by omega) ?_
  refine va_putF (D := D) (ci := 0) (v := .ref (a7)) (ty := .array .int) (C := RX0) (T := TX0) (N := 8) hx hb X.2.2.2.2.2.2.1 inX0 tyX0 tyX0_ok nmX0 X.2.2.2.2.2.1 X.2.2.2.2.2.2.2.1 hP hD hS 0 rfl rfl 0 (by decide) (X.2.2.2.2.2.2.1 _ w_fl_X0_9) (fun _ h9 => h9) rfl hin rfl (by decide +kernel) rfl rfl (Nat.le_of_ble_eq_true rfl) dX0_init_9 (fun H locs hP hD hS => ?_)
  have hP : va_P D vwCl [(h0, .inr (0, [.ref a7, .null, .null, .null, .null, .null, .null, .int 0])), (a7, .inl (cI, 12, .inl (fun _ => 0)))] H := hP
  have hD : va_D A [(h0, .inr (0, [.ref a7, .null, .null, .null, .null, .null, .null, .int 0])), (a7, .inl (cI, 12, .inl (fun _ => 0)))] := hD
  refine lv_aload_n hx hb dX0_init_12 rfl (lv_at hl 0 rfl) ?_
  refine lv_bipush (v := (12 : Int32)) hx hb dX0_init_13 (by decide) ?_
  refine nw_ia (N := 12) X hP hD hS hA (by decide) (by decide) (by decide) (Nat.le_of_ble_eq_true rfl) (Nat.le_of_ble_eq_true rfl) dX0_init_15 (fun a15 H hP hD hS => ?_)
  have hP : va_P D vwCl [(h0, .inr (0, [.ref a7, .null, .null, .null, .null, .null, .null, .int 0])), (a7, .inl (cI, 12, .inl (fun _ => 0))), (a15, .inl (cI, 12, .inl (fun _ => 0)))] H := hP
  have hD : va_D A [(h0, .inr (0, [.ref a7, .null, .null, .null, .null, .null, .null, .int 0])), (a7, .inl (cI, 12, .inl (fun _ => 0))), (a15, .inl (cI, 12, .inl (fun _ => 0)))] := hD
  refine W.widen (k := 2) (n := 24) (by omega) (by omega) ?_
  refine va_putF (D := D) (ci := 0) (v := .ref (a15)) (ty := .array .int) (C := RX0) (T := TX0) (N := 8) hx hb X.2.2.2.2.2.2.1 inX0 tyX0 tyX0_ok nmX0 X.2.2.2.2.2.1 X.2.2.2.2.2.2.2.1 hP hD hS 0 rfl rfl 1 (by decide) (X.2.2.2.2.2.2.1 _ w_fl_X0_15) (fun _ h9 => h9) rfl hin rfl (by decide +kernel) rfl rfl (Nat.le_of_ble_eq_true rfl) dX0_init_17 (fun H locs hP hD hS => ?_)
  have hP : va_P D vwCl [(h0, .inr (0, [.ref a7, .ref a15, .null, .null, .null, .null, .null, .int 0])), (a7, .inl (cI, 12, .inl (fun _ => 0))), (a15, .inl (cI, 12, .inl (fun _ => 0)))] H := hP
  have hD : va_D A [(h0, .inr (0, [.ref a7, .ref a15, .null, .null, .null, .null, .null, .int 0])), (a7, .inl (cI, 12, .inl (fun _ => 0))), (a15, .inl (cI, 12, .inl (fun _ => 0)))] := hD
  refine lv_aload_n hx hb dX0_init_20 rfl (lv_at hl 0 rfl) ?_
  refine lv_bipush (v := (12 : Int32)) hx hb dX0_init_21 (by decide) ?_
  refine nw_ia (N := 12) X hP hD hS hA (by decide) (by decide) (by decide) (Nat.le_of_ble_eq_true rfl) (Nat.le_of_ble_eq_true rfl) dX0_init_23 (fun a23 H hP hD hS => ?_)
  have hP : va_P D vwCl [(h0, .inr (0, [.ref a7, .ref a15, .null, .null, .null, .null, .null, .int 0])), (a7, .inl (cI, 12, .inl (fun _ => 0))), (a15, .inl (cI, 12, .inl (fun _ => 0))), (a23, .inl (cI, 12, .inl (fun _ => 0)))] H := hP
  have hD : va_D A [(h0, .inr (0, [.ref a7, .ref a15, .null, .null, .null, .null, .null, .int 0])), (a7, .inl (cI, 12, .inl (fun _ => 0))), (a15, .inl (cI, 12, .inl (fun _ => 0))), (a23, .inl (cI, 12, .inl (fun _ => 0)))] := hD
  refine W.widen (k := 3) (n := 36) (by omega) (by omega) ?_
  refine va_putF (D := D) (ci := 0) (v := .ref (a23)) (ty := .array .int) (C := RX0) (T := TX0) (N := 8) hx hb X.2.2.2.2.2.2.1 inX0 tyX0 tyX0_ok nmX0 X.2.2.2.2.2.1 X.2.2.2.2.2.2.2.1 hP hD hS 0 rfl rfl 2 (by decide) (X.2.2.2.2.2.2.1 _ w_fl_X0_18) (fun _ h9 => h9) rfl hin rfl (by decide +kernel) rfl rfl (Nat.le_of_ble_eq_true rfl) dX0_init_25 (fun H locs hP hD hS => ?_)
  have hP : va_P D vwCl [(h0, .inr (0, [.ref a7, .ref a15, .ref a23, .null, .null, .null, .null, .int 0])), (a7, .inl (cI, 12, .inl (fun _ => 0))), (a15, .inl (cI, 12, .inl (fun _ => 0))), (a23, .inl (cI, 12, .inl (fun _ => 0)))] H := hP
  have hD : va_D A [(h0, .inr (0, [.ref a7, .ref a15, .ref a23, .null, .null, .null, .null, .int 0])), (a7, .inl (cI, 12, .inl (fun _ => 0))), (a15, .inl (cI, 12, .inl (fun _ => 0))), (a23, .inl (cI, 12, .inl (fun _ => 0)))] := hD
  refine lv_aload_n hx hb dX0_init_28 rfl (lv_at hl 0 rfl) ?_
  refine lv_bipush (v := (12 : Int32)) hx hb dX0_init_29 (by decide) ?_
  refine nw_ia (N := 12) X hP hD hS hA (by decide) (by decide) (by decide) (Nat.le_of_ble_eq_true rfl) (Nat.le_of_ble_eq_true rfl) dX0_init_31 (fun a31 H hP hD hS => ?_)
  have hP : va_P D vwCl [(h0, .inr (0, [.ref a7, .ref a15, .ref a23, .null, .null, .null, .null, .int 0])), (a7, .inl (cI, 12, .inl (fun _ => 0))), (a15, .inl (cI, 12, .inl (fun _ => 0))), (a23, .inl (cI, 12, .inl (fun _ => 0))), (a31, .inl (cI, 12, .inl (fun _ => 0)))] H := hP
  have hD : va_D A [(h0, .inr (0, [.ref a7, .ref a15, .ref a23, .null, .null, .null, .null, .int 0])), (a7, .inl (cI, 12, .inl (fun _ => 0))), (a15, .inl (cI, 12, .inl (fun _ => 0))), (a23, .inl (cI, 12, .inl (fun _ => 0))), (a31, .inl (cI, 12, .inl (fun _ => 0)))] := hD
  refine W.widen (k := 4) (n := 48) (by omega) (by omega) ?_
  refine va_putF (D := D) (ci := 0) (v := .ref (a31)) (ty := .array .int) (C := RX0) (T := TX0) (N := 8) hx hb X.2.2.2.2.2.2.1 inX0 tyX0 tyX0_ok nmX0 X.2.2.2.2.2.1 X.2.2.2.2.2.2.2.1 hP hD hS 0 rfl rfl 3 (by decide) (X.2.2.2.2.2.2.1 _ w_fl_X0_21) (fun _ h9 => h9) rfl hin rfl (by decide +kernel) rfl rfl (Nat.le_of_ble_eq_true rfl) dX0_init_33 (fun H locs hP hD hS => ?_)
  have hP : va_P D vwCl [(h0, .inr (0, [.ref a7, .ref a15, .ref a23, .ref a31, .null, .null, .null, .int 0])), (a7, .inl (cI, 12, .inl (fun _ => 0))), (a15, .inl (cI, 12, .inl (fun _ => 0))), (a23, .inl (cI, 12, .inl (fun _ => 0))), (a31, .inl (cI, 12, .inl (fun _ => 0)))] H := hP
  have hD : va_D A [(h0, .inr (0, [.ref a7, .ref a15, .ref a23, .ref a31, .null, .null, .null, .int 0])), (a7, .inl (cI, 12, .inl (fun _ => 0))), (a15, .inl (cI, 12, .inl (fun _ => 0))), (a23, .inl (cI, 12, .inl (fun _ => 0))), (a31, .inl (cI, 12, .inl (fun _ => 0)))] := hD
  refine lv_aload_n hx hb dX0_init_36 rfl (lv_at hl 0 rfl) ?_
  refine lv_iconst (v := (4 : Int32)) hx hb dX0_init_37 (by decide) ?_
  refine lv_bipush (v := (12 : Int32)) hx hb dX0_init_38 (by decide) ?_
  refine nw_grid (N := 4) (K := 12) X hc.2.1 w_cl_X0_24 hP hD hS hA (by decide) (by decide) (by decide) (by decide) (by decide) (by decide) (by decide) (Nat.le_of_ble_eq_true rfl) (Nat.le_of_ble_eq_true rfl) dX0_init_40 (fun g40 r40 H hP hD hS => ?_)
  have hP : va_P D vwCl [(h0, .inr (0, [.ref a7, .ref a15, .ref a23, .ref a31, .null, .null, .null, .int 0])), (a7, .inl (cI, 12, .inl (fun _ => 0))), (a15, .inl (cI, 12, .inl (fun _ => 0))), (a23, .inl (cI, 12, .inl (fun _ => 0))), (a31, .inl (cI, 12, .inl (fun _ => 0))), (g40, gE cG 4 (fun i => some (r40 i))), (r40 0, .inl (cI, 12, .inl (fun _ => 0))), (r40 1, .inl (cI, 12, .inl (fun _ => 0))), (r40 2, .inl (cI, 12, .inl (fun _ => 0))), (r40 3, .inl (cI, 12, .inl (fun _ => 0)))] H := hP
  have hD : va_D A [(h0, .inr (0, [.ref a7, .ref a15, .ref a23, .ref a31, .null, .null, .null, .int 0])), (a7, .inl (cI, 12, .inl (fun _ => 0))), (a15, .inl (cI, 12, .inl (fun _ => 0))), (a23, .inl (cI, 12, .inl (fun _ => 0))), (a31, .inl (cI, 12, .inl (fun _ => 0))), (g40, gE cG 4 (fun i => some (r40 i))), (r40 0, .inl (cI, 12, .inl (fun _ => 0))), (r40 1, .inl (cI, 12, .inl (fun _ => 0))), (r40 2, .inl (cI, 12, .inl (fun _ => 0))), (r40 3, .inl (cI, 12, .inl (fun _ => 0)))] := hD
  refine W.widen (k := 9) (n := 100) (by omega) (by omega) ?_
  refine va_putF (D := D) (ci := 0) (v := .ref (g40)) (ty := .array (.array .int)) (C := RX0) (T := TX0) (N := 8) hx hb X.2.2.2.2.2.2.1 inX0 tyX0 tyX0_ok nmX0 X.2.2.2.2.2.1 X.2.2.2.2.2.2.2.1 hP hD hS 0 rfl rfl 4 (by decide) (X.2.2.2.2.2.2.1 _ w_fl_X0_26) (fun _ h9 => h9) rfl hin rfl (by decide +kernel) rfl rfl (Nat.le_of_ble_eq_true rfl) dX0_init_44 (fun H locs hP hD hS => ?_)
  have hP : va_P D vwCl [(h0, .inr (0, [.ref a7, .ref a15, .ref a23, .ref a31, .ref g40, .null, .null, .int 0])), (a7, .inl (cI, 12, .inl (fun _ => 0))), (a15, .inl (cI, 12, .inl (fun _ => 0))), (a23, .inl (cI, 12, .inl (fun _ => 0))), (a31, .inl (cI, 12, .inl (fun _ => 0))), (g40, gE cG 4 (fun i => some (r40 i))), (r40 0, .inl (cI, 12, .inl (fun _ => 0))), (r40 1, .inl (cI, 12, .inl (fun _ => 0))), (r40 2, .inl (cI, 12, .inl (fun _ => 0))), (r40 3, .inl (cI, 12, .inl (fun _ => 0)))] H := hP
  have hD : va_D A [(h0, .inr (0, [.ref a7, .ref a15, .ref a23, .ref a31, .ref g40, .null, .null, .int 0])), (a7, .inl (cI, 12, .inl (fun _ => 0))), (a15, .inl (cI, 12, .inl (fun _ => 0))), (a23, .inl (cI, 12, .inl (fun _ => 0))), (a31, .inl (cI, 12, .inl (fun _ => 0))), (g40, gE cG 4 (fun i => some (r40 i))), (r40 0, .inl (cI, 12, .inl (fun _ => 0))), (r40 1, .inl (cI, 12, .inl (fun _ => 0))), (r40 2, .inl (cI, 12, .inl (fun _ => 0))), (r40 3, .inl (cI, 12, .inl (fun _ => 0)))] := hD
  refine lv_aload_n hx hb dX0_init_47 rfl (lv_at hl 0 rfl) ?_
  refine lv_bipush (v := (12 : Int32)) hx hb dX0_init_48 (by decide) ?_
  refine nw_ia (N := 12) X hP hD hS hA (by decide) (by decide) (by decide) (Nat.le_of_ble_eq_true rfl) (Nat.le_of_ble_eq_true rfl) dX0_init_50 (fun a50 H hP hD hS => ?_)
  have hP : va_P D vwCl [(h0, .inr (0, [.ref a7, .ref a15, .ref a23, .ref a31, .ref g40, .null, .null, .int 0])), (a7, .inl (cI, 12, .inl (fun _ => 0))), (a15, .inl (cI, 12, .inl (fun _ => 0))), (a23, .inl (cI, 12, .inl (fun _ => 0))), (a31, .inl (cI, 12, .inl (fun _ => 0))), (g40, gE cG 4 (fun i => some (r40 i))), (r40 0, .inl (cI, 12, .inl (fun _ => 0))), (r40 1, .inl (cI, 12, .inl (fun _ => 0))), (r40 2, .inl (cI, 12, .inl (fun _ => 0))), (r40 3, .inl (cI, 12, .inl (fun _ => 0))), (a50, .inl (cI, 12, .inl (fun _ => 0)))] H := hP
  have hD : va_D A [(h0, .inr (0, [.ref a7, .ref a15, .ref a23, .ref a31, .ref g40, .null, .null, .int 0])), (a7, .inl (cI, 12, .inl (fun _ => 0))), (a15, .inl (cI, 12, .inl (fun _ => 0))), (a23, .inl (cI, 12, .inl (fun _ => 0))), (a31, .inl (cI, 12, .inl (fun _ => 0))), (g40, gE cG 4 (fun i => some (r40 i))), (r40 0, .inl (cI, 12, .inl (fun _ => 0))), (r40 1, .inl (cI, 12, .inl (fun _ => 0))), (r40 2, .inl (cI, 12, .inl (fun _ => 0))), (r40 3, .inl (cI, 12, .inl (fun _ => 0))), (a50, .inl (cI, 12, .inl (fun _ => 0)))] := hD
  refine W.widen (k := 10) (n := 112) (by omega) (by omega) ?_
  refine va_putF (D := D) (ci := 0) (v := .ref (a50)) (ty := .array .int) (C := RX0) (T := TX0) (N := 8) hx hb X.2.2.2.2.2.2.1 inX0 tyX0 tyX0_ok nmX0 X.2.2.2.2.2.1 X.2.2.2.2.2.2.2.1 hP hD hS 0 rfl rfl 5 (by decide) (X.2.2.2.2.2.2.1 _ w_fl_X0_29) (fun _ h9 => h9) rfl hin rfl (by decide +kernel) rfl rfl (Nat.le_of_ble_eq_true rfl) dX0_init_52 (fun H locs hP hD hS => ?_)
  have hP : va_P D vwCl [(h0, .inr (0, [.ref a7, .ref a15, .ref a23, .ref a31, .ref g40, .ref a50, .null, .int 0])), (a7, .inl (cI, 12, .inl (fun _ => 0))), (a15, .inl (cI, 12, .inl (fun _ => 0))), (a23, .inl (cI, 12, .inl (fun _ => 0))), (a31, .inl (cI, 12, .inl (fun _ => 0))), (g40, gE cG 4 (fun i => some (r40 i))), (r40 0, .inl (cI, 12, .inl (fun _ => 0))), (r40 1, .inl (cI, 12, .inl (fun _ => 0))), (r40 2, .inl (cI, 12, .inl (fun _ => 0))), (r40 3, .inl (cI, 12, .inl (fun _ => 0))), (a50, .inl (cI, 12, .inl (fun _ => 0)))] H := hP
  have hD : va_D A [(h0, .inr (0, [.ref a7, .ref a15, .ref a23, .ref a31, .ref g40, .ref a50, .null, .int 0])), (a7, .inl (cI, 12, .inl (fun _ => 0))), (a15, .inl (cI, 12, .inl (fun _ => 0))), (a23, .inl (cI, 12, .inl (fun _ => 0))), (a31, .inl (cI, 12, .inl (fun _ => 0))), (g40, gE cG 4 (fun i => some (r40 i))), (r40 0, .inl (cI, 12, .inl (fun _ => 0))), (r40 1, .inl (cI, 12, .inl (fun _ => 0))), (r40 2, .inl (cI, 12, .inl (fun _ => 0))), (r40 3, .inl (cI, 12, .inl (fun _ => 0))), (a50, .inl (cI, 12, .inl (fun _ => 0)))] := hD
  refine lv_aload_n hx hb dX0_init_55 rfl (lv_at hl 0 rfl) ?_
  refine lv_bipush (v := (12 : Int32)) hx hb dX0_init_56 (by decide) ?_
  refine lv_bipush (v := (20 : Int32)) hx hb dX0_init_58 (by decide) ?_
  refine nw_grid (N := 12) (K := 20) X hc.2.1 w_cl_X0_24 hP hD hS hA (by decide) (by decide) (by decide) (by decide) (by decide) (by decide) (by decide) (Nat.le_of_ble_eq_true rfl) (Nat.le_of_ble_eq_true rfl) dX0_init_60 (fun g60 r60 H hP hD hS => ?_)
  have hP : va_P D vwCl [(h0, .inr (0, [.ref a7, .ref a15, .ref a23, .ref a31, .ref g40, .ref a50, .null, .int 0])), (a7, .inl (cI, 12, .inl (fun _ => 0))), (a15, .inl (cI, 12, .inl (fun _ => 0))), (a23, .inl (cI, 12, .inl (fun _ => 0))), (a31, .inl (cI, 12, .inl (fun _ => 0))), (g40, gE cG 4 (fun i => some (r40 i))), (r40 0, .inl (cI, 12, .inl (fun _ => 0))), (r40 1, .inl (cI, 12, .inl (fun _ => 0))), (r40 2, .inl (cI, 12, .inl (fun _ => 0))), (r40 3, .inl (cI, 12, .inl (fun _ => 0))), (a50, .inl (cI, 12, .inl (fun _ => 0))), (g60, gE cG 12 (fun i => some (r60 i))), (r60 0, .inl (cI, 20, .inl (fun _ => 0))), (r60 1, .inl (cI, 20, .inl (fun _ => 0))), (r60 2, .inl (cI, 20, .inl (fun _ => 0))), (r60 3, .inl (cI, 20, .inl (fun _ => 0))), (r60 4, .inl (cI, 20, .inl (fun _ => 0))), (r60 5, .inl (cI, 20, .inl (fun _ => 0))), (r60 6, .inl (cI, 20, .inl (fun _ => 0))), (r60 7, .inl (cI, 20, .inl (fun _ => 0))), (r60 8, .inl (cI, 20, .inl (fun _ => 0))), (r60 9, .inl (cI, 20, .inl (fun _ => 0))), (r60 10, .inl (cI, 20, .inl (fun _ => 0))), (r60 11, .inl (cI, 20, .inl (fun _ => 0)))] H := hP
  have hD : va_D A [(h0, .inr (0, [.ref a7, .ref a15, .ref a23, .ref a31, .ref g40, .ref a50, .null, .int 0])), (a7, .inl (cI, 12, .inl (fun _ => 0))), (a15, .inl (cI, 12, .inl (fun _ => 0))), (a23, .inl (cI, 12, .inl (fun _ => 0))), (a31, .inl (cI, 12, .inl (fun _ => 0))), (g40, gE cG 4 (fun i => some (r40 i))), (r40 0, .inl (cI, 12, .inl (fun _ => 0))), (r40 1, .inl (cI, 12, .inl (fun _ => 0))), (r40 2, .inl (cI, 12, .inl (fun _ => 0))), (r40 3, .inl (cI, 12, .inl (fun _ => 0))), (a50, .inl (cI, 12, .inl (fun _ => 0))), (g60, gE cG 12 (fun i => some (r60 i))), (r60 0, .inl (cI, 20, .inl (fun _ => 0))), (r60 1, .inl (cI, 20, .inl (fun _ => 0))), (r60 2, .inl (cI, 20, .inl (fun _ => 0))), (r60 3, .inl (cI, 20, .inl (fun _ => 0))), (r60 4, .inl (cI, 20, .inl (fun _ => 0))), (r60 5, .inl (cI, 20, .inl (fun _ => 0))), (r60 6, .inl (cI, 20, .inl (fun _ => 0))), (r60 7, .inl (cI, 20, .inl (fun _ => 0))), (r60 8, .inl (cI, 20, .inl (fun _ => 0))), (r60 9, .inl (cI, 20, .inl (fun _ => 0))), (r60 10, .inl (cI, 20, .inl (fun _ => 0))), (r60 11, .inl (cI, 20, .inl (fun _ => 0)))] := hD
  refine W.widen (k := 23) (n := 364) (by omega) (by omega) ?_
  refine va_putF (D := D) (ci := 0) (v := .ref (g60)) (ty := .array (.array .int)) (C := RX0) (T := TX0) (N := 8) hx hb X.2.2.2.2.2.2.1 inX0 tyX0 tyX0_ok nmX0 X.2.2.2.2.2.1 X.2.2.2.2.2.2.2.1 hP hD hS 0 rfl rfl 6 (by decide) (X.2.2.2.2.2.2.1 _ w_fl_X0_32) (fun _ h9 => h9) rfl hin rfl (by decide +kernel) rfl rfl (Nat.le_of_ble_eq_true rfl) dX0_init_64 (fun H locs hP hD hS => ?_)
  have hP : va_P D vwCl [(h0, .inr (0, [.ref a7, .ref a15, .ref a23, .ref a31, .ref g40, .ref a50, .ref g60, .int 0])), (a7, .inl (cI, 12, .inl (fun _ => 0))), (a15, .inl (cI, 12, .inl (fun _ => 0))), (a23, .inl (cI, 12, .inl (fun _ => 0))), (a31, .inl (cI, 12, .inl (fun _ => 0))), (g40, gE cG 4 (fun i => some (r40 i))), (r40 0, .inl (cI, 12, .inl (fun _ => 0))), (r40 1, .inl (cI, 12, .inl (fun _ => 0))), (r40 2, .inl (cI, 12, .inl (fun _ => 0))), (r40 3, .inl (cI, 12, .inl (fun _ => 0))), (a50, .inl (cI, 12, .inl (fun _ => 0))), (g60, gE cG 12 (fun i => some (r60 i))), (r60 0, .inl (cI, 20, .inl (fun _ => 0))), (r60 1, .inl (cI, 20, .inl (fun _ => 0))), (r60 2, .inl (cI, 20, .inl (fun _ => 0))), (r60 3, .inl (cI, 20, .inl (fun _ => 0))), (r60 4, .inl (cI, 20, .inl (fun _ => 0))), (r60 5, .inl (cI, 20, .inl (fun _ => 0))), (r60 6, .inl (cI, 20, .inl (fun _ => 0))), (r60 7, .inl (cI, 20, .inl (fun _ => 0))), (r60 8, .inl (cI, 20, .inl (fun _ => 0))), (r60 9, .inl (cI, 20, .inl (fun _ => 0))), (r60 10, .inl (cI, 20, .inl (fun _ => 0))), (r60 11, .inl (cI, 20, .inl (fun _ => 0)))] H := hP
  have hD : va_D A [(h0, .inr (0, [.ref a7, .ref a15, .ref a23, .ref a31, .ref g40, .ref a50, .ref g60, .int 0])), (a7, .inl (cI, 12, .inl (fun _ => 0))), (a15, .inl (cI, 12, .inl (fun _ => 0))), (a23, .inl (cI, 12, .inl (fun _ => 0))), (a31, .inl (cI, 12, .inl (fun _ => 0))), (g40, gE cG 4 (fun i => some (r40 i))), (r40 0, .inl (cI, 12, .inl (fun _ => 0))), (r40 1, .inl (cI, 12, .inl (fun _ => 0))), (r40 2, .inl (cI, 12, .inl (fun _ => 0))), (r40 3, .inl (cI, 12, .inl (fun _ => 0))), (a50, .inl (cI, 12, .inl (fun _ => 0))), (g60, gE cG 12 (fun i => some (r60 i))), (r60 0, .inl (cI, 20, .inl (fun _ => 0))), (r60 1, .inl (cI, 20, .inl (fun _ => 0))), (r60 2, .inl (cI, 20, .inl (fun _ => 0))), (r60 3, .inl (cI, 20, .inl (fun _ => 0))), (r60 4, .inl (cI, 20, .inl (fun _ => 0))), (r60 5, .inl (cI, 20, .inl (fun _ => 0))), (r60 6, .inl (cI, 20, .inl (fun _ => 0))), (r60 7, .inl (cI, 20, .inl (fun _ => 0))), (r60 8, .inl (cI, 20, .inl (fun _ => 0))), (r60 9, .inl (cI, 20, .inl (fun _ => 0))), (r60 10, .inl (cI, 20, .inl (fun _ => 0))), (r60 11, .inl (cI, 20, .inl (fun _ => 0)))] := hD
  refine lv_aload_n hx hb dX0_init_67 rfl (lv_at hl 0 rfl) ?_
  refine va_get (D := D) (ci := 0) (v := .ref g40) (C := RX0) (T := TX0) (N := 8) hx hb X.2.2.2.2.2.2.1 inX0 X.2.2.2.2.2.1 X.2.2.2.2.2.2.2.1 hP 0 rfl rfl 4 (by decide) (X.2.2.2.2.2.2.1 _ w_fl_X0_26) (fun _ h9 => h9) rfl dX0_init_68 ?_
  refine lv_iconst (v := (1 : Int32)) hx hb dX0_init_71 (by decide) ?_
  refine ro_row (g := r40) X hP 5 rfl (by decide : inb 1 4 = true) dX0_init_72 ?_
  refine W.eq (g2 := F0 m 73 ls [.ref (r40 1)]) rfl ?_
  refine lv_bipush (v := (99 : Int32)) hx hb dX0_init_73 (by decide) ?_
  refine in_fill X lk_X0_35 hP hD hS hl.1 7 rfl (by decide) ⟨Nat.le_of_ble_eq_true rfl, Nat.le_of_ble_eq_true rfl⟩ ⟨Nat.le_of_ble_eq_true rfl, Nat.le_of_ble_eq_true rfl⟩ dX0_init_75 (fun H locs hP hD hS => ?_)
  have hP : va_P D vwCl [(h0, .inr (0, [.ref a7, .ref a15, .ref a23, .ref a31, .ref g40, .ref a50, .ref g60, .int 0])), (a7, .inl (cI, 12, .inl (fun _ => 0))), (a15, .inl (cI, 12, .inl (fun _ => 0))), (a23, .inl (cI, 12, .inl (fun _ => 0))), (a31, .inl (cI, 12, .inl (fun _ => 0))), (g40, gE cG 4 (fun i => some (r40 i))), (r40 0, .inl (cI, 12, .inl (fun _ => 0))), (r40 1, .inl (cI, 12, .inl (fun _ => 99))), (r40 2, .inl (cI, 12, .inl (fun _ => 0))), (r40 3, .inl (cI, 12, .inl (fun _ => 0))), (a50, .inl (cI, 12, .inl (fun _ => 0))), (g60, gE cG 12 (fun i => some (r60 i))), (r60 0, .inl (cI, 20, .inl (fun _ => 0))), (r60 1, .inl (cI, 20, .inl (fun _ => 0))), (r60 2, .inl (cI, 20, .inl (fun _ => 0))), (r60 3, .inl (cI, 20, .inl (fun _ => 0))), (r60 4, .inl (cI, 20, .inl (fun _ => 0))), (r60 5, .inl (cI, 20, .inl (fun _ => 0))), (r60 6, .inl (cI, 20, .inl (fun _ => 0))), (r60 7, .inl (cI, 20, .inl (fun _ => 0))), (r60 8, .inl (cI, 20, .inl (fun _ => 0))), (r60 9, .inl (cI, 20, .inl (fun _ => 0))), (r60 10, .inl (cI, 20, .inl (fun _ => 0))), (r60 11, .inl (cI, 20, .inl (fun _ => 0)))] H := hP
  have hD : va_D A [(h0, .inr (0, [.ref a7, .ref a15, .ref a23, .ref a31, .ref g40, .ref a50, .ref g60, .int 0])), (a7, .inl (cI, 12, .inl (fun _ => 0))), (a15, .inl (cI, 12, .inl (fun _ => 0))), (a23, .inl (cI, 12, .inl (fun _ => 0))), (a31, .inl (cI, 12, .inl (fun _ => 0))), (g40, gE cG 4 (fun i => some (r40 i))), (r40 0, .inl (cI, 12, .inl (fun _ => 0))), (r40 1, .inl (cI, 12, .inl (fun _ => 99))), (r40 2, .inl (cI, 12, .inl (fun _ => 0))), (r40 3, .inl (cI, 12, .inl (fun _ => 0))), (a50, .inl (cI, 12, .inl (fun _ => 0))), (g60, gE cG 12 (fun i => some (r60 i))), (r60 0, .inl (cI, 20, .inl (fun _ => 0))), (r60 1, .inl (cI, 20, .inl (fun _ => 0))), (r60 2, .inl (cI, 20, .inl (fun _ => 0))), (r60 3, .inl (cI, 20, .inl (fun _ => 0))), (r60 4, .inl (cI, 20, .inl (fun _ => 0))), (r60 5, .inl (cI, 20, .inl (fun _ => 0))), (r60 6, .inl (cI, 20, .inl (fun _ => 0))), (r60 7, .inl (cI, 20, .inl (fun _ => 0))), (r60 8, .inl (cI, 20, .inl (fun _ => 0))), (r60 9, .inl (cI, 20, .inl (fun _ => 0))), (r60 10, .inl (cI, 20, .inl (fun _ => 0))), (r60 11, .inl (cI, 20, .inl (fun _ => 0)))] := hD
  refine lv_aload_n hx hb dX0_init_78 rfl (lv_at hl 0 rfl) ?_
  refine va_get (D := D) (ci := 0) (v := .ref g40) (C := RX0) (T := TX0) (N := 8) hx hb X.2.2.2.2.2.2.1 inX0 X.2.2.2.2.2.1 X.2.2.2.2.2.2.2.1 hP 0 rfl rfl 4 (by decide) (X.2.2.2.2.2.2.1 _ w_fl_X0_26) (fun _ h9 => h9) rfl dX0_init_79 ?_
  refine lv_iconst (v := (2 : Int32)) hx hb dX0_init_82 (by decide) ?_
  refine ro_row (g := r40) X hP 5 rfl (by decide : inb 2 4 = true) dX0_init_83 ?_
  refine W.eq (g2 := F0 m 84 ls [.ref (r40 2)]) rfl ?_
  refine lv_iconst (v := (-1 : Int32)) hx hb dX0_init_84 (by decide) ?_
  refine in_fill X lk_X0_35 hP hD hS hl.1 8 rfl (by decide) ⟨Nat.le_of_ble_eq_true rfl, Nat.le_of_ble_eq_true rfl⟩ ⟨Nat.le_of_ble_eq_true rfl, Nat.le_of_ble_eq_true rfl⟩ dX0_init_85 (fun H locs hP hD hS => ?_)
  have hP : va_P D vwCl [(h0, .inr (0, [.ref a7, .ref a15, .ref a23, .ref a31, .ref g40, .ref a50, .ref g60, .int 0])), (a7, .inl (cI, 12, .inl (fun _ => 0))), (a15, .inl (cI, 12, .inl (fun _ => 0))), (a23, .inl (cI, 12, .inl (fun _ => 0))), (a31, .inl (cI, 12, .inl (fun _ => 0))), (g40, gE cG 4 (fun i => some (r40 i))), (r40 0, .inl (cI, 12, .inl (fun _ => 0))), (r40 1, .inl (cI, 12, .inl (fun _ => 99))), (r40 2, .inl (cI, 12, .inl (fun _ => -1))), (r40 3, .inl (cI, 12, .inl (fun _ => 0))), (a50, .inl (cI, 12, .inl (fun _ => 0))), (g60, gE cG 12 (fun i => some (r60 i))), (r60 0, .inl (cI, 20, .inl (fun _ => 0))), (r60 1, .inl (cI, 20, .inl (fun _ => 0))), (r60 2, .inl (cI, 20, .inl (fun _ => 0))), (r60 3, .inl (cI, 20, .inl (fun _ => 0))), (r60 4, .inl (cI, 20, .inl (fun _ => 0))), (r60 5, .inl (cI, 20, .inl (fun _ => 0))), (r60 6, .inl (cI, 20, .inl (fun _ => 0))), (r60 7, .inl (cI, 20, .inl (fun _ => 0))), (r60 8, .inl (cI, 20, .inl (fun _ => 0))), (r60 9, .inl (cI, 20, .inl (fun _ => 0))), (r60 10, .inl (cI, 20, .inl (fun _ => 0))), (r60 11, .inl (cI, 20, .inl (fun _ => 0)))] H := hP
  have hD : va_D A [(h0, .inr (0, [.ref a7, .ref a15, .ref a23, .ref a31, .ref g40, .ref a50, .ref g60, .int 0])), (a7, .inl (cI, 12, .inl (fun _ => 0))), (a15, .inl (cI, 12, .inl (fun _ => 0))), (a23, .inl (cI, 12, .inl (fun _ => 0))), (a31, .inl (cI, 12, .inl (fun _ => 0))), (g40, gE cG 4 (fun i => some (r40 i))), (r40 0, .inl (cI, 12, .inl (fun _ => 0))), (r40 1, .inl (cI, 12, .inl (fun _ => 99))), (r40 2, .inl (cI, 12, .inl (fun _ => -1))), (r40 3, .inl (cI, 12, .inl (fun _ => 0))), (a50, .inl (cI, 12, .inl (fun _ => 0))), (g60, gE cG 12 (fun i => some (r60 i))), (r60 0, .inl (cI, 20, .inl (fun _ => 0))), (r60 1, .inl (cI, 20, .inl (fun _ => 0))), (r60 2, .inl (cI, 20, .inl (fun _ => 0))), (r60 3, .inl (cI, 20, .inl (fun _ => 0))), (r60 4, .inl (cI, 20, .inl (fun _ => 0))), (r60 5, .inl (cI, 20, .inl (fun _ => 0))), (r60 6, .inl (cI, 20, .inl (fun _ => 0))), (r60 7, .inl (cI, 20, .inl (fun _ => 0))), (r60 8, .inl (cI, 20, .inl (fun _ => 0))), (r60 9, .inl (cI, 20, .inl (fun _ => 0))), (r60 10, .inl (cI, 20, .inl (fun _ => 0))), (r60 11, .inl (cI, 20, .inl (fun _ => 0)))] := hD
  obtain ⟨qf, hqf⟩ : ∃ qf : Nat → Nat, qf = (fun k => match k with | 4 => a7 | 5 => a15 | 6 => a23 | 7 => a31 | 8 => g40 | 9 => a50 | 10 => g60 | 15 => r40 0 | 16 => r40 1 | 17 => r40 2 | 18 => r40 3 | 19 => r60 0 | 20 => r60 1 | 21 => r60 2 | 22 => r60 3 | 23 => r60 4 | 24 => r60 5 | 25 => r60 6 | 26 => r60 7 | 27 => r60 8 | 28 => r60 9 | 29 => r60 10 | 30 => r60 11 | _ => h0) := ⟨_, rfl⟩
  have hg8 : ∀ i, i < 4 → some (r40 i) = some (qf (15 + i)) := by
    intro i hi
    subst hqf
    rcases (show i = 0 ∨ i = 1 ∨ i = 2 ∨ i = 3 by omega) with rfl | rfl | rfl | rfl <;> rfl
  have hP := g_swap (k := 5) (g := fun i => some (qf (15 + i))) rfl hg8 hP
  have hD := hD.set (p := 5) (a := g40) (e := gE cG 4 (fun i => some (qf (15 + i)))) rfl
  have hg10 : ∀ i, i < 12 → some (r60 i) = some (qf (19 + i)) := by
    intro i hi
    subst hqf
    rcases (show i = 0 ∨ i = 1 ∨ i = 2 ∨ i = 3 ∨ i = 4 ∨ i = 5 ∨ i = 6 ∨ i = 7 ∨ i = 8 ∨ i = 9 ∨ i = 10 ∨ i = 11 by omega) with rfl | rfl | rfl | rfl | rfl | rfl | rfl | rfl | rfl | rfl | rfl | rfl <;> rfl
  have hP := g_swap (k := 11) (g := fun i => some (qf (19 + i))) rfl hg10 hP
  have hD := hD.set (p := 11) (a := g60) (e := gE cG 12 (fun i => some (qf (19 + i)))) rfl
  exact W.vret hx hb X.2.2.2.1 (fun t ht hW => ⟨⟨qf, rfl, by subst hqf; rfl, by subst hqf; rw [ht]; exact hP, by subst hqf; rw [← hAe]; exact hD⟩, by rw [← hAe]; exact hS.F ht⟩) (by rw [← hAe]; exact hS.2.2) dX0_init_88
section INC
variable {p : Program} {l : Launch} {e : Env} {R : Room} {s : State} {m : MethodId} {args : Array Value} {below : List Frame} {meth : Method} {c : Code} {H : Heap} {locs : List Loc} {cells slots mc ms : Nat} {Q : State → Prop}
variable {D : va_G} {w0 : va_W} {A : Nat → Prop} {H0 : Heap} {pc : Nat} {ls : Array Slot} {rest st0 : List Value} {b k0 : Nat} {en : va_E} {out : (Nat → Nat) → va_W} {av : Array Value}
theorem in_call (hr : va_Run p l e R s m args below meth c H locs cells slots mc ms (F0 m pc ls st0) rest (inQ D b k0 [(b, en)] H.size out av) (va_A [(b, en)] H.size)) (hP : va_P D vwCl (w0 ++ [(b, en)]) H) (hD : va_D A (w0 ++ [(b, en)])) (hS : va_S A H0 H locs) (hA : ∀ q, H0.size ≤ q → A q)
    (kq : ∀ (q : Nat → Nat) (H1 : Heap) (locs1 : List Loc), q k0 = b → va_P D vwCl (w0 ++ out q) H1 → va_D A (w0 ++ out q) → va_S A H0 H1 locs1 → W p l e R s m args below meth c H1 locs1 (cells + mc) (slots + ms) Q (F0 m (pc + 3) ls rest)) : W p l e R s m args below meth c H locs cells slots Q (F0 m pc ls st0) := by
  have hbk : (w0 ++ [(b, en)])[w0.length]? = some (b, en) := by simp
  have h0 : ∀ (i : Nat) (x : Nat × va_E), w0[i]? = some x → (w0 ++ [(b, en)])[i]? = some x := fun i x hx => by
    rw [List.getElem?_append_left (List.getElem?_eq_some_iff.mp hx).1]; exact hx
  have hF : ∀ q, va_A [(b, en)] H.size q → A q := by
    intro q h
    rcases h with ⟨k, ee, h⟩ | h
    · have h1 := (List.getElem?_eq_some_iff.mp h).1
      simp only [List.length_cons, List.length_nil] at h1
      rw [show k = 0 by omega] at h
      cases h
      exact hD.2 _ _ hbk
    · exact hA q (Nat.le_trans hS.1 h)
  have hnot : ∀ (i : Nat) (x : Nat × va_E), w0[i]? = some x → x.1 < H.size ∧ ¬ va_A [(b, en)] H.size x.1 := by
    intro i x hx
    have hlt := (hP i x (h0 i x hx)).lt
    refine ⟨hlt, fun h => ?_⟩
    rcases h with ⟨k, ee, h⟩ | h
    · have h1 := (List.getElem?_eq_some_iff.mp h).1
      simp only [List.length_cons, List.length_nil] at h1
      rw [show k = 0 by omega] at h
      have h2 : (b, en) = (x.1, ee) := Option.some.inj h
      have h3 := hD.1 i w0.length x (b, en) (h0 i x hx) hbk (by cases h2; rfl)
      have h4 := (List.getElem?_eq_some_iff.mp hx).1
      omega
    · omega
  refine va_callv hr hS (fun q _ h => hF q h) hF (fun u t H1 locs1 ht hvm hw hB hz1 hk1 hS1 => ?_)
  obtain ⟨hP1, hD1⟩ := hB
  rw [ht] at hP1
  refine kq u H1 locs1 hw (va_P.app (fun i x hx => ?_) hP1) (va_D.app ⟨fun i j x y hi hj e => hD.1 i j x y (h0 i x hi) (h0 j y hj) e, fun i x hx => hD.2 i x (h0 i x hx)⟩ (hD1.weaken (fun k q _ h => hF q.1 h)) (fun i j x y hx hy hxy => ?_)) hS1
  · obtain ⟨h1, h2⟩ := hnot i x hx
    exact (hP i x (h0 i x hx)).kept (hk1 x.1 h1 h2)
  · exact (hnot i x hx).2 (by rw [hxy]; exact hD1.2 j y hy)
end INC
theorem inP_warm {D : va_G} {cI cG : ClassId} {ws : va_W} {H : Heap} {av : List Value} {s : State} (hP : va_P D vwCl ws H) (hk : kc D cI cG s) : ∀ U : State, U.heap = H → s.WarmedH U.vm → va_Pc av (inP D cI cG ws H.size) av.toArray U := fun U hU hW => ⟨rfl, by rw [hU], by rw [hU]; exact hP, hk.warm hW⟩
theorem last_P {D : va_G} {w0 : va_W} {x : Nat × va_E} {H : Heap} (hP : va_P D vwCl (w0 ++ [x]) H) : va_P D vwCl [x] H := by
  intro k p hk
  have h1 := (List.getElem?_eq_some_iff.mp hk).1
  simp only [List.length_cons, List.length_nil] at h1
  rw [show k = 0 by omega] at hk
  cases hk
  exact hP w0.length x (by simp)
def iX3 (cI cG : ClassId) (q : Nat → Nat) : va_W := [(q 0, .inr (3, [.ref (q 1), .ref (q 2), .ref (q 3), .int 0, .int 1]))] ++ iX0 cI cG q ++ iX1 cI cG q ++ iX2 cI cG q
set_option maxHeartbeats 4000000 in
set_option maxRecDepth 100000 in
theorem c_X3_init (l : Launch) (D : va_G) (cI cG : ClassId) (h0 sz : Nat) : InM l yX3_init cX3_init 2 43 30 454 D cI cG h0 0 (.inr (3, [.null, .null, .null, .int 0, .int 0])) sz (iX3 cI cG) := by
  refine InM.of (own := RX3) (by decide) rfl rfl ?_
  intro p e s m args below meth c ls A X hc hin hAe hP hD hS hA hl
  have hx := X.1
  have hb := X.2.1
  have hml := X.2.2.1
  have hown := X.2.2.2.2.2.1
  have hts := X.2.2.2.2.2.2.1
  have hK := X.2.2.2.2.2.2.2.1
  have hlocks : meth.locks = false := X.2.2.2.2.1
  refine lv_aload_n hx hb dX3_init_0 rfl (lv_at hl 0 rfl) ?_
  refine in_obj X hl.1 w_ml_X3_1 dX3_init_1 (Nat.le_of_ble_eq_true rfl) (Nat.le_of_ble_eq_true rfl) ?_
  refine lv_aload_n hx hb dX3_init_4 rfl (lv_at hl 0 rfl) ?_
  refine va_new (ci := 0) (fs := [.null, .null, .null, .null, .null, .null, .null, .int 0]) (C := RX0) (T := TX0) (N := 8) hx hb hts inX0 tyX0 tyX0_ok hown (hts _ w_cl_X3_7) (hts _ w_ins_X0) (hts _ w_ini_X0) hK hP hD hS hA rfl (fun j hj => by rcases (show j = 0 ∨ j = 1 ∨ j = 2 ∨ j = 3 ∨ j = 4 ∨ j = 5 ∨ j = 6 ∨ j = 7 by omega) with rfl | rfl | rfl | rfl | rfl | rfl | rfl | rfl <;> rfl) (Nat.le_of_ble_eq_true rfl) (Nat.le_of_ble_eq_true rfl) dX3_init_5 (fun b1 H hP hD hS => ?_)
  refine lv_dup hx hb dX3_init_8 rfl ?_
  refine in_call (va_runI (As := []) (rest := [.ref b1, .ref h0]) (Ts := tbG) ⟨hx, hb, hml, hown, hts⟩ (c_X0_init l D cI cG b1 H.size) (cwI 0 hts (goodC w_co_X0_init tb_self) rfl rfl rfl (hts _ w_ini_X0) (hts _ w_ml_X3_9) (hts _ w_im_X0_init) rfl (by decide +kernel) ⟨Nat.le_of_ble_eq_true rfl, Nat.le_of_ble_eq_true rfl⟩) ⟨inP_blind, inP_warm (last_P hP) hc⟩ rfl rfl hl.1 rfl (lv_room (Nat.le_of_ble_eq_true rfl)) dX3_init_9 ⟨Nat.le_of_ble_eq_true rfl, Nat.le_of_ble_eq_true rfl⟩) hP hD hS hA (fun qa H locs hqa hP hD hS => ?_)
  refine va_putF (D := D) (ci := 3) (v := .ref b1) (ty := .object "FallWith$Acts") (C := RX3) (T := TX3) (N := 5) hx hb hts inX3 tyX3 tyX3_ok nmX3 hown hK hP hD hS 0 rfl rfl 0 (by decide) (hts _ w_fl_X3_10) (fun _ h9 => h9) rfl hin rfl (by decide +kernel) rfl rfl (Nat.le_of_ble_eq_true rfl) dX3_init_12 (fun H locs hP hD hS => ?_)
  have hP : va_P D vwCl ([(h0, .inr (3, [.ref b1, .null, .null, .int 0, .int 0]))] ++ iX0 cI cG qa) H := hP
  have hD : va_D A ([(h0, .inr (3, [.ref b1, .null, .null, .int 0, .int 0]))] ++ iX0 cI cG qa) := hD
  refine W.widen (k := 24) (n := 372) (by omega) (by omega) ?_
  refine lv_aload_n hx hb dX3_init_15 rfl (lv_at hl 0 rfl) ?_
  refine va_new (ci := 1) (fs := [.null, .null, .null, .int 0]) (C := RX1) (T := TX1) (N := 4) hx hb hts inX1 tyX1 tyX1_ok hown (hts _ w_cl_X3_16) (hts _ w_ins_X1) (hts _ w_ini_X1) hK hP hD hS hA rfl (fun j hj => by rcases (show j = 0 ∨ j = 1 ∨ j = 2 ∨ j = 3 by omega) with rfl | rfl | rfl | rfl <;> rfl) (Nat.le_of_ble_eq_true rfl) (Nat.le_of_ble_eq_true rfl) dX3_init_16 (fun b2 H hP hD hS => ?_)
  refine lv_dup hx hb dX3_init_19 rfl ?_
  refine in_call (va_runIN (As := []) (rest := [.ref b2, .ref h0]) (Ts := tbG) ⟨hx, hb, hml, hown, hts⟩ (c_X1_init l D cI cG b2 H.size) ⟨va_cnB 0 hts (goodC w_co_X1_init tb_self) rfl rfl rfl hc.2.2.1 (hts _ w_ini_X1) (by decide +kernel) ⟨Nat.le_of_ble_eq_true rfl, Nat.le_of_ble_eq_true rfl⟩, rfl, hts _ w_im_X1_init⟩ ⟨inP_blind, inP_warm (last_P hP) hc⟩ rfl rfl hl.1 rfl (lv_room (Nat.le_of_ble_eq_true rfl)) dX3_init_20 ⟨Nat.le_of_ble_eq_true rfl, Nat.le_of_ble_eq_true rfl⟩) hP hD hS hA (fun qb H locs hqb hP hD hS => ?_)
  refine va_putF (D := D) (ci := 3) (v := .ref b2) (ty := .object "FallWith$Askings") (C := RX3) (T := TX3) (N := 5) hx hb hts inX3 tyX3 tyX3_ok nmX3 hown hK hP hD hS 0 rfl rfl 1 (by decide) (hts _ w_fl_X3_19) (fun _ h9 => h9) rfl hin rfl (by decide +kernel) rfl rfl (Nat.le_of_ble_eq_true rfl) dX3_init_23 (fun H locs hP hD hS => ?_)
  have hP : va_P D vwCl ([(h0, .inr (3, [.ref b1, .ref b2, .null, .int 0, .int 0]))] ++ iX0 cI cG qa ++ iX1 cI cG qb) H := hP
  have hD : va_D A ([(h0, .inr (3, [.ref b1, .ref b2, .null, .int 0, .int 0]))] ++ iX0 cI cG qa ++ iX1 cI cG qb) := hD
  refine W.widen (k := 28) (n := 412) (by omega) (by omega) ?_
  refine lv_aload_n hx hb dX3_init_26 rfl (lv_at hl 0 rfl) ?_
  refine va_new (ci := 2) (fs := [.null, .int 0]) (C := RX2) (T := TX2) (N := 2) hx hb hts inX2 tyX2 tyX2_ok hown (hts _ w_cl_X3_23) (hts _ w_ins_X2) (hts _ w_ini_X2) hK hP hD hS hA rfl (fun j hj => by rcases (show j = 0 ∨ j = 1 by omega) with rfl | rfl <;> rfl) (Nat.le_of_ble_eq_true rfl) (Nat.le_of_ble_eq_true rfl) dX3_init_27 (fun b3 H hP hD hS => ?_)
  refine lv_dup hx hb dX3_init_30 rfl ?_
  refine in_call (va_runIN (As := []) (rest := [.ref b3, .ref h0]) (Ts := tbG) ⟨hx, hb, hml, hown, hts⟩ (c_X2_init l D cI cG b3 H.size) ⟨va_cnB 0 hts (goodC w_co_X2_init tb_self) rfl rfl rfl hc.2.2.2 (hts _ w_ini_X2) (by decide +kernel) ⟨Nat.le_of_ble_eq_true rfl, Nat.le_of_ble_eq_true rfl⟩, rfl, hts _ w_im_X2_init⟩ ⟨inP_blind, inP_warm (last_P hP) hc⟩ rfl rfl hl.1 rfl (lv_room (Nat.le_of_ble_eq_true rfl)) dX3_init_31 ⟨Nat.le_of_ble_eq_true rfl, Nat.le_of_ble_eq_true rfl⟩) hP hD hS hA (fun qc H locs hqc hP hD hS => ?_)
  refine va_putF (D := D) (ci := 3) (v := .ref b3) (ty := .object "FallWith$Pad") (C := RX3) (T := TX3) (N := 5) hx hb hts inX3 tyX3 tyX3_ok nmX3 hown hK hP hD hS 0 rfl rfl 2 (by decide) (hts _ w_fl_X3_26) (fun _ h9 => h9) rfl hin rfl (by decide +kernel) rfl rfl (Nat.le_of_ble_eq_true rfl) dX3_init_34 (fun H locs hP hD hS => ?_)
  refine W.widen (k := 30) (n := 454) (by omega) (by omega) ?_
  refine lv_aload_n hx hb dX3_init_37 rfl (lv_at hl 0 rfl) ?_
  refine lv_iconst (v := 0) hx hb dX3_init_38 (by decide) ?_
  refine va_put (D := D) (ci := 3) (v := .int 0) (ty := .int) (C := RX3) (T := TX3) (N := 5) hx hb hts inX3 tyX3 tyX3_ok nmX3 hown hK hP hD hS 0 rfl rfl 3 (by decide) (hts _ w_fl_X3_30) (fun _ h9 => h9) rfl (by decide +kernel) rfl rfl (Nat.le_of_ble_eq_true rfl) dX3_init_39 (fun H locs hP hD hS => ?_)
  refine lv_aload_n hx hb dX3_init_42 rfl (lv_at hl 0 rfl) ?_
  refine lv_iconst (v := 1) hx hb dX3_init_43 (by decide) ?_
  refine va_put (D := D) (ci := 3) (v := .int 1) (ty := .int) (C := RX3) (T := TX3) (N := 5) hx hb hts inX3 tyX3 tyX3_ok nmX3 hown hK hP hD hS 0 rfl rfl 4 (by decide) (hts _ w_fl_X3_34) (fun _ h9 => h9) rfl (by decide +kernel) rfl rfl (Nat.le_of_ble_eq_true rfl) dX3_init_44 (fun H locs hP hD hS => ?_)
  have hP : va_P D vwCl ([(h0, .inr (3, [.ref b1, .ref b2, .ref b3, .int 0, .int 1]))] ++ iX0 cI cG qa ++ iX1 cI cG qb ++ iX2 cI cG qc) H := hP
  have hD : va_D A ([(h0, .inr (3, [.ref b1, .ref b2, .ref b3, .int 0, .int 1]))] ++ iX0 cI cG qa ++ iX1 cI cG qb ++ iX2 cI cG qc) := hD
  obtain ⟨qf, hqf⟩ : ∃ qf : Nat → Nat, qf = (fun k => match k with | 0 => h0 | 2 => qb 2 | 11 => qb 11 | 12 => qb 12 | 13 => qb 13 | 3 => qc 3 | 14 => qc 14 | j => qa j) := ⟨_, rfl⟩
  have hg8 : ∀ i, i < 4 → some (qa (15 + i)) = some (qf (15 + i)) := by
    intro i hi
    subst hqf
    rcases (show i = 0 ∨ i = 1 ∨ i = 2 ∨ i = 3 by omega) with rfl | rfl | rfl | rfl <;> rfl
  have hg10 : ∀ i, i < 12 → some (qa (19 + i)) = some (qf (19 + i)) := by
    intro i hi
    subst hqf
    rcases (show i = 0 ∨ i = 1 ∨ i = 2 ∨ i = 3 ∨ i = 4 ∨ i = 5 ∨ i = 6 ∨ i = 7 ∨ i = 8 ∨ i = 9 ∨ i = 10 ∨ i = 11 by omega) with rfl | rfl | rfl | rfl | rfl | rfl | rfl | rfl | rfl | rfl | rfl | rfl <;> rfl
  have hP := g_swap (k := 6) (g := fun i => some (qf (15 + i))) rfl hg8 hP
  have hD := hD.set (p := 6) (a := qa 8) (e := gE cG 4 (fun i => some (qf (15 + i)))) rfl
  have hP := g_swap (k := 12) (g := fun i => some (qf (19 + i))) rfl hg10 hP
  have hD := hD.set (p := 12) (a := qa 10) (e := gE cG 12 (fun i => some (qf (19 + i)))) rfl
  rw [← hqa, ← hqb, ← hqc] at hP hD
  exact W.vret hx hb X.2.2.2.1 (fun t ht hW => ⟨⟨qf, rfl, by subst hqf; rfl, by subst hqf; rw [ht]; exact hP, by subst hqf; rw [← hAe]; exact hD⟩, by rw [← hAe]; exact hS.F ht⟩) (by rw [← hAe]; exact hS.2.2) dX3_init_47

