/-! numbers of bits; the next part of a set; pillar, hangs -/
theorem bt_nI (k : Nat) {i : Nat} (hi : i < 32) : bt (nI k) i = k.testBit i := by
  show (BitVec.ofNat 32 k).getLsbD i = _
  rw [BitVec.getLsbD_ofNat, decide_eq_true hi, Bool.true_and]
theorem of_nat (x : Int32) : x = nI x.toBitVec.toNat := by
  apply Int32.toBitVec_inj.mp
  show x.toBitVec = BitVec.ofNat 32 x.toBitVec.toNat
  simp
def low (x : Int32) (n : Nat) : Prop := ∀ i, i < 32 → bt x i = true → i < n
theorem of_low {x : Int32} {n : Nat} (hn : n ≤ 31) (h : low x n) : ∃ k, k < 2 ^ n ∧ x = nI k := by
  refine ⟨x.toBitVec.toNat, Nat.lt_pow_two_of_testBit _ (fun i hi => ?_), of_nat x⟩
  rcases Nat.lt_or_ge i 32 with q | q
  · cases e : x.toBitVec.toNat.testBit i with
    | false => rfl
    | true =>
      have e2 : bt x i = true := e
      have := h i q e2
      omega
  · have e2 : bt x i = false := b_big q
    exact e2
theorem low_of {k n : Nat} (hk : k < 2 ^ n) : low (nI k) n := fun i hi h => by
  rw [bt_nI k hi] at h
  rcases Nat.lt_or_ge i n with q | q
  · exact q
  · have := Nat.testBit_lt_two_pow (Nat.lt_of_lt_of_le hk (Nat.pow_le_pow_right (by omega) q))
    rw [this] at h; cases h
theorem low_mono {x : Int32} {n m : Nat} (h : low x n) (hm : n ≤ m) : low x m := fun i hi q => by have := h i hi q; omega
theorem low_sb {x y : Int32} {n : Nat} (h : low y n) (hs : sb x y) : low x n := fun i hi q => h i hi (hs i hi q)
theorem bc_all : (List.range 4096).all (fun k => decide (m_J6_bitCount_0f7a4 (nI k) = some (nI (cn 12 (nI k))))) = true := by decide +kernel
theorem bitCount_s {x : Int32} (h : low x 12) : m_J6_bitCount_0f7a4 x = some (nI (cn 12 x)) := by
  obtain ⟨k, hk, rfl⟩ := of_low (by omega) h
  exact of_decide_eq_true (List.all_eq_true.mp bc_all k (List.mem_range.mpr hk))
theorem bit_val (x : Int32) {a : Nat} (ha : a < 32) : ((x >>> (nI a &&& 31)) &&& 1) = bi (bt x a) := by
  apply b_ext
  intro i hi
  rw [b_and, b_1 i hi, b_sshr a ha x hi]
  rcases Nat.eq_zero_or_pos i with h | h
  · subst h
    rw [Nat.add_zero, if_pos ha]
    cases bt x a <;> simp [bi, b_0, b_1 0 (by omega)]
  · rw [decide_eq_false (by omega)]
    have h1 : bt (bi (bt x a)) i = false := by
      cases bt x a
      · exact b_0 i
      · show bt 1 i = false
        rw [b_1 i hi, decide_eq_false (by omega)]
    rw [h1]; simp
theorem ones_s {F : Nat} (hF : 5000 ≤ F) (x : Int32) : m_X4_ones F x = some (nI (cn 12 x)) := by
  unfold m_X4_ones
  have h := fo_loop (m_X4_ones_4 F x) 12 (fun k acc => acc + bi (bt x k)) some (F := F) (by omega) 0 (fun f acc => ?_) (fun f acc k hk => ?_)
  · rw [h]
    congr 1
    have key : ∀ m, fo (fun k acc => acc + bi (bt x k)) m 0 = nI (cn m x) := by
      intro m
      induction m with
      | zero => rfl
      | succ m ih =>
        rw [fo, ih, cn]
        cases bt x m
        · simp [bi]
        · show nI (cn m x) + 1 = nI (cn m x + 1)
          rw [nI_1]
    exact key 12
  · rw [m_X4_ones_4, if_pos (show (12 : Int32) ≤ nI 12 by decide)]
  · rw [m_X4_ones_4, if_neg (show ¬ (12 : Int32) ≤ nI k from le_f (n := 12) hk (by omega)), nm_d, nm_d, nI_1, bit_val x (by omega)]
/-- a loop with an invariant -/
theorem fo_loopI {α : Type} {β : Type} (L : Nat → α → Int32 → Option β) (N : Nat) (st : Nat → α → α) (fin : α → Option β) (I : α → Prop) {F : Nat} (hF : N < F) (a0 : α) (h0 : I a0) (hI : ∀ acc i, i < N → I acc → I (st i acc)) (hstop : ∀ f acc, I acc → L (f + 1) acc (nI N) = fin acc) (hstep : ∀ f acc i, i < N → I acc → L (f + 1) acc (nI i) = L f (st i acc) (nI (i + 1))) : L F a0 0 = fin (fo st N a0) := by
  have hin : ∀ i, i ≤ N → I (fo st i a0) := by
    intro i
    induction i with
    | zero => intro _; exact h0
    | succ i ih => intro h; exact hI _ i (by omega) (ih (by omega))
  have key : ∀ f i, i ≤ N → N < i + f → L f (fo st i a0) (nI i) = fin (fo st N a0) := by
    intro f
    induction f with
    | zero => intro i h1 h2; omega
    | succ f ih =>
      intro i h1 h2
      rcases Nat.lt_or_ge i N with q | q
      · rw [hstep f _ i q (hin i h1)]
        exact ih (i + 1) q (by omega)
      · rw [show i = N by omega, hstop f _ (hin N (Nat.le_refl N))]
  exact key F 0 (Nat.zero_le _) (by omega)
def pst (S : St) (n : Nat) (E x : Int32) (a : Nat) (u : Int32 × Int32) : Int32 × Int32 :=
  if bt (Mo S n E x) a = true then (if u.1 = -6 then (nI a, nI (cn 12 (fa S n E x a)) - 1) else if nI (cn 12 (fa S n E x a)) - 1 ≤ u.2 then u else (nI a, nI (cn 12 (fa S n E x a)) - 1)) else u
theorem fa_low {S : St} {n : Nat} {E x : Int32} {a : Nat} (h : low x 12) : low (fa S n E x a) 12 := low_sb h (sb_tr (sb_andl _ _) (Mo_sb S n E x))
theorem p_pillar {F : Nat} (hF : 5000 ≤ F) : sp_pillar F Rel := by
  rintro S T p1 p2 ⟨n, c, m, R, X⟩
  have hn := R.1
  have h12 := hn.2
  have hT := R.2.2.1
  have en : T 0 1 = nI n := R.2.2.2.1
  unfold m_X3_pillar m_X4_pillar
  rw [isDay_s, isDayM_s, bs, bs, if_bi, if_bi, within_s, inI_s, bs, bs, if_bi, if_bi, soundOn_s hn R.2.1 hF, soundM0 R X hF, bs, bs, exempt_s hn X.1 hF, bs, most_s hn hT hF, mostM0 R X hF, bs, bs]
  have eE : ex (S 0 0) (gm S n) = EE S n := rfl
  rw [eE]
  have hlow : low (sn S n c p1) 12 := fun i hi h => by have := sn_lt h12 p1 i hi h; omega
  generalize sn S n c p1 = x at hlow
  have hc : m_X3_pillar_49 F S p1 p2 F x (Mo S n (EE S n) x) (-6) 0 0 = (fun u : Int32 × Int32 => if p2 = 0 then some u.1 else some u.2) (fo (pst S n (EE S n) x) n (-6, 0)) := by
    refine fo_loop (fun f (u : Int32 × Int32) i => m_X3_pillar_49 F S p1 p2 f x (Mo S n (EE S n) x) u.1 u.2 i) n (pst S n (EE S n) x) (fun u : Int32 × Int32 => if p2 = 0 then some u.1 else some u.2) (F := F) (by omega) (-6, 0) (fun f u => ?_) (fun f u i hi => ?_)
    · show m_X3_pillar_49 F S p1 p2 (f + 1) x (Mo S n (EE S n) x) u.1 u.2 (nI n) = _
      rw [m_X3_pillar_49, hn.1, if_pos (le_t (Nat.le_refl n) (by omega))]
    · show m_X3_pillar_49 F S p1 p2 (f + 1) x (Mo S n (EE S n) x) u.1 u.2 (nI i) = _
      rw [m_X3_pillar_49, hn.1, if_neg (le_f hi (by omega)), contains_s _ (by omega), bs, if_bi, fallen_s hn hT X.1 hF (by omega), bs, bitCount_s (fa_low hlow), bs]
      simp only [nm_d, nI_1]
      unfold pst
      cases bt (Mo S n (EE S n) x) i
      · simp
      · by_cases h1 : u.1 = -6
        · simp [h1]
        · by_cases h2 : nI (cn 12 (fa S n (EE S n) x i)) - 1 ≤ u.2 <;> simp [h1, h2]
  have hr : m_X4_pillar_43 F T p1 p2 F x (Mo S n (EE S n) x) (-6) 0 0 = (fun u : Int32 × Int32 => if p2 = 0 then some u.1 else some u.2) (fo (pst S n (EE S n) x) n (-6, 0)) := by
    refine fo_loopI (fun f (u : Int32 × Int32) i => m_X4_pillar_43 F T p1 p2 f x (Mo S n (EE S n) x) u.1 u.2 i) n (pst S n (EE S n) x) (fun u : Int32 × Int32 => if p2 = 0 then some u.1 else some u.2) (fun u => u.1 = -6 ∨ ¬ u.1 < 0) (F := F) (by omega) (-6, 0) (Or.inl rfl) (fun u i hi hI => ?_) (fun f u hI => ?_) (fun f u i hi hI => ?_)
    · unfold pst
      have h0 : ¬ nI i < 0 := nI_pos (by omega)
      split
      · split
        · exact Or.inr h0
        · split
          · exact hI
          · exact Or.inr h0
      · exact hI
    · show m_X4_pillar_43 F T p1 p2 (f + 1) x (Mo S n (EE S n) x) u.1 u.2 (nI n) = _
      rw [m_X4_pillar_43, en, if_pos (le_t (Nat.le_refl n) (by omega))]
    · show m_X4_pillar_43 F T p1 p2 (f + 1) x (Mo S n (EE S n) x) u.1 u.2 (nI i) = _
      have hfa : Mo S n (EE S n) x &&& (Mo S n (EE S n) (wo x i) ^^^ (-1)) = fa S n (EE S n) x i := rfl
      rw [m_X4_pillar_43, en, if_neg (le_f hi (by omega)), wo_def, mostM0 R X hF, bs, hfa, ones_s hF, bs]
      simp only [nm_d, nI_1, has_bit _ (show i < 32 by omega)]
      unfold pst
      have hneg : (u.1 < 0) ↔ (u.1 = -6) := by
        rcases hI with q | q
        · rw [q]; decide
        · exact ⟨fun z => absurd z q, fun z => absurd (by rw [z]; decide) q⟩
      cases bt (Mo S n (EE S n) x) i
      · simp
      · by_cases h1 : u.1 = -6
        · have h1' := hneg.mpr h1
          simp [h1]
        · have h1' : ¬ u.1 < 0 := fun z => h1 (hneg.mp z)
          by_cases h2 : nI (cn 12 (fa S n (EE S n) x i)) - 1 ≤ u.2 <;> simp [h1, h1', h2]
  rw [hc, hr, show (0 : Int64).toInt = (0 : Int32).toInt from rfl, show (1 : Int64).toInt = (1 : Int32).toInt from rfl]
  refine two rfl ?_
  repeat' split
  all_goals exact ⟨_, rfl⟩
/-- the next part of a set -/
def sbn (u v : Nat) : Prop := ∀ i, u.testBit i = true → v.testBit i = true
def nx (k u v : Nat) : Nat := if u = v then 0 else (u + 2 ^ k - v) &&& v
theorem sbn_h {u v : Nat} (h : sbn u v) : sbn (u / 2) (v / 2) := fun i hi => by
  have := h (i + 1) (by rw [Nat.testBit_succ]; exact hi)
  rw [Nat.testBit_succ] at this
  exact this
theorem sbn_0 {u v : Nat} (h : sbn u v) : u % 2 ≤ v % 2 := by
  have := h 0
  rw [Nat.testBit_zero, Nat.testBit_zero, decide_eq_true_eq, decide_eq_true_eq] at this
  omega
theorem sbn_le : ∀ (k : Nat) {u v : Nat}, u < 2 ^ k → sbn u v → u ≤ v
  | 0, u, v, h, _ => by simp at h; omega
  | k + 1, u, v, h, hs => by
    have h1 := sbn_le k (u := u / 2) (v := v / 2) (by rw [Nat.pow_succ] at h; omega) (sbn_h hs)
    have h2 := sbn_0 hs
    omega
theorem sbn_lt {k u v : Nat} (hv : v < 2 ^ k) (h : sbn u v) : u < 2 ^ k := Nat.lt_pow_two_of_testBit _ (fun i hi => by
  cases e : u.testBit i with
  | false => rfl
  | true =>
    have h1 := h i e
    have := Nat.testBit_lt_two_pow (Nat.lt_of_lt_of_le hv (Nat.pow_le_pow_right (by omega) hi))
    rw [this] at h1; cases h1)
theorem nx_c : ∀ (k : Nat) {u v : Nat}, v < 2 ^ k → sbn u v → (u + (2 ^ k - 1 - v)) &&& v = u
  | 0, u, v, hv, h => by
    have hu := sbn_lt hv h
    simp at hv hu
    subst hv; subst hu; rfl
  | k + 1, u, v, hv, h => by
    have h2 := sbn_0 h
    have hle := sbn_le (k + 1) (sbn_lt hv h) h
    have hv2 : v / 2 < 2 ^ k := by rw [Nat.pow_succ] at hv; omega
    have ih := nx_c k hv2 (sbn_h h)
    have hdiv : (u + (2 ^ (k + 1) - 1 - v)) / 2 = u / 2 + (2 ^ k - 1 - v / 2) := by rw [Nat.pow_succ] at *; omega
    apply Nat.eq_of_testBit_eq
    intro i
    rw [Nat.testBit_and]
    cases i with
    | zero =>
      rw [Nat.testBit_zero, Nat.testBit_zero, Nat.testBit_zero, ← Bool.decide_and]
      congr 1
      apply propext
      rw [Nat.pow_succ] at *
      omega
    | succ i =>
      rw [Nat.testBit_succ, Nat.testBit_succ, Nat.testBit_succ, hdiv, ← Nat.testBit_and, ih]
theorem nx_s {k u v : Nat} (hv : v < 2 ^ (k + 1)) (h : sbn u v) : nx (k + 1) u v = if u % 2 = v % 2 then 2 * nx k (u / 2) (v / 2) else u + 1 := by
  have h2 := sbn_0 h
  have hle := sbn_le (k + 1) (sbn_lt hv h) h
  have hv2 : v / 2 < 2 ^ k := by rw [Nat.pow_succ] at hv; omega
  unfold nx
  by_cases e : u = v
  · subst e; simp
  · rw [if_neg e]
    by_cases q : u % 2 = v % 2
    · rw [if_pos q, if_neg (by omega)]
      have hdiv : (u + 2 ^ (k + 1) - v) / 2 = u / 2 + 2 ^ k - v / 2 := by rw [Nat.pow_succ] at *; omega
      apply Nat.eq_of_testBit_eq
      intro i
      rw [Nat.testBit_and]
      cases i with
      | zero =>
        rw [Nat.testBit_zero, Nat.testBit_zero, Nat.testBit_zero, ← Bool.decide_and]
        congr 1
        apply propext
        rw [Nat.pow_succ] at *
        omega
      | succ i =>
        rw [Nat.testBit_succ, Nat.testBit_succ, Nat.testBit_succ, hdiv, ← Nat.testBit_and]
        congr 1
        omega
    · rw [if_neg q]
      have hdiv : (u + 2 ^ (k + 1) - v) / 2 = u / 2 + (2 ^ k - 1 - v / 2) := by rw [Nat.pow_succ] at *; omega
      apply Nat.eq_of_testBit_eq
      intro i
      rw [Nat.testBit_and]
      cases i with
      | zero =>
        rw [Nat.testBit_zero, Nat.testBit_zero, Nat.testBit_zero, ← Bool.decide_and]
        congr 1
        apply propext
        rw [Nat.pow_succ] at *
        omega
      | succ i =>
        rw [Nat.testBit_succ, Nat.testBit_succ, Nat.testBit_succ, hdiv, ← Nat.testBit_and, nx_c k hv2 (sbn_h h)]
        congr 1
        omega
theorem sbn_of {u v : Nat} (h0 : u % 2 ≤ v % 2) (h : sbn (u / 2) (v / 2)) : sbn u v := fun i hi => by
  cases i with
  | zero =>
    rw [Nat.testBit_zero, decide_eq_true_eq] at *
    omega
  | succ i =>
    rw [Nat.testBit_succ] at *
    exact h i hi
theorem nx_ok : ∀ (k : Nat) {u v : Nat}, v < 2 ^ k → sbn u v → sbn (nx k u v) v ∧ (u ≠ v → u < nx k u v ∧ ∀ w, sbn w v → u < w → nx k u v ≤ w)
  | 0, u, v, hv, h => by
    have hu := sbn_lt hv h
    simp at hv hu
    subst hv; subst hu
    exact ⟨fun i hi => by simp [nx] at hi, fun q => absurd rfl q⟩
  | k + 1, u, v, hv, h => by
    have h2 := sbn_0 h
    have hv2 : v / 2 < 2 ^ k := by rw [Nat.pow_succ] at hv; omega
    obtain ⟨i1, i2⟩ := nx_ok k hv2 (sbn_h h)
    rw [nx_s hv h]
    by_cases q : u % 2 = v % 2
    · rw [if_pos q]
      refine ⟨sbn_of (by omega) (by rw [show 2 * nx k (u / 2) (v / 2) / 2 = nx k (u / 2) (v / 2) by omega]; exact i1), fun hne => ?_⟩
      obtain ⟨j1, j2⟩ := i2 (by omega)
      refine ⟨by omega, fun w hw huw => ?_⟩
      have hw0 := sbn_0 hw
      have := j2 (w / 2) (sbn_h hw) (by omega)
      omega
    · rw [if_neg q]
      refine ⟨sbn_of (by omega) (by rw [show (u + 1) / 2 = u / 2 by omega]; exact sbn_h h), fun _ => ⟨by omega, fun w _ hw => by omega⟩⟩
theorem nx_I {u v : Nat} (hv : v < 4096) (h : sbn u v) : (nI u - nI v) &&& nI v = nI (nx 12 u v) := by
  have hle := sbn_le 12 (sbn_lt hv h) h
  apply b_ext
  intro i hi
  rw [b_and, bt_nI v hi, bt_nI _ hi]
  unfold nx
  by_cases e : u = v
  · subst e
    rw [Int32.sub_self, b_0, if_pos rfl]; simp
  · rw [if_neg e, Nat.testBit_and]
    cases hvi : v.testBit i with
    | false => rw [Bool.and_false, Bool.and_false]
    | true =>
      rw [Bool.and_true, Bool.and_true]
      have hi12 : i < 12 := by
        rcases Nat.lt_or_ge i 12 with q | q
        · exact q
        · have := Nat.testBit_lt_two_pow (Nat.lt_of_lt_of_le hv (show 4096 ≤ 2 ^ i from Nat.pow_le_pow_right (n := 2) (by omega) q))
          rw [this] at hvi; cases hvi
      have e1 : nI u - nI v = nI (2 ^ 32 + u - v) := by
        apply Int32.toBitVec_inj.mp
        rw [Int32.toBitVec_sub]
        apply BitVec.eq_of_toNat_eq
        rw [BitVec.toNat_sub]
        show (2 ^ 32 - (BitVec.ofNat 32 v).toNat + (BitVec.ofNat 32 u).toNat) % 2 ^ 32 = (BitVec.ofNat 32 (2 ^ 32 + u - v)).toNat
        simp only [BitVec.toNat_ofNat]
        omega
      rw [e1, bt_nI _ hi]
      have e2 : (2 ^ 32 + u - v) % 2 ^ 12 = (u + 2 ^ 12 - v) % 2 ^ 12 := by omega
      have e3 := congrArg (fun z => z.testBit i) e2
      simp only [Nat.testBit_mod_two_pow, decide_eq_true hi12, Bool.true_and] at e3
      exact e3
