/-! counts, told, under, falls, back, wise -/
theorem rb_of {p : Int32} {n : Nat} (hn : n < 2 ^ 31) : (¬ p < 0 ∧ p < nI n) ↔ rb p 0 ((n : Int) - 1) = true := by
  unfold rb
  rw [decide_eq_true_eq, lt0, Int32.lt_iff_toInt_lt, nI_toInt hn]
  omega
theorem p_counts {F : Nat} : sp_counts F Rel := by
  rintro S T p1 ⟨n, c, m, R, X⟩
  have hn := R.1
  have h12 := hn.2
  have hc := R.2.1.2.1
  have ec : T 0 5 = nI c := R.2.2.2.2.2.1
  unfold m_X3_counts m_X4_counts
  rw [R.2.1.1, ec, inI_s, t64, bs, if_bi]
  have e : (nI c - 1).toInt = (c : Int) - 1 := pk_sub_toInt (a := c) (b := 1) (by omega) (by omega)
  rw [e, show (0 : Int64).toInt = 0 from rfl]
  cases h : rb p1 0 ((c : Int) - 1) with
  | false =>
    refine ⟨-1, ?_, rfl⟩
    by_cases h1 : p1 < 0
    · rw [if_pos h1]
    · rw [if_neg h1, if_neg (fun h2 => by have := (rb_of (p := p1) (n := c) (by omega)).mp ⟨h1, h2⟩; rw [h] at this; cases this)]
  | true =>
    obtain ⟨h1, h2⟩ := (rb_of (p := p1) (n := c) (by omega)).mpr h
    rw [if_neg h1, if_pos h2]
    obtain ⟨k, hk, rfl⟩ := rb_nI h
    obtain ⟨e11, e12, e13, -, r13⟩ := R.2.2.2.2.2.2.2.2.2 k hk
    obtain ⟨a, ha, ea⟩ := R.2.1.2.2 k hk
    rw [isCounted_s hn R.2.1 hk, bs, if_bi]
    simp only [if_true, gd_nI (show k < 12 by omega) (show 12 ≤ 1000 by omega), ix_nI (show k < 2 ^ 31 by omega), e11, e12, e13, ea, wcM0 R X ha _ r13, bs, if_bi, ix_nI (show a < 2 ^ 31 by omega)]
    refine two rfl ?_
    split <;> exact ⟨_, rfl⟩
theorem p_told {F : Nat} : sp_told F Rel := by
  rintro S T p1 ⟨n, c, m, R, X⟩
  have h12 := R.1.2
  unfold m_X3_told m_X4_told
  rw [within_s, inI_s, bs, bs, if_bi, if_bi, R.1.1, R.2.1.1, X.2.2.2.2.1.1, R.2.2.2.1, R.2.2.2.2.2.1, X.2.2.2.2.1.2.1, X.2.1.1, R.2.2.2.2.1]
  rw [show (10 : Int64).toInt = (10 : Int32).toInt from rfl, show (21 : Int64).toInt = (21 : Int32).toInt from rfl]
  cases h : rb p1 (10 : Int32).toInt (21 : Int32).toInt with
  | false =>
    refine two rfl ?_
    rw [if_neg (by simp)]
    repeat' split
    all_goals exact ⟨_, rfl⟩
  | true =>
    rw [if_pos rfl, if_pos rfl]
    have h1 := rb_rg h
    have h2 : 10 ≤ p1.toInt ∧ p1.toInt ≤ 21 := h1
    obtain ⟨j, hj, ej⟩ := nI_of (x := p1) (fun q => by have := (lt0 _).mp q; omega)
    have hj2 : 10 ≤ j ∧ j ≤ 21 := by rw [ej, nI_toInt hj] at h2; omega
    obtain ⟨a, rfl⟩ : ∃ a, j = a + 10 := ⟨j - 10, by omega⟩
    have es : p1 - 10 = nI a := by
      rw [ej, show (10 : Int32) = nI 10 from rfl, pk_sub (by omega)]
      congr 1
    rw [es, isActM_s R, bs, if_bi, gd_nI (show a < 12 by omega) (by omega), ix_nI (by omega)]
    obtain ⟨e9, -⟩ := R.2.2.2.2.2.2.2.2.1 a (by omega)
    rcases Nat.lt_or_ge a n with q | q
    · have hb : rb (nI a) 0 ((n : Int) - 1) = true := decide_eq_true (by rw [nI_toInt (by omega)]; omega)
      rw [hb, if_pos rfl, e9, gd_nI (show a < 12 by omega) (by omega)]
      exact ⟨_, rfl, rfl⟩
    · have hb : rb (nI a) 0 ((n : Int) - 1) = false := decide_eq_false (by rw [nI_toInt (by omega)]; omega)
      rw [hb]
      obtain ⟨-, -, -, -, h9, -⟩ := X.2.2.2.2.2 a q (by omega)
      rw [h9]
      exact ⟨_, rfl, rfl⟩
/-- under -/
def ev (n : Nat) : Int32 := (1 <<< (nI n &&& 31)) - 1
theorem bt_ev : ∀ n, n < 13 → ∀ i, i < 32 → bt (ev n) i = decide (i < n) := by decide +kernel
theorem fo_orx (q : Nat → Int32) (x : Int32) : ∀ n, fo (fun i acc => acc ||| q i) n x = x ||| fo (fun i acc => acc ||| q i) n 0
  | 0 => by rw [fo, fo, or_0]
  | n + 1 => by rw [fo, fo, fo_orx q x n, or_as]
def nb (S : St) (n a : Nat) : Int32 := fo (fun k acc => acc ||| S (19 + a) k) (ix (S 9 a)) 0 &&& ev n
theorem named_s {S : St} {n F a : Nat} (hn : nA S n) (hT : nT S) (hF : 5000 ≤ F) (ha : a < 12) : m_X0_named F S (nI a) = some (nb S n a) := by
  obtain ⟨j, hj, e⟩ := hT a ha
  unfold m_X0_named nb
  rw [e, ix_nI (by omega)]
  refine fo_loop (m_X0_named_4 F S (nI a)) j (fun k acc => acc ||| S (19 + a) k) (fun acc => some (acc &&& ev n)) (by omega) 0 (fun f acc => ?_) (fun f acc k hk => ?_)
  · rw [m_X0_named_4, gd_nI ha (by omega), ix_nI (by omega), e, if_pos (le_t (Nat.le_refl j) (by omega))]
    unfold m_X0_everyOne
    rw [hn.1, bs]; rfl
  · rw [m_X0_named_4, gd_nI ha (by omega), ix_nI (by omega), e, if_neg (le_f hk (by omega)), gd_nI ha (by omega), gd_nI (show k < 20 by omega) (by omega), ix_nI (by omega), nm_d, nm_d, nI_1]
theorem namedM_s {S T : St} {n c F a : Nat} (R : RB S T n c) (hF : 5000 ≤ F) (ha : a < 12) : m_X4_namedBy F T (nI a) = some (nb S n a) := by
  obtain ⟨j, hj, e⟩ := R.2.2.1 a ha
  obtain ⟨e9, e8⟩ := R.2.2.2.2.2.2.2.2.1 a ha
  have en : T 0 1 = nI n := R.2.2.2.1
  unfold m_X4_namedBy nb
  rw [e, ix_nI (by omega)] at *
  refine fo_loop (m_X4_namedBy_4 F T (nI a)) j (fun k acc => acc ||| S (19 + a) k) (fun acc => some (acc &&& ev n)) (by omega) 0 (fun f acc => ?_) (fun f acc k hk => ?_)
  · rw [m_X4_namedBy_4, gd_nI ha (by omega), ix_nI (by omega), e9, if_pos (le_t (Nat.le_refl j) (by omega)), en]; rfl
  · have ei : (20 : Int32) * nI a + nI k = nI (20 * a + k) := by
      rw [show (20 : Int32) = nI 20 from rfl, pk_mul, nI_add]
    rw [m_X4_namedBy_4, gd_nI ha (by omega), ix_nI (by omega), e9, if_neg (le_f hk (by omega)), ei, gd_nI (show 20 * a + k < 240 by omega) (by omega), ix_nI (by omega), e8 k hk, nm_d, nm_d, nI_1]
def nq (S : St) (n : Nat) (x : Int32) (a : Nat) : Int32 := if bt x a = true then nb S n a else 0
def kU (S : St) (n : Nat) (x : Int32) : Int32 := fo (fun a acc => acc ||| nq S n x a) n x
theorem namedByAny_s {S : St} {n F : Nat} (hn : nA S n) (hT : nT S) (hF : 5000 ≤ F) (x : Int32) : m_X0_namedByAny F S x = some (fo (fun a acc => acc ||| nq S n x a) n 0) := by
  have h12 := hn.2
  refine fo_loop (m_X0_namedByAny_4 F S x) n _ some (by omega) 0 (fun f acc => ?_) (fun f acc i hi => ?_)
  · rw [m_X0_namedByAny_4, hn.1, if_pos (le_t (Nat.le_refl n) (by omega))]
  · rw [m_X0_namedByAny_4, hn.1, if_neg (le_f hi (by omega)), contains_s _ (by omega), bs, if_bi, named_s hn hT hF (by omega), bs]
    simp only [nm_d, nI_1]
    unfold nq
    cases bt x i <;> simp [or_0]
theorem kU_lt {S : St} {n : Nat} (hn : n ≤ 12) (x : Int32) : ∀ m i, i < 32 → bt (fo (fun a acc => acc ||| nq S n x a) m 0) i = true → i < n := by
  intro m
  induction m with
  | zero => intro i hi h; rw [fo, b_0] at h; cases h
  | succ m ih =>
    intro i hi h
    rw [fo, b_or, Bool.or_eq_true] at h
    rcases h with h | h
    · exact ih i hi h
    · unfold nq nb at h
      split at h
      · rw [b_and, bt_ev n (by omega) i hi, Bool.and_eq_true, decide_eq_true_eq] at h
        exact h.2
      · rw [b_0] at h; cases h
theorem kU_e (S : St) (n : Nat) (x : Int32) : kU S n x = x ||| fo (fun a acc => acc ||| nq S n x a) n 0 := fo_orx _ x n
theorem kU_cn {S : St} {n : Nat} (hn : n ≤ 12) : ∀ x, kU S n x ≠ x → cn n x < cn n (kU S n x) := fun x h => by
  rw [kU_e] at *
  exact or_cn hn (kU_lt hn x n) h
theorem under_loop {S : St} {n F : Nat} (hn : nA S n) (hT : nT S) (hF : 5000 ≤ F) (p : Int32) : ∀ f r x, r ≤ 12 → 12 < r + f → m_X3_under_24 F S p f x (nI r) = some (itr (kU S n) (12 - r) x) := by
  intro f
  induction f with
  | zero => intro r x h1 h2; omega
  | succ f ih =>
    intro r x h1 h2
    rw [m_X3_under_24]
    rcases Nat.lt_or_ge r 12 with q | q
    · rw [if_neg (show ¬ (12 : Int32) ≤ nI r from le_f (n := 12) q (by omega)), namedByAny_s hn hT hF, bs, nm_d, nm_d, nI_1, ← kU_e]
      by_cases h : kU S n x = x
      · rw [if_pos h, itr_fix h]
      · rw [if_neg h, ih (r + 1) _ (by omega) (by omega), show 12 - r = (12 - (r + 1)) + 1 by omega, itr]
    · rw [if_pos (show (12 : Int32) ≤ nI r from le_t (n := 12) q (by omega)), show 12 - r = 0 by omega, itr]
theorem underIn_s {S T : St} {n c F : Nat} (R : RB S T n c) (hF : 5000 ≤ F) (p : Int32) (K : Int32 → Int32 → Option Int32) (y : Int32) : m_X4_under_28 F T p K F y y 0 = K (kU S n y) y := by
  have en : T 0 1 = nI n := R.2.2.2.1
  have h12 := R.1.2
  refine fo_loop (fun f acc i => m_X4_under_28 F T p K f acc y i) n (fun a acc => acc ||| nq S n y a) (fun acc => K acc y) (F := F) (by omega) y (fun f acc => ?_) (fun f acc i hi => ?_)
  · show m_X4_under_28 F T p K (f + 1) acc y (nI n) = _
    rw [m_X4_under_28, en, if_pos (le_t (Nat.le_refl n) (by omega))]
  · show m_X4_under_28 F T p K (f + 1) acc y (nI i) = _
    rw [m_X4_under_28, en, if_neg (le_f hi (by omega)), namedM_s R hF (by omega), bs]
    simp only [nm_d, nI_1, has_bit _ (show i < 32 by omega)]
    unfold nq
    cases bt y i <;> simp
theorem kU_0 (S : St) (n : Nat) : kU S n 0 = 0 := by
  have : ∀ m, fo (fun a acc => acc ||| nq S n 0 a) m 0 = 0 := by
    intro m
    induction m with
    | zero => rfl
    | succ m ih => rw [fo, ih]; unfold nq; rw [b_0]; simp
  exact this n
theorem p_under {F : Nat} (hF : 5000 ≤ F) : sp_under F Rel := by
  rintro S T p1 ⟨n, c, m, R, X⟩
  have hn := R.1
  have h12 := hn.2
  have hT := R.2.2.1
  unfold m_X3_under m_X4_under
  rw [has_s hn, isActM_s R, bs, bs, if_bi, if_bi]
  cases ha : rb p1 0 ((n : Int) - 1) with
  | false => exact ⟨_, rfl, rfl⟩
  | true =>
    obtain ⟨a, han, rfl⟩ := rb_nI ha
    rw [if_pos rfl, if_pos rfl, named_s hn hT hF (by omega), namedM_s R hF (by omega), bs, bs]
    have key : ∀ f y, n - cn n y < f → m_X4_under_18 F T (nI a) f (kU S n y) y = some (itr (kU S n) 12 y) := by
      intro f
      induction f with
      | zero => intro y h; omega
      | succ f ih =>
        intro y h
        rw [m_X4_under_18]
        by_cases e : y = kU S n y
        · rw [if_pos e, itr_fix e.symm, ← e]
        · rw [if_neg e, underIn_s R hF, ih _ (by have := kU_cn (S := S) h12 y (fun q => e q.symm); have := cn_le n (kU S n y); omega), inc_stab h12 (kU_cn h12)]
    refine ⟨itr (kU S n) 12 (nb S n a), under_loop hn hT hF (nI a) F 0 _ (by omega) (by omega), ?_⟩
    obtain ⟨f, rfl⟩ : ∃ f, F = f + 1 := ⟨F - 1, by omega⟩
    rw [m_X4_under_18]
    by_cases e : 0 = nb S n a
    · rw [if_pos e, ← e, itr_fix (kU_0 S n)]
    · rw [if_neg e, underIn_s R hF]
      exact key f _ (by omega)
/-- what falls -/
def fa (S : St) (n : Nat) (E x : Int32) (a : Nat) : Int32 := Mo S n E x &&& (Mo S n E (wo x a) ^^^ (-1))
theorem and_not_self (x : Int32) : x &&& (x ^^^ (-1)) = 0 := (sub_iff x x).mpr (sb_rf x)
theorem fallen_s {S : St} {n F a : Nat} (hn : nA S n) (hT : nT S) (hg : nG S n) (hF : 5000 ≤ F) (ha : a < 12) (x : Int32) : m_X3_fallen F S (nI a) x = some (fa S n (EE S n) x a) := by
  have h12 := hn.2
  unfold m_X3_fallen fa
  rw [exempt_s hn hg hF, bs, most_s hn hT hF, bs, contains_s _ (by omega), bs, if_bi, without_s, bs, most_s hn hT hF, bs]
  have eE : ex (S 0 0) (gm S n) = EE S n := rfl
  rw [eE, Mo_wo h12 _ _ (by omega)]
  cases h : bt (Mo S n (EE S n) x) a with
  | true => rw [if_pos rfl]
  | false => rw [Mo_wo0 h12 _ _ (by omega) h, and_not_self]; rfl
theorem fallOfM_s {S T : St} {n c m F a : Nat} (R : RB S T n c) (X : RX S T n m) (hF : 5000 ≤ F) (d : Int32) : m_X4_fallOf F T (nI a) d = some (fa S n (EE S n) (sn S n c d) a) := by
  unfold m_X4_fallOf
  rw [soundM0 R X hF, bs, mostM0 R X hF, bs, wo_def, mostM0 R X hF, bs]; rfl
def due (S : St) (d r : Int32) (a : Nat) : Int32 := S 7 a + S 7 a * r * (d - S 4 a) / 100
def gst (S : St) (f d w r : Int32) (a : Nat) (acc : Int32) : Int32 := if bt f a = true then (if S 5 a = w then acc + due S d r a else if S 6 a = w then acc - due S d r a else acc) else acc
def gn (S : St) (n : Nat) (f d w r : Int32) : Int32 := fo (gst S f d w r) n 0
theorem gain_s {S : St} {n F : Nat} (hn : nA S n) (hF : 5000 ≤ F) (f d w r : Int32) : m_X0_gain F S f d w r = some (gn S n f d w r) := by
  have h12 := hn.2
  refine fo_loop (m_X0_gain_6 F S f d w r) n _ some (by omega) 0 (fun k acc => ?_) (fun k acc i hi => ?_)
  · rw [m_X0_gain_6, hn.1, if_pos (le_t (Nat.le_refl n) (by omega))]
  · rw [m_X0_gain_6, hn.1, if_neg (le_f hi (by omega)), contains_s _ (by omega), bs, if_bi]
    simp only [gd_nI (show i < 12 by omega) (show 12 ≤ 1000 by omega), ix_nI (show i < 2 ^ 31 by omega), nm_d, nI_1]
    unfold gst due
    cases bt f i
    · simp
    · by_cases h1 : S 5 i = w
      · simp [h1]
      · by_cases h2 : S 6 i = w <;> simp [h1, h2]
theorem backOfM_s {S T : St} {n c m F a : Nat} (R : RB S T n c) (X : RX S T n m) (hF : 5000 ≤ F) (d w : Int32) : m_X4_backOf F T (nI a) d w = some (gn S n (fa S n (EE S n) (sn S n c d) a) d w (S 0 1)) := by
  have hn := R.1
  have en : T 0 1 = nI n := R.2.2.2.1
  have er : T 0 3 = S 0 1 := R.2.2.2.2.1
  have h12 := hn.2
  unfold m_X4_backOf
  rw [fallOfM_s R X hF, bs]
  generalize fa S n (EE S n) (sn S n c d) a = f
  refine fo_loop (fun k acc i => m_X4_backOf_14 F T (nI a) d w k f acc i) n (gst S f d w (S 0 1)) some (by omega) 0 (fun k acc => ?_) (fun k acc i hi => ?_)
  · show m_X4_backOf_14 F T (nI a) d w (k + 1) f acc (nI n) = _
    rw [m_X4_backOf_14, en, if_pos (le_t (Nat.le_refl n) (by omega))]
  · show m_X4_backOf_14 F T (nI a) d w (k + 1) f acc (nI i) = _
    obtain ⟨e1, e2, e3, e4, -, -, -⟩ := R.2.2.2.2.2.2.1 i hi
    rw [m_X4_backOf_14, en, if_neg (le_f hi (by omega)), er]
    simp only [gd_nI (show i < 12 by omega) (show 12 ≤ 1000 by omega), ix_nI (show i < 2 ^ 31 by omega), nm_d, nI_1, has_bit _ (show i < 32 by omega), e1, e2, e3, e4]
    unfold gst due
    cases bt f i
    · simp
    · by_cases h1 : S 5 i = w
      · simp [h1]
      · by_cases h2 : S 6 i = w <;> simp [h1, h2, Int32.sub_eq_add_neg]
theorem p_back {F : Nat} (hF : 5000 ≤ F) : sp_back F Rel := by
  rintro S T p1 p2 p3 p4 ⟨n, c, m, R, X⟩
  have hn := R.1
  have h12 := hn.2
  have hT := R.2.2.1
  unfold m_X3_back m_X4_back
  rw [has_s hn, isActM_s R, bs, bs, if_bi, if_bi]
  cases ha : rb p1 0 ((n : Int) - 1) with
  | false => exact ⟨_, rfl, rfl⟩
  | true =>
    obtain ⟨a, han, rfl⟩ := rb_nI ha
    rw [if_pos rfl, if_pos rfl, isWho_s, isWhoM_s, isWho_s, isWhoM_s, isDay_s, isDayM_s]
    simp only [bs, if_bi]
    cases hdy : rb p3 0 99 with
    | false =>
      simp only [Bool.false_eq_true, if_false]
      refine two rfl ?_
      repeat' split
      all_goals exact ⟨_, rfl⟩
    | true =>
      rw [wouldCount_s (by omega), wcM0 R X han _ (rb_rg hdy), soundOn_s hn R.2.1 hF, backOfM_s R X hF]
      simp only [bs, if_bi, fallen_s hn hT X.1 hF (show a < 12 by omega), gain_s hn hF]
      refine two rfl ?_
      repeat' split
      all_goals exact ⟨_, rfl⟩
/-- the first that is such -/
def ffr (P : Nat → Bool) : Nat → Nat → Int32
  | 0, _ => -6
  | r + 1, k => if P k = true then nI k else ffr P r (k + 1)
theorem ff_from (L : Nat → Int32 → Option Int32) (N : Nat) (P : Nat → Bool) (hstop : ∀ f, L (f + 1) (nI N) = some (-6)) (hstep : ∀ f k, k < N → L (f + 1) (nI k) = if P k = true then some (nI k) else L f (nI (k + 1))) : ∀ f k, k ≤ N → N < k + f → L f (nI k) = some (ffr P (N - k) k) := by
  intro f
  induction f with
  | zero => intro k h1 h2; omega
  | succ f ih =>
    intro k h1 h2
    rcases Nat.lt_or_ge k N with q | q
    · rw [hstep f k q, show N - k = (N - (k + 1)) + 1 by omega, ffr, ih (k + 1) q (by omega)]
      split <;> rfl
    · rw [show k = N by omega, hstop, Nat.sub_self, ffr]
theorem ff_loop (L : Nat → Int32 → Option Int32) (N : Nat) (P : Nat → Bool) {F : Nat} (hF : N < F) (hstop : ∀ f, L (f + 1) (nI N) = some (-6)) (hstep : ∀ f k, k < N → L (f + 1) (nI k) = if P k = true then some (nI k) else L f (nI (k + 1))) : L F 0 = some (ffr P N 0) :=
  ff_from L N P hstop hstep F 0 (Nat.zero_le _) (by omega)
/-- who is wise, for the act a, when x is sound -/
def wz (S : St) (n : Nat) (E x : Int32) (d : Int32) (a k : Nat) : Bool := wc S a (nI k) d && decide (¬ gn S n (fa S n E x a) d (nI k) (S 0 1) ≤ 0)
theorem wiseWho_s {S : St} {n F a : Nat} (hn : nA S n) (hT : nT S) (hg : nG S n) (hF : 5000 ≤ F) (ha : a < 12) (d x : Int32) : m_X3_wiseWho F S (nI a) d x = some (ffr (wz S n (EE S n) x d a) 4 0) := by
  unfold m_X3_wiseWho
  rw [fallen_s hn hT hg hF ha, bs]
  refine ff_loop (fun f k => m_X3_wiseWho_11 F S (nI a) d x f (fa S n (EE S n) x a) k) 4 _ (by omega) (fun f => ?_) (fun f k hk => ?_)
  · show m_X3_wiseWho_11 F S (nI a) d x (f + 1) _ (nI 4) = _
    rw [m_X3_wiseWho_11, if_pos (show (4 : Int32) ≤ nI 4 by decide)]
  · show m_X3_wiseWho_11 F S (nI a) d x (f + 1) _ (nI k) = _
    rw [m_X3_wiseWho_11, if_neg (show ¬ (4 : Int32) ≤ nI k from le_f (n := 4) hk (by omega)), wouldCount_s ha, bs, if_bi, gain_s hn hF, bs, nm_d, nI_1]
    unfold wz
    cases wc S a (nI k) d
    · simp
    · by_cases h : gn S n (fa S n (EE S n) x a) d (nI k) (S 0 1) ≤ 0 <;> simp [h]
theorem wiseOfM_s {S T : St} {n c m F a : Nat} (R : RB S T n c) (X : RX S T n m) (hF : 5000 ≤ F) (ha : a < n) {d : Int32} (hd : rg d 0 99) : m_X4_wiseOf F T (nI a) d = some (ffr (wz S n (EE S n) (sn S n c d) d a) 4 0) := by
  unfold m_X4_wiseOf
  refine ff_loop (m_X4_wiseOf_2 F T (nI a) d) 4 _ (by omega) (fun f => ?_) (fun f k hk => ?_)
  · rw [m_X4_wiseOf_2, if_pos (show (4 : Int32) ≤ nI 4 by decide)]
  · rw [m_X4_wiseOf_2, if_neg (show ¬ (4 : Int32) ≤ nI k from le_f (n := 4) hk (by omega)), wcM0 R X ha _ hd, bs, if_bi, backOfM_s R X hF, bs, nm_d, nI_1]
    unfold wz
    cases wc S a (nI k) d
    · simp
    · by_cases h : gn S n (fa S n (EE S n) (sn S n c d) a) d (nI k) (S 0 1) ≤ 0 <;> simp [h]
theorem p_wise {F : Nat} (hF : 5000 ≤ F) : sp_wise F Rel := by
  rintro S T p1 p2 ⟨n, c, m, R, X⟩
  have hn := R.1
  have h12 := hn.2
  have hT := R.2.2.1
  unfold m_X3_wise m_X4_wise
  rw [has_s hn, isActM_s R, bs, bs, if_bi, if_bi]
  cases ha : rb p1 0 ((n : Int) - 1) with
  | false => exact ⟨_, rfl, rfl⟩
  | true =>
    obtain ⟨a, han, rfl⟩ := rb_nI ha
    rw [if_pos rfl, if_pos rfl, isDay_s, isDayM_s, bs, bs, if_bi, if_bi]
    cases hdy : rb p2 0 99 with
    | false => exact ⟨_, rfl, rfl⟩
    | true =>
      rw [if_pos rfl, if_pos rfl, soundOn_s hn R.2.1 hF, bs, wiseWho_s hn hT X.1 hF (by omega), bs, wiseOfM_s R X hF han (rb_rg hdy), bs]
      exact ⟨_, rfl, rfl⟩
