/-! heal -/
def dd (S : St) (n : Nat) (d : Int32) : Int32 := mk n (fun a => dn S a d)
theorem doneBy_s {S : St} {n F : Nat} (hn : nA S n) (hF : 5000 ≤ F) (d : Int32) : m_X0_doneBy F S d = some (dd S n d) := by
  have h12 := hn.2
  refine mk_loop (m_X0_doneBy_4 F S d) n _ (by omega) (fun f acc => ?_) (fun f acc i hi => ?_)
  · rw [m_X0_doneBy_4, hn.1, if_pos (le_t (Nat.le_refl n) (by omega))]
  · rw [m_X0_doneBy_4, hn.1, if_neg (le_f hi (by omega)), isDone_s (by omega), bs, if_bi]
    simp only [nm_d, nI_1, one_def]
    cases dn S i d <;> simp [or_0]
def als (S : St) (n : Nat) (E t s : Int32) : Bool := decide ((t &&& (Mo S n E s ^^^ (-1))) = 0)
theorem als_iff {S : St} {n : Nat} {E t s : Int32} : als S n E t s = true ↔ sb t (Mo S n E s) := by
  unfold als
  rw [decide_eq_true_eq, sub_iff]
theorem allStand_s {S : St} {n F : Nat} (hn : nA S n) (hT : nT S) (hF : 5000 ≤ F) (t s E : Int32) : m_X3_allStand F S t s E = some (bi (als S n E t s)) := by
  unfold m_X3_allStand als
  rw [most_s hn hT hF, bs]
  by_cases h : (t &&& (Mo S n E s ^^^ (-1))) = 0
  · rw [if_pos h, decide_eq_true h]; rfl
  · rw [if_neg h, decide_eq_false h]; rfl
def ind (S : St) (n : Nat) (E t s b : Int32) : Int32 := mk n (fun a => bt b a && !als S n E t (wo s a))
theorem indispensable_s {S : St} {n F : Nat} (hn : nA S n) (hT : nT S) (hF : 5000 ≤ F) (t s b E : Int32) : m_X3_indispensable F S t s b E = some (ind S n E t s b) := by
  have h12 := hn.2
  refine mk_loop (m_X3_indispensable_6 F S t s b E) n _ (by omega) (fun f acc => ?_) (fun f acc i hi => ?_)
  · rw [m_X3_indispensable_6, hn.1, if_pos (le_t (Nat.le_refl n) (by omega))]
  · rw [m_X3_indispensable_6, hn.1, if_neg (le_f hi (by omega)), contains_s _ (by omega), bs, if_bi, without_s, bs, allStand_s hn hT hF, bs, if_bi]
    simp only [nm_d, nI_1, one_def]
    cases bt b i <;> cases als S n E t (wo s i) <;> simp [or_0]
theorem snH_H {S : St} {n c : Nat} (hn : nA S n) (hk : nK S n c) (H d : Int32) : snH S n c H 0 d = sn S n c d ||| (H &&& dd S n d) := by
  have h12 := hn.2
  rw [← snH_0 hn hk]
  apply b_ext
  intro i hi
  unfold snH dd
  rw [b_or, b_and, bt_mk _ hi n (by omega), bt_mk _ hi n (by omega), bt_mk _ hi n (by omega)]
  by_cases q : i < n
  · rw [decide_eq_true q, Bool.true_and, Bool.true_and, Bool.true_and]
    unfold sdH
    rw [b_0, Bool.false_or]
    cases hH : bt H i with
    | true =>
      have e1 : hdH S H i d = true := by unfold hdH; rw [hH]; rfl
      have e2 : anyb c (apH S H i d) = false := anyb_f (fun k hkc => by
        unfold apH wcH
        have : hdH S H i (S 13 k) = true := by unfold hdH; rw [hH]; rfl
        rw [this]; simp)
      rw [e1, e2]
      cases dn S i d <;> simp
    | false =>
      have e1 : ∀ z, hdH S H i z = hdH S 0 i z := fun z => by unfold hdH; rw [hH, b_0]
      have e2 : anyb c (apH S H i d) = anyb c (apH S 0 i d) := anyb_c (fun k hkc => by
        unfold apH wcH
        rw [e1])
      rw [e1, e2]
      simp
  · rw [decide_eq_false q]; simp
def flw (S : St) (n : Nat) : Int32 := mk n (fun a => decide (¬ S 15 a ≤ 0))
theorem sn_dd {S : St} {n c : Nat} (hn : n ≤ 12) (d : Int32) : sb (sn S n c d) (dd S n d) := fun i hi h => by
  unfold sn at h
  unfold dd
  rw [bt_mk _ hi n (by omega)] at *
  unfold sd at h
  simp only [Bool.and_eq_true] at *
  exact ⟨h.1, h.2.1.1⟩
theorem hurt_flw {S : St} {n c : Nat} (hn : nA S n) (hk : nK S n c) (d : Int32) : sb (dd S n d &&& (sn S n c d ^^^ (-1))) (flw S n) := fun i hi h => by
  have h12 := hn.2
  rw [b_and, b_not _ hi, Bool.and_eq_true, Bool.not_eq_true'] at h
  obtain ⟨h1, h2⟩ := h
  unfold dd at h1
  unfold sn at h2
  unfold flw
  rw [bt_mk _ hi n (by omega)] at *
  rw [Bool.and_eq_true] at h1
  have hin := of_decide_eq_true h1.1
  rw [h1.1, Bool.true_and] at h2
  rw [h1.1, Bool.true_and]
  unfold sd at h2
  rw [h1.2, Bool.true_and] at h2
  cases hg : ng S i d with
  | true =>
    unfold ng at hg
    rw [Bool.and_eq_true, decide_eq_true_eq] at hg
    rw [hg.1]; decide
  | false =>
    rw [hg, Bool.not_false, Bool.true_and, Bool.not_eq_false'] at h2
    obtain ⟨k, hkc, hp⟩ := anyb_iff.mp h2
    rw [Bool.and_eq_true, decide_eq_true_eq] at hp
    have h3 := hp.1
    unfold ap wc lts at h3
    rw [hp.2, ix_nI (by omega)] at h3
    simp only [Bool.and_eq_true, Bool.or_eq_true, decide_eq_true_eq] at h3
    rcases h3.2.1 with (g | g) | g
    · rw [g]; decide
    · rw [g.1]; decide
    · rw [g.1]; decide
theorem nI_or (a b : Nat) : nI a ||| nI b = nI (a ||| b) := b_ext (fun i hi => by rw [b_or, bt_nI _ hi, bt_nI _ hi, bt_nI _ hi, Nat.testBit_or])
theorem or_add : ∀ (k a b : Nat), a < 2 ^ k → b < 2 ^ k → (∀ i, a.testBit i = true → b.testBit i = false) → a ||| b = a + b
  | 0, a, b, ha, hb, _ => by simp at ha hb; subst ha; subst hb; rfl
  | k + 1, a, b, ha, hb, h => by
    have ih := or_add k (a / 2) (b / 2) (by rw [Nat.pow_succ] at ha; omega) (by rw [Nat.pow_succ] at hb; omega) (fun i hi => by
      have := h (i + 1) (by rw [Nat.testBit_succ]; exact hi)
      rw [Nat.testBit_succ] at this
      exact this)
    have h0 : ¬ (a % 2 = 1 ∧ b % 2 = 1) := fun q => by
      have := h 0 (by rw [Nat.testBit_zero, decide_eq_true_eq]; exact q.1)
      rw [Nat.testBit_zero, decide_eq_false_iff_not] at this
      exact this q.2
    apply Nat.eq_of_testBit_eq
    intro i
    rw [Nat.testBit_or]
    cases i with
    | zero =>
      rw [Nat.testBit_zero, Nat.testBit_zero, Nat.testBit_zero, ← Bool.decide_or]
      congr 1
      apply propext
      omega
    | succ i =>
      rw [Nat.testBit_succ, Nat.testBit_succ, Nat.testBit_succ, ← Nat.testBit_or, ih]
      congr 1
      omega
theorem sb_cn_eq {x y : Int32} (h : sb x y) (hy : low y 12) (hc : cn 12 y ≤ cn 12 x) : x = y := by
  refine sb_as h (fun i hi hb => ?_)
  cases e : bt x i with
  | true => rfl
  | false =>
    have := cn_lt h e hb 12 (by omega) (hy i hi hb)
    omega
/-- fewer, or as many and not greater -/
def lx (a b : Nat) : Prop := cn 12 (nI a) < cn 12 (nI b) ∨ (cn 12 (nI a) = cn 12 (nI b) ∧ a ≤ b)
theorem lx_u {a b : Nat} (h1 : lx a b) (h2 : lx b a) : a = b := by
  rcases h1 with h1 | h1 <;> rcases h2 with h2 | h2 <;> omega
/-- a set that heals enough: as the reference has it -/
def fz (S : St) (n : Nat) (E x t d : Int32) (k : Nat) : Prop := sb (nI k) (flw S n) ∧ sb t (Mo S n E (x ||| (nI k &&& dd S n d)))
/-- the class's search -/
theorem few_loop {S : St} {n F : Nat} (hn : nA S n) (hT : nT S) (hF : 5000 ≤ F) (t p2 x E : Int32) {s0 o : Nat} (hs : s0 < 4096) (ho : o < 4096) (hdis : ∀ i, s0.testBit i = true → o.testBit i = false) : ∀ (f u k wb : Nat), sbn u o → sbn wb o → k ≤ u → o + 1 < u + f → sb t (Mo S n E (x ||| nI (s0 + wb))) → (∀ w, sbn w o → w < u → sb t (Mo S n E (x ||| nI (s0 + w))) → lx (s0 + wb) (s0 + w)) → (wb < u ∨ wb = o) →
    ∃ b, m_X3_fewestHealed_88 F S t p2 f x E (nI (s0 + wb)) (nI s0) (nI o) (nI u) (nI k) = some (nI (s0 + b)) ∧ sbn b o ∧ sb t (Mo S n E (x ||| nI (s0 + b))) ∧ ∀ w, sbn w o → sb t (Mo S n E (x ||| nI (s0 + w))) → lx (s0 + b) (s0 + w) := by
  have hor : ∀ w, sbn w o → nI s0 ||| nI w = nI (s0 + w) ∧ s0 ||| w = s0 + w ∧ s0 + w < 4096 := fun w hw => by
    have hw12 : w < 2 ^ 12 := sbn_lt (k := 12) ho hw
    have e := or_add 12 s0 w hs hw12 (fun i hi => by
      cases q : w.testBit i with
      | false => rfl
      | true => have := hdis i hi; rw [hw i q] at this; cases this)
    refine ⟨by rw [nI_or, e], e, ?_⟩
    rw [← e]
    exact Nat.or_lt_two_pow (n := 12) hs hw12
  have hlow : ∀ w, sbn w o → low (nI (s0 + w)) 12 := fun w hw => low_of (n := 12) (hor w hw).2.2
  have hsub : ∀ w, sbn w o → sb (nI (s0 + w)) (nI (s0 + o)) := fun w hw => by
    rw [← (hor w hw).1, ← (hor o (fun i h => h)).1]
    exact sb_or (sb_orl _ _) (sb_tr (sbn_sb hw) (sb_orr _ _))
  have hsub0 : ∀ w, sbn w o → sb (nI s0) (nI (s0 + w)) := fun w hw => by
    rw [← (hor w hw).1]
    exact sb_orl _ _
  have hlow0 : low (nI s0) 12 := low_of (n := 12) hs
  intro f
  induction f with
  | zero => intro u k wb hu _ _ h4; have := sbn_le 12 (sbn_lt (k := 12) ho hu) hu; omega
  | succ f ih =>
    intro u k wb hu hwb hk hf hfe hlx hw
    have hule := sbn_le 12 (sbn_lt (k := 12) ho hu) hu
    rw [m_X3_fewestHealed_88, if_neg (show ¬ (4096 : Int32) ≤ nI k from le_f (n := 4096) (by omega) (by omega))]
    by_cases hb0 : nI (s0 + wb) = nI s0
    · rw [if_pos hb0]
      refine ⟨wb, rfl, hwb, hfe, fun w hwo _ => ?_⟩
      have e0 : s0 + wb = s0 := (nI_eq (by have := (hor wb hwb).2.2; omega) (by omega)).mp hb0
      rw [e0]
      have h1 := cn_mono (hsub0 w hwo) 12 (by omega)
      rcases Nat.lt_or_ge (cn 12 (nI s0)) (cn 12 (nI (s0 + w))) with q | q
      · exact Or.inl q
      · exact Or.inr ⟨by omega, by omega⟩
    · rw [if_neg hb0, nm_d, (hor u hu).1, bitCount_s (hlow u hu), bs, bitCount_s (hlow wb hwb), bs, allStand_s hn hT hF, bs, if_bi]
      obtain ⟨n1, n2⟩ := nx_ok 12 ho hu
      -- what comes next, with the best one so far
      have next : ∀ w1, sbn w1 o → sb t (Mo S n E (x ||| nI (s0 + w1))) → (∀ w, sbn w o → w ≤ u → sb t (Mo S n E (x ||| nI (s0 + w))) → lx (s0 + w1) (s0 + w)) → (w1 ≤ u ∨ w1 = o) →
          ∃ b, m_X3_fewestHealed_141 F S t p2 (fun z1 z2 z3 z4 z5 z6 z7 => m_X3_fewestHealed_88 F S t p2 f z1 z2 z3 z4 z5 z6 z7) x E (nI (s0 + w1)) (nI s0) (nI o) (nI u) (nI k) = some (nI (s0 + b)) ∧ sbn b o ∧ sb t (Mo S n E (x ||| nI (s0 + b))) ∧ ∀ w, sbn w o → sb t (Mo S n E (x ||| nI (s0 + w))) → lx (s0 + b) (s0 + w) := by
        intro w1 h1 h2 h3 h4
        unfold m_X3_fewestHealed_141
        rw [nm_d, nx_I ho hu]
        by_cases e : u = o
        · have e0 : nx 12 u o = 0 := by unfold nx; rw [if_pos e]
          rw [e0, if_pos (show nI 0 = 0 from rfl)]
          refine ⟨w1, rfl, h1, h2, fun w hwo hw2 => h3 w hwo ?_ hw2⟩
          have := sbn_le 12 (sbn_lt (k := 12) ho hwo) hwo
          omega
        · obtain ⟨g1, g2⟩ := n2 e
          have hnx := sbn_le 12 (sbn_lt (k := 12) ho n1) n1
          rw [if_neg (nI_ne0 (by omega) (by omega)), nm_d, nI_1]
          refine ih (nx 12 u o) (k + 1) w1 n1 h1 (by omega) (by omega) h2 (fun w hwo hwu hw2 => h3 w hwo ?_ hw2) ?_
          · rcases Nat.lt_or_ge u w with q | q
            · have := g2 w hwo q; omega
            · exact q
          · rcases h4 with q | q
            · exact Or.inl (by omega)
            · exact Or.inr q
      have keep : (sb t (Mo S n E (x ||| nI (s0 + u))) → cn 12 (nI (s0 + wb)) ≤ cn 12 (nI (s0 + u))) → ∀ w, sbn w o → w ≤ u → sb t (Mo S n E (x ||| nI (s0 + w))) → lx (s0 + wb) (s0 + w) := by
        intro hc w hwo hwu hw2
        rcases Nat.lt_or_ge w u with q | q
        · exact hlx w hwo q hw2
        · have ew : w = u := by omega
          subst ew
          have hc2 := hc hw2
          rcases Nat.lt_or_ge (cn 12 (nI (s0 + wb))) (cn 12 (nI (s0 + w))) with g | g
          · exact Or.inl g
          · refine Or.inr ⟨by omega, ?_⟩
            rcases hw with z | z
            · omega
            · subst z
              have := sb_cn_eq (hsub w hwo) (hlow wb hwb) (by omega)
              have h9 := (nI_eq (by have := (hor w hwo).2.2; omega) (by have := (hor wb hwb).2.2; omega)).mp this
              omega
      by_cases hcmp : nI (cn 12 (nI (s0 + wb))) ≤ nI (cn 12 (nI (s0 + u)))
      · rw [if_pos hcmp]
        have hc := (nI_leI (by have := cn_le 12 (nI (s0 + wb)); omega) (by have := cn_le 12 (nI (s0 + u)); omega)).mp hcmp
        exact next wb hwb hfe (keep (fun _ => hc)) (by rcases hw with q | q; exact Or.inl (by omega); exact Or.inr q)
      · rw [if_neg hcmp]
        have hc : cn 12 (nI (s0 + u)) < cn 12 (nI (s0 + wb)) := Nat.not_le.mp (fun q => hcmp ((nI_leI (by have := cn_le 12 (nI (s0 + wb)); omega) (by have := cn_le 12 (nI (s0 + u)); omega)).mpr q))
        cases hst : als S n E t (x ||| nI (s0 + u)) with
        | false =>
          rw [if_neg (by simp)]
          exact next wb hwb hfe (keep (fun q => by rw [als_iff.mpr q] at hst; cases hst)) (by rcases hw with q | q; exact Or.inl (by omega); exact Or.inr q)
        | true =>
          rw [if_pos rfl]
          refine next u hu (als_iff.mp hst) (fun w hwo hwu hw2 => ?_) (Or.inl (Nat.le_refl u))
          rcases Nat.lt_or_ge w u with q | q
          · rcases hlx w hwo q hw2 with g | g
            · exact Or.inl (by omega)
            · exact Or.inl (by omega)
          · rw [show w = u by omega]
            exact Or.inr ⟨rfl, Nat.le_refl _⟩
theorem few_s {S : St} {n c F : Nat} (hn : nA S n) (hk : nK S n c) (hT : nT S) (hg : nG S n) (hF : 5000 ≤ F) {t d : Int32} : (m_X3_fewestHealed F S t d = some (-6) ∧ ∀ j, ¬ fz S n (EE S n) (sn S n c d) t d j) ∨
    ∃ b, b < 2 ^ n ∧ m_X3_fewestHealed F S t d = some (nI b) ∧ fz S n (EE S n) (sn S n c d) t d b ∧ ∀ j, j < 4096 → fz S n (EE S n) (sn S n c d) t d j → lx b j := by
  have h12 := hn.2
  unfold m_X3_fewestHealed
  rw [soundOn_s hn hk hF, bs, exempt_s hn hg hF, bs, doneBy_s hn hF, bs, nm_d, most_s hn hT hF, bs]
  have eE : ex (S 0 0) (gm S n) = EE S n := rfl
  rw [eE]
  have hxd := sn_dd (S := S) (c := c) h12 d
  have hflw := hurt_flw hn hk d
  unfold fz
  generalize sn S n c d = x at hxd hflw
  generalize EE S n = E
  have hddl : low (dd S n d) n := mk_lt h12
  generalize dd S n d = D at hxd hflw hddl
  obtain ⟨h, hh⟩ : ∃ h, h = D &&& (x ^^^ (-1)) := ⟨_, rfl⟩
  rw [← hh] at hflw ⊢
  have hhD : sb h D := by rw [hh]; exact sb_andl _ _
  have hhx : ∀ i, i < 32 → bt h i = true → bt x i = false := fun i hi q => by
    rw [hh, b_and, b_not _ hi, Bool.and_eq_true, Bool.not_eq_true'] at q
    exact q.2
  have hxh : ∀ i, i < 32 → bt D i = true → bt x i = true ∨ bt h i = true := fun i hi q => by
    cases e : bt x i with
    | true => exact Or.inl rfl
    | false => right; rw [hh, b_and, b_not _ hi, q, e]; rfl
  have hDs : sb D (x ||| h) := fun i hi q => by
    rw [b_or]
    rcases hxh i hi q with g | g <;> rw [g] <;> simp
  obtain ⟨M, hM⟩ : ∃ M, M = Mo S n E (x ||| h) := ⟨_, rfl⟩
  rw [← hM]
  by_cases htM : (t &&& (M ^^^ (-1))) = 0
  · rw [if_pos htM, nm_d, indispensable_s hn hT hF, bs, nm_d]
    have htM' := (sub_iff _ _).mp htM
    obtain ⟨B, hB⟩ : ∃ B, B = h &&& M := ⟨_, rfl⟩
    rw [← hB]
    obtain ⟨U, hU⟩ : ∃ U, U = ind S n E t M B := ⟨_, rfl⟩
    rw [← hU]
    have hUB : sb U B := fun i hi q => by
      rw [hU] at q
      unfold ind at q
      rw [bt_mk _ hi n (by omega)] at q
      simp only [Bool.and_eq_true] at q
      exact q.2.1
    have hBh : sb B h := by rw [hB]; exact sb_andl _ _
    have hBl : low B n := low_sb hddl (sb_tr hBh hhD)
    obtain ⟨s0, hs0, eU⟩ := of_low (by omega) (low_sb hBl hUB)
    have hOl : low (B &&& (U ^^^ (-1))) n := low_sb hBl (sb_andl _ _)
    obtain ⟨o, ho, eO⟩ := of_low (by omega) hOl
    have hp := pow_le12 h12
    have hdis : ∀ i, s0.testBit i = true → o.testBit i = false := fun i hi => by
      rcases Nat.lt_or_ge i 32 with q | q
      · rw [← bt_nI s0 q, ← eU] at hi
        rw [← bt_nI o q, ← eO, b_and, b_not _ q, hi]; simp
      · have := Nat.testBit_lt_two_pow (x := o) (i := i) (Nat.lt_of_lt_of_le (show o < 2 ^ 32 by omega) (Nat.pow_le_pow_right (by omega) q))
        exact this
    have hmem : ∀ y, sb y B → sb U y → ∃ w, sbn w o ∧ y = nI (s0 + w) := fun y hy1 hy2 => by
      obtain ⟨w, hw, ew⟩ := of_low (n := n) (by omega) (low_sb hBl (sb_tr (sb_andl y (U ^^^ (-1))) hy1))
      have hwo : sbn w o := fun i hi => by
        rcases Nat.lt_or_ge i 32 with q | q
        · rw [← bt_nI w q, ← ew, b_and, Bool.and_eq_true] at hi
          rw [← bt_nI o q, ← eO, b_and, hy1 i q hi.1, hi.2]; rfl
        · have := Nat.testBit_lt_two_pow (x := w) (i := i) (Nat.lt_of_lt_of_le (show w < 2 ^ 32 by omega) (Nat.pow_le_pow_right (by omega) q))
          rw [this] at hi; cases hi
      refine ⟨w, hwo, ?_⟩
      have e := or_add 12 s0 w (by omega) (by omega) (fun i hi => by
        cases q : w.testBit i with
        | false => rfl
        | true => have := hdis i hi; rw [hwo i q] at this; cases this)
      rw [← e, ← nI_or, ← ew, ← eU]
      apply b_ext
      intro i hi
      rw [b_or, b_and, b_not _ hi]
      cases e1 : bt U i with
      | true => rw [hy2 i hi e1]; rfl
      | false => simp
    have hcand : ∀ w, sbn w o → sb (nI (s0 + w)) B ∧ s0 + w < 2 ^ n := fun w hw => by
      have hw12 : w < 2 ^ n := sbn_lt ho hw
      have e := or_add n s0 w hs0 hw12 (fun i hi => by
        cases q : w.testBit i with
        | false => rfl
        | true => have := hdis i hi; rw [hw i q] at this; cases this)
      refine ⟨?_, by rw [← e]; exact Nat.or_lt_two_pow hs0 hw12⟩
      rw [← e, ← nI_or, ← eU]
      exact sb_or hUB (sb_tr (sbn_sb hw) (by rw [← eO]; exact sb_andl _ _))
    have hBo : B = nI (s0 + o) := by
      obtain ⟨w, hw, e⟩ := hmem B (sb_rf B) hUB
      have hle : sb (nI (s0 + o)) (nI (s0 + w)) := by rw [← e]; exact (hcand o (fun i h => h)).1
      have hge : sb (nI (s0 + w)) (nI (s0 + o)) := by
        have e1 := or_add n s0 w hs0 (sbn_lt ho hw) (fun i hi => by
          cases q : w.testBit i with
          | false => rfl
          | true => have := hdis i hi; rw [hw i q] at this; cases this)
        have e2 := or_add n s0 o hs0 ho hdis
        rw [← e1, ← e2, ← nI_or, ← nI_or]
        exact sb_or (sb_orl _ _) (sb_tr (sbn_sb hw) (sb_orr _ _))
      rw [e]
      exact sb_as hge hle
    have hB0 : sb t (Mo S n E (x ||| nI (s0 + o))) := by
      rw [← hBo]
      refine sb_tr htM' ?_
      rw [hM]
      refine Mo_great h12 (Mo_SH h12 E _) (fun i hi q => ?_)
      have q2 := Mo_sb S n E (x ||| h) i hi q
      rw [b_or, Bool.or_eq_true] at q2
      rw [b_or]
      rcases q2 with g | g
      · rw [g]; rfl
      · rw [hB, b_and, g, hM, q]; simp
    have ho12 : o < 4096 := by omega
    obtain ⟨b, hb1, hb2, hb3, hb4⟩ := few_loop hn hT hF t d x E (s0 := s0) (o := o) (by omega) ho12 hdis F 0 0 o (fun i hi => by simp at hi) (fun i h => h) (Nat.le_refl 0) (by omega) hB0 (fun w _ hw => absurd hw (Nat.not_lt_zero w)) (Or.inr rfl)
    right
    refine ⟨s0 + b, (hcand b hb2).2, ?_, ⟨sb_tr (hcand b hb2).1 (sb_tr hBh hflw), ?_⟩, fun j hj hfj => ?_⟩
    · rw [eO, hBo]
      rw [show U = nI s0 from eU]
      exact hb1
    · have e : nI (s0 + b) &&& D = nI (s0 + b) := sb_as (sb_andl _ _) (sb_and (sb_rf _) (sb_tr (hcand b hb2).1 (sb_tr hBh hhD)))
      rw [e]; exact hb3
    · obtain ⟨hj1, hj2⟩ := hfj
      obtain ⟨y, hy⟩ : ∃ y, y = nI j &&& (h &&& Mo S n E (x ||| (nI j &&& D))) := ⟨_, rfl⟩
      have hM1 : sb (Mo S n E (x ||| (nI j &&& D))) M := by
        rw [hM]
        exact Mo_mono h12 (sb_or (sb_orl _ _) (sb_tr (sb_andr _ _) hDs))
      have hyB : sb y B := by
        rw [hy, hB]
        exact sb_and (sb_tr (sb_andr _ _) (sb_andl _ _)) (sb_tr (sb_andr _ _) (sb_tr (sb_andr _ _) hM1))
      have hyst : sb t (Mo S n E (x ||| y)) := by
        refine sb_tr hj2 (Mo_great h12 (Mo_SH h12 E _) (fun i hi q => ?_))
        have q2 := Mo_sb S n E _ i hi q
        rw [b_or, b_and, Bool.or_eq_true, Bool.and_eq_true] at q2
        rw [b_or]
        rcases q2 with g | g
        · rw [g]; rfl
        · rcases hxh i hi g.2 with z | z
          · rw [z]; rfl
          · rw [hy, b_and, b_and, g.1, z, q]; simp
      have hUy : sb U y := fun i hi q => by
        cases e : bt y i with
        | true => rfl
        | false =>
          exfalso
          have hiB := hUB i hi q
          have hih := hBh i hi hiB
          rw [hU] at q
          unfold ind at q
          rw [bt_mk _ hi n (by omega)] at q
          simp only [Bool.and_eq_true, Bool.not_eq_true', decide_eq_true_eq] at q
          have hno : bt (Mo S n E (x ||| y)) i = false := by
            cases e2 : bt (Mo S n E (x ||| y)) i with
            | false => rfl
            | true =>
              have := Mo_sb S n E (x ||| y) i hi e2
              rw [b_or, hhx i hi hih, e] at this
              cases this
          have hs1 : sb (Mo S n E (x ||| y)) M := by
            rw [hM]
            exact Mo_mono h12 (sb_or (sb_orl _ _) (sb_tr (sb_tr hyB hBh) (sb_orr _ _)))
          have := Mo_great h12 (Mo_SH h12 E (x ||| y)) (sb_in_wo hs1 (by omega) hno)
          have h9 := als_iff.mpr (sb_tr hyst this)
          rw [h9] at q
          cases q.2.2
      obtain ⟨w, hw, ew⟩ := hmem y hyB hUy
      have hl := hb4 w hw (by rw [← ew]; exact hyst)
      have hyj : sb (nI (s0 + w)) (nI j) := by rw [← ew, hy]; exact sb_andl _ _
      have hjl : low (nI j) 12 := low_of (n := 12) hj
      have hc := cn_mono hyj 12 (by omega)
      rcases Nat.lt_or_ge (cn 12 (nI (s0 + w))) (cn 12 (nI j)) with q | q
      · rcases hl with g | g
        · exact Or.inl (by omega)
        · exact Or.inl (by omega)
      · have e := sb_cn_eq hyj hjl q
        have e2 := (nI_eq (by have := (hcand w hw).2; omega) (by omega)).mp e
        rw [e2] at hl
        exact hl
  · rw [if_neg htM]
    refine Or.inl ⟨rfl, fun j hf => htM ((sub_iff _ _).mpr (sb_tr hf.2 ?_))⟩
    rw [hM]
    exact Mo_mono h12 (sb_or (sb_orl _ _) (sb_tr (sb_andr _ _) hDs))
