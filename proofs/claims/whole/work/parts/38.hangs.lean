/-! hangs, safe -/
theorem up_up (T : St) (k j : Nat) (v w : Int32) : up (up T k j v) k j w = up T k j w := by
  funext a b
  unfold up upd
  by_cases h : a = k <;> by_cases h2 : b = j <;> simp [h, h2]
theorem up_self (T : St) (k j : Nat) : up T k j (T k j) = T := by
  funext a b
  unfold up upd
  by_cases h : a = k
  · subst h
    by_cases h2 : b = j <;> simp [h2]
  · simp [h]
theorem ev_toInt : ∀ n, n < 13 → (ev n).toInt = (2 : Int) ^ n - 1 := by decide +kernel
theorem ev_low {n : Nat} (hn : n ≤ 12) : low (ev n) n := fun i hi h => by
  rw [bt_ev n (by omega) i hi, decide_eq_true_eq] at h
  exact h
theorem low_iff {n : Nat} (hn : n ≤ 12) (p : Int32) : sb p (ev n) ↔ low p n := by
  constructor
  · intro h
    exact low_sb (ev_low hn) h
  · intro h i hi q
    rw [bt_ev n (by omega) i hi, decide_eq_true_eq]
    exact h i hi q
theorem pow_le12 {n : Nat} (hn : n ≤ 12) : 2 ^ n ≤ 4096 := Nat.pow_le_pow_right (n := 2) (j := 12) (by omega) hn
theorem set_rb {n : Nat} (hn : n ≤ 12) (p : Int32) : decide ((p &&& (ev n ^^^ (-1))) = 0) = rb p 0 (ev n).toInt := by
  have h2 := pow_le12 hn
  unfold rb
  congr 1
  apply propext
  rw [sub_iff, low_iff hn, ev_toInt n (by omega)]
  constructor
  · intro h
    obtain ⟨k, hk, rfl⟩ := of_low (by omega) h
    rw [nI_toInt (by omega)]
    have : (k : Int) < (2 : Int) ^ n := by exact_mod_cast hk
    omega
  · rintro ⟨h1, h3⟩
    obtain ⟨j, hj, rfl⟩ := nI_of (x := p) (fun q => by have := (lt0 _).mp q; omega)
    rw [nI_toInt hj] at h3
    have : j < 2 ^ n := by
      have : (j : Int) < (2 : Int) ^ n := by omega
      exact_mod_cast this
    exact low_of this
theorem hasAll_s {S : St} {n : Nat} (hn : nA S n) (p : Int32) : m_X0_hasAll S p = some (bi (rb p 0 (ev n).toInt)) := by
  unfold m_X0_hasAll m_X0_everyOne
  rw [hn.1, bs, ← set_rb hn.2]
  by_cases h : (p &&& (ev n ^^^ (-1))) = 0
  · rw [decide_eq_true h]
    exact if_pos h
  · rw [decide_eq_false h]
    exact if_neg h
theorem isSetM_s {S T : St} {n c : Nat} (R : RB S T n c) (p : Int32) : m_X4_isSet T p = some (bi (rb p 0 (ev n).toInt)) := by
  have en : T 0 1 = nI n := R.2.2.2.1
  unfold m_X4_isSet
  rw [en, inI_s, t64, bs, gd_bz]; rfl
theorem rb_set {n : Nat} (hn : n ≤ 12) {p : Int32} (h : rb p 0 (ev n).toInt = true) : ∃ M, M < 2 ^ n ∧ p = nI M := by
  rw [← set_rb hn] at h
  exact of_low (by omega) ((low_iff hn p).mp ((sub_iff _ _).mp (of_decide_eq_true h)))
theorem ex_mono (law : Int32) {g h : Int32} (q : sb g h) : sb (ex law g) (ex law h) := by
  unfold ex
  split
  · exact q
  · exact sb_rf 0
theorem sbn_sb {u v : Nat} (h : sbn u v) : sb (nI u) (nI v) := fun i hi q => by
  rw [bt_nI _ hi] at *
  exact h i q
/-- whether a stands, if of the acts M the ones of s are good -/
def isg (S : St) (n : Nat) (x : Int32) (a : Nat) (M s : Int32) : Bool := bt (Mo S n (ex (S 0 0) ((gm S n &&& (M ^^^ (-1))) ||| s)) x) a
theorem isg_mono {S : St} {n : Nat} (hn : n ≤ 12) {x : Int32} {a : Nat} (ha : a < 32) {M s t : Int32} (h : sb s t) (hs : isg S n x a M s = true) : isg S n x a M t = true :=
  Mo_monoE hn (ex_mono _ (sb_or (sb_orl _ _) (sb_tr h (sb_orr _ _)))) a ha hs
theorem hangs1 {S T : St} {n c m F : Nat} (R : RB S T n c) (X : RX S T n m) (hF : 5000 ≤ F) {a : Nat} (ha : a < 32) (p2 M x : Int32) (A B : Bool) (s : Int32) (v : Int32) (f : Nat) :
    m_X4_hangs_53 F (nI a) p2 M (f + 1) (up T 0 0 v) (gm S n) (bi B) (bi A) x s 1 = m_X4_hangs_53 F (nI a) p2 M f (up T 0 0 ((gm S n &&& (M ^^^ (-1))) ||| s)) (gm S n) (bi (B || isg S n x a M s)) (bi (A && isg S n x a M s)) x ((s - M) &&& M) (if ((s - M) &&& M) = 0 then 0 else 1) := by
  have R1 : RB S (up T 0 0 ((gm S n &&& (M ^^^ (-1))) ||| s)) n c := R
  rw [m_X4_hangs_53, if_neg (by decide), up_up, mostM_s R1 hF, bs]
  have e1 : (up T 0 0 ((gm S n &&& (M ^^^ (-1))) ||| s)) 0 2 = S 0 0 := X.2.1.1
  have e2 : (up T 0 0 ((gm S n &&& (M ^^^ (-1))) ||| s)) 0 0 = (gm S n &&& (M ^^^ (-1))) ||| s := rfl
  rw [e1, e2]
  simp only [has_bit _ ha]
  unfold m_X4_hangs_90 m_X4_hangs_102 m_X4_hangs_107 m_X4_hangs_123 m_X4_hangs_124
  have ei : bt (Mo S n (ex (S 0 0) ((gm S n &&& (M ^^^ (-1))) ||| s)) x) a = isg S n x a M s := rfl
  rw [ei]
  simp only [nm_d]
  by_cases h0 : ((s - M) &&& M) = 0
  · cases A <;> cases B <;> cases isg S n x a M s <;> simp [h0, bi]
  · cases A <;> cases B <;> cases isg S n x a M s <;> simp [h0, bi]
theorem hangs_loop {S T : St} {n c m F : Nat} (R : RB S T n c) (X : RX S T n m) (hF : 5000 ≤ F) {a : Nat} (ha : a < 32) (p2 x : Int32) {M : Nat} (hM : M < 4096) : ∀ (f u : Nat) (A B : Bool) (v : Int32), sbn u M → M + 1 < u + f → (A && isg S n x a (nI M) (nI u)) = isg S n x a (nI M) 0 → (B = true → isg S n x a (nI M) (nI M) = true) →
    m_X4_hangs_53 F (nI a) p2 (nI M) f (up T 0 0 v) (gm S n) (bi B) (bi A) x (nI u) 1 = some (if isg S n x a (nI M) 0 = true then 2 else if isg S n x a (nI M) (nI M) = true then 1 else 0, T) := by
  have h12 := R.1.2
  intro f
  induction f with
  | zero => intro u A B v h1 h2; have := sbn_le 12 (sbn_lt hM h1) h1; omega
  | succ f ih =>
    intro u A B v hs hf hA hB
    have hle := sbn_le 12 (sbn_lt hM hs) hs
    obtain ⟨n1, n2⟩ := nx_ok 12 hM hs
    rw [hangs1 R X hF ha, nx_I hM hs, hA]
    have hB2 : (B || isg S n x a (nI M) (nI u)) = true → isg S n x a (nI M) (nI M) = true := fun q => by
      rw [Bool.or_eq_true] at q
      rcases q with q | q
      · exact hB q
      · exact isg_mono h12 ha (sbn_sb hs) q
    by_cases e : u = M
    · have e0 : nx 12 u M = 0 := by unfold nx; rw [if_pos e]
      rw [e0, nI_0, if_pos rfl]
      obtain ⟨g, rfl⟩ : ∃ g, f = g + 1 := ⟨f - 1, by omega⟩
      rw [m_X4_hangs_53, if_pos rfl]
      have hBM : (B || isg S n x a (nI M) (nI u)) = isg S n x a (nI M) (nI M) := by
        rw [e]
        cases q : isg S n x a (nI M) (nI M) with
        | true => rw [Bool.or_true]
        | false =>
          cases B
          · rfl
          · rw [q] at hB; exact absurd (hB rfl) (by simp)
      rw [hBM, up_up]
      have et : up T 0 0 (gm S n) = T := by
        rw [← X.2.2.1]
        exact up_self T 0 0
      rw [et]
      cases isg S n x a (nI M) 0 <;> cases isg S n x a (nI M) (nI M) <;> simp [bi]
    · obtain ⟨h1, -⟩ := n2 e
      have hnx := sbn_le 12 (sbn_lt hM n1) n1
      rw [if_neg (nI_ne0 (by omega) (by omega))]
      refine ih (nx 12 u M) _ _ _ n1 (by omega) ?_ hB2
      cases q : isg S n x a (nI M) 0 with
      | false => rfl
      | true => rw [isg_mono h12 ha (sb_0 _) q]; rfl
theorem p_hangs {F : Nat} (hF : 5000 ≤ F) : sp_hangs F Rel := by
  rintro S T p1 p2 p3 ⟨n, c, m, R, X⟩
  have hn := R.1
  have h12 := hn.2
  have hT := R.2.2.1
  have hrel : Rel S T := ⟨n, c, m, R, X⟩
  unfold m_X3_hangs m_X4_hangs
  rw [has_s hn, isActM_s R, bs, bs, if_bi, if_bi]
  cases ha : rb p1 0 ((n : Int) - 1) with
  | false => exact ⟨_, T, rfl, rfl, hrel⟩
  | true =>
    obtain ⟨a, han, rfl⟩ := rb_nI ha
    rw [if_pos rfl, if_pos rfl, isDay_s, isDayM_s, bs, bs, if_bi, if_bi]
    cases hdy : rb p2 0 99 with
    | false => exact ⟨_, T, rfl, rfl, hrel⟩
    | true =>
      rw [if_pos rfl, if_pos rfl, hasAll_s hn, isSetM_s R, bs, bs, if_bi, if_bi]
      cases hset : rb p3 0 (ev n).toInt with
      | false => exact ⟨_, T, rfl, rfl, hrel⟩
      | true =>
        obtain ⟨M, hM, rfl⟩ := rb_set h12 hset
        have hM2 := pow_le12 h12
        rw [if_pos rfl, if_pos rfl, nm_d, soundOn_s hn R.2.1 hF, soundM0 R X hF, bs, bs, goodOnes_s hn X.1 hF, bs, X.2.2.1]
        generalize sn S n c p2 = x
        have hl := hangs_loop R X hF (a := a) (by omega) p2 x (M := M) (by omega) F 0 true false (T 0 0) (fun i hi => by simp at hi) (by omega) (by rw [nI_0, Bool.true_and]) (fun q => by cases q)
        rw [up_self] at hl
        have hl' : m_X4_hangs_53 F (nI a) p2 (nI M) F T (gm S n) 0 1 x 0 1 = _ := hl
        refine ⟨_, T, ?_, hl', hrel⟩
        have e0 : isg S n x a (nI M) 0 = bt (Mo S n (ex (S 0 0) (gm S n &&& (nI M ^^^ (-1)))) x) a := by
          unfold isg
          rw [or_0]
        have eM : isg S n x a (nI M) (nI M) = bt (Mo S n (ex (S 0 0) (gm S n ||| nI M)) x) a := by
          unfold isg
          congr 3
          apply b_ext
          intro i hi
          rw [b_or, b_and, b_not _ hi, b_or]
          cases bt (gm S n) i <;> cases bt (nI M) i <;> rfl
        rw [e0, eM, exemptBy_s, bs, most_s hn hT hF, bs, contains_s _ (by omega), bs, if_bi, exemptBy_s, bs, most_s hn hT hF, bs, contains_s _ (by omega), bs, if_bi]
        repeat' split
        all_goals rfl
/-- safe -/
def ak (S : St) (n : Nat) (d : Int32) : Int32 := mk n (fun a => wc S a (S 5 a) d || wc S a (S 6 a) d)
theorem askableOn_s {S : St} {n F : Nat} (hn : nA S n) (hF : 5000 ≤ F) (d : Int32) : m_X0_askableOn F S d = some (ak S n d) := by
  have h12 := hn.2
  refine mk_loop (m_X0_askableOn_4 F S d) n _ (by omega) (fun f acc => ?_) (fun f acc i hi => ?_)
  · rw [m_X0_askableOn_4, hn.1, if_pos (le_t (Nat.le_refl n) (by omega))]
  · rw [m_X0_askableOn_4, hn.1, if_neg (le_f hi (by omega))]
    unfold m_X0_askableOn_42
    simp only [gd_nI (show i < 12 by omega) (show 12 ≤ 1000 by omega), ix_nI (show i < 2 ^ 31 by omega), wouldCount_s (show i < 12 by omega), bs, if_bi, nm_d, nI_1, one_def]
    cases wc S i (S 5 i) d <;> cases wc S i (S 6 i) d <;> simp [or_0]
def wst (S : St) (n : Nat) (E : Int32) (a : Nat) (x k : Int32) : Bool := bt (Mo S n E x) a && !anyb n (fun i => bt k i && (bt (Mo S n E x) i && !bt (Mo S n E (wo (Mo S n E x) i)) a))
theorem withstands_s {S : St} {n F a : Nat} (hn : nA S n) (hT : nT S) (hg : nG S n) (hF : 5000 ≤ F) (ha : a < 12) (x k : Int32) : m_X3_withstands F S (nI a) x k = some (bi (wst S n (EE S n) a x k)) := by
  have h12 := hn.2
  unfold m_X3_withstands wst
  rw [exempt_s hn hg hF, bs, most_s hn hT hF, bs, contains_s _ (by omega), bs, if_bi]
  have eE : ex (S 0 0) (gm S n) = EE S n := rfl
  rw [eE]
  cases hm : bt (Mo S n (EE S n) x) a with
  | false => rfl
  | true =>
    rw [if_pos rfl, Bool.true_and]
    have key : ∀ f i, i ≤ n → n < i + f → (∀ j, j < i → (bt k j && (bt (Mo S n (EE S n) x) j && !bt (Mo S n (EE S n) (wo (Mo S n (EE S n) x) j)) a)) = false) → m_X3_withstands_32 F S (nI a) x k f (EE S n) (Mo S n (EE S n) x) (nI i) = some (bi (!anyb n (fun i => bt k i && (bt (Mo S n (EE S n) x) i && !bt (Mo S n (EE S n) (wo (Mo S n (EE S n) x) i)) a)))) := by
      intro f
      induction f with
      | zero => intro i h1 h2; omega
      | succ f ih =>
        intro i h1 h2 h3
        rw [m_X3_withstands_32, hn.1]
        rcases Nat.lt_or_ge i n with q | q
        · rw [if_neg (le_f q (by omega)), contains_s _ (by omega), bs, if_bi, without_s, bs, most_s hn hT hF, bs, contains_s _ (by omega), bs, if_bi, nm_d, nI_1, b_and]
          have nxt : (bt k i && (bt (Mo S n (EE S n) x) i && !bt (Mo S n (EE S n) (wo (Mo S n (EE S n) x) i)) a)) = false → m_X3_withstands_32 F S (nI a) x k f (EE S n) (Mo S n (EE S n) x) (nI (i + 1)) = some (bi (!anyb n (fun i => bt k i && (bt (Mo S n (EE S n) x) i && !bt (Mo S n (EE S n) (wo (Mo S n (EE S n) x) i)) a)))) := fun z =>
            ih (i + 1) q (by omega) (fun j hj => by
              rcases Nat.lt_or_ge j i with g | g
              · exact h3 j g
              · rw [show j = i by omega]; exact z)
          cases e1 : bt k i with
          | false => rw [e1] at nxt; exact nxt rfl
          | true =>
            cases e2 : bt (Mo S n (EE S n) x) i with
            | false => rw [e1, e2] at nxt; exact nxt rfl
            | true =>
              cases e3 : bt (Mo S n (EE S n) (wo (Mo S n (EE S n) x) i)) a with
              | true => rw [e1, e2, e3] at nxt; exact nxt rfl
              | false =>
                rw [anyb_t q (show (bt k i && (bt (Mo S n (EE S n) x) i && !bt (Mo S n (EE S n) (wo (Mo S n (EE S n) x) i)) a)) = true by rw [e1, e2, e3]; rfl)]
                rfl
        · have e : i = n := by omega
          subst e
          rw [if_pos (le_t (Nat.le_refl i) (by omega)), anyb_f h3]; rfl
    exact key F 0 (by omega) (by omega) (fun j hj => absurd hj (Nat.not_lt_zero j))
/-- somebody may ask -/
theorem may_eq {S T : St} {n c i : Nat} (R : RB S T n c) (hi : i < n) (d : Int32) : anyb 4 (fun w => wc S i (nI w) d) = (wc S i (S 5 i) d || wc S i (S 6 i) d) := by
  obtain ⟨-, r5, r6, -, -, -⟩ := R.2.2.2.2.2.2.2.1 i hi
  have g5 : ∃ w, w < 4 ∧ S 5 i = nI w := rb_nI (n := 4) (decide_eq_true r5)
  have g6 : ∃ w, w < 4 ∧ S 6 i = nI w := rb_nI (n := 4) (decide_eq_true r6)
  cases h : (wc S i (S 5 i) d || wc S i (S 6 i) d) with
  | true =>
    rw [Bool.or_eq_true] at h
    rcases h with h | h
    · obtain ⟨w, hw, e⟩ := g5
      rw [e] at h
      exact anyb_t hw h
    · obtain ⟨w, hw, e⟩ := g6
      rw [e] at h
      exact anyb_t hw h
  | false =>
    rw [Bool.or_eq_false_iff] at h
    refine anyb_f (fun w hw => ?_)
    cases e : wc S i (nI w) d with
    | false => rfl
    | true =>
      exfalso
      obtain ⟨h1, h2⟩ := h
      unfold wc at *
      rw [Bool.and_eq_true] at e
      rw [e.2, Bool.and_true] at h1 h2
      have e1 := e.1
      unfold lts at *
      by_cases q4 : S 15 i = 4
      · simp [q4] at h1
      · by_cases q2 : S 15 i = 2
        · simp [q2] at h1
        · by_cases q3 : S 15 i = 3
          · simp [q3] at h2
          · simp [q4, q2, q3] at e1
/-- safe on a day, as the reference has it -/
def sfo (S : St) (n : Nat) (E : Int32) (a : Nat) (x d : Int32) : Bool := bt (Mo S n E x) a && !anyb n (fun i => (wc S i (S 5 i) d || wc S i (S 6 i) d) && !bt (Mo S n E (wo x i)) a)
theorem sfo_eq {S : St} {n : Nat} (hn : n ≤ 12) (E : Int32) {a : Nat} (x d : Int32) : wst S n E a x (ak S n d) = sfo S n E a x d := by
  unfold wst sfo
  cases hm : bt (Mo S n E x) a with
  | false => rfl
  | true =>
    rw [Bool.true_and, Bool.true_and]
    congr 1
    refine anyb_c (fun i hi => ?_)
    unfold ak
    rw [bt_mk _ (by omega) n (by omega), decide_eq_true hi, Bool.true_and, Mo_wo hn _ _ (by omega)]
    cases e : bt (Mo S n E x) i with
    | true => rw [Bool.true_and]
    | false =>
      rw [Mo_wo0 hn _ _ (by omega) e, hm]; simp
theorem isSafeOnM_s {S T : St} {n c m F a : Nat} (R : RB S T n c) (X : RX S T n m) (hF : 5000 ≤ F) (ha : a < n) {d : Int32} (hd : rg d 0 99) : m_X4_isSafeOn F T (nI a) d = some (bi (sfo S n (EE S n) a (sn S n c d) d)) := by
  have en : T 0 1 = nI n := R.2.2.2.1
  have h12 := R.1.2
  unfold m_X4_isSafeOn
  rw [soundM0 R X hF, bs, mostM0 R X hF, bs]
  simp only [has_bit _ (show a < 32 by omega)]
  generalize sn S n c d = x
  have inner : ∀ (K : Int32 → Int32 → Int32 → Option Int32) (i : Nat), i < n → m_X4_isSafeOn_49 F T (nI a) d K F x (nI i) 0 0 = K x (bi (!((wc S i (S 5 i) d || wc S i (S 6 i) d) && !bt (Mo S n (EE S n) (wo x i)) a))) (nI (i + 1)) := by
    intro K i hi
    have h := fo_loop (fun f (b : Bool) w => m_X4_isSafeOn_49 F T (nI a) d K f x (nI i) (bi b) w) 4 (fun w b => b || wc S i (nI w) d) (fun b => K x (bi (!(b && !bt (Mo S n (EE S n) (wo x i)) a))) (nI (i + 1))) (F := F) (by omega) false (fun f b => ?_) (fun f b w hw => ?_)
    · rw [fo_or, Bool.false_or, may_eq R hi] at h
      exact h
    · show m_X4_isSafeOn_49 F T (nI a) d K (f + 1) x (nI i) (bi b) (nI 4) = _
      rw [m_X4_isSafeOn_49, if_pos (show (4 : Int32) ≤ nI 4 by decide), wo_def, mostM0 R X hF, bs]
      simp only [nm_d, nI_1, has_bit _ (show a < 32 by omega)]
      cases b <;> cases bt (Mo S n (EE S n) (wo x i)) a <;> simp [bi]
    · show m_X4_isSafeOn_49 F T (nI a) d K (f + 1) x (nI i) (bi b) (nI w) = _
      rw [m_X4_isSafeOn_49, if_neg (show ¬ (4 : Int32) ≤ nI w from le_f (n := 4) hw (by omega)), wcM0 R X hi _ hd, bs]
      simp only [if_bi, nm_d, nI_1]
      cases b <;> cases wc S i (nI w) d <;> simp [bi]
  have outer : ∀ f i, i ≤ n → n < i + f → (∀ j, j < i → ((wc S j (S 5 j) d || wc S j (S 6 j) d) && !bt (Mo S n (EE S n) (wo x j)) a) = false) → m_X4_isSafeOn_29 F T (nI a) d f x 1 (nI i) = some (bi (!anyb n (fun i => (wc S i (S 5 i) d || wc S i (S 6 i) d) && !bt (Mo S n (EE S n) (wo x i)) a))) := by
    intro f
    induction f with
    | zero => intro i h1 h2; omega
    | succ f ih =>
      intro i h1 h2 h3
      rw [m_X4_isSafeOn_29, en]
      rcases Nat.lt_or_ge i n with q | q
      · rw [if_neg (le_f q (by omega)), if_neg (by decide), inner _ i q]
        cases e : ((wc S i (S 5 i) d || wc S i (S 6 i) d) && !bt (Mo S n (EE S n) (wo x i)) a) with
        | false =>
          refine ih (i + 1) q (by omega) (fun j hj => ?_)
          rcases Nat.lt_or_ge j i with g | g
          · exact h3 j g
          · rw [show j = i by omega]; exact e
        | true =>
          rw [anyb_t q e]
          obtain ⟨g, rfl⟩ : ∃ g, f = g + 1 := ⟨f - 1, by omega⟩
          show m_X4_isSafeOn_29 F T (nI a) d (g + 1) x 0 (nI (i + 1)) = _
          rw [m_X4_isSafeOn_29, en]
          rw [if_pos (show (0 : Int32) = 0 from rfl), show gd (bz 0) (some (0 : Int32)) = some 0 from rfl]
          split <;> rfl
      · have e : i = n := by omega
        subst e
        rw [if_pos (le_t (Nat.le_refl i) (by omega)), anyb_f h3]; rfl
  unfold sfo
  cases hm : bt (Mo S n (EE S n) x) a with
  | true =>
    rw [if_pos rfl, Bool.true_and]
    exact outer F 0 (by omega) (by omega) (fun j hj => absurd hj (Nat.not_lt_zero j))
  | false =>
    rw [if_neg (by simp)]
    obtain ⟨g, hg⟩ : ∃ g, F = g + 1 := ⟨F - 1, by omega⟩
    show m_X4_isSafeOn_29 F T (nI a) d F x 0 0 = some 0
    have : ∀ g, m_X4_isSafeOn_29 F T (nI a) d (g + 1) x 0 0 = some 0 := by
      intro g
      rw [m_X4_isSafeOn_29, if_pos (show (0 : Int32) = 0 from rfl), show gd (bz 0) (some (0 : Int32)) = some 0 from rfl]
      split <;> rfl
    rw [show m_X4_isSafeOn_29 F T (nI a) d F x 0 0 = m_X4_isSafeOn_29 F T (nI a) d (g + 1) x 0 0 by rw [← hg]]
    exact this g
