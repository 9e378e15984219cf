/-! fall, pillar -/
abbrev stp (S : St) (n : Nat) (E : Int32) : Nat → Int32 × Int32 → Int32 × Int32 := fun _ u => (u.1 &&& (u.2 ^^^ (-1)), un S n E (u.1 &&& (u.2 ^^^ (-1))))
def zz (S : St) (n : Nat) (E x : Int32) (a k : Nat) : Int32 × Int32 := fo (stp S n E) k (Mo S n E x, one a)
theorem zz_s (S : St) (n : Nat) (E x : Int32) (a k : Nat) : zz S n E x a (k + 1) = ((zz S n E x a k).1 &&& ((zz S n E x a k).2 ^^^ (-1)), un S n E ((zz S n E x a k).1 &&& ((zz S n E x a k).2 ^^^ (-1)))) := rfl
theorem zz_sb {S : St} {n : Nat} (hn : n ≤ 12) {E x : Int32} {a : Nat} (ha : a < n) (h : bt (Mo S n E x) a = true) : ∀ k, sb (zz S n E x a k).2 (zz S n E x a k).1 ∧ ∀ i, i < 32 → bt (zz S n E x a k).2 i = true → i < n
  | 0 => ⟨fun i hi q => by
      have q' : bt (one a) i = true := q
      rw [b_one (by omega) hi, decide_eq_true_eq] at q'
      subst q'; exact h, fun i hi q => by
      have q' : bt (one a) i = true := q
      rw [b_one (by omega) hi, decide_eq_true_eq] at q'
      omega⟩
  | k + 1 => ⟨un_sb hn E _, mk_lt hn⟩
theorem zz_cn {S : St} {n : Nat} (hn : n ≤ 12) {E x : Int32} {a : Nat} (ha : a < n) (h : bt (Mo S n E x) a = true) {k : Nat} (hk : (zz S n E x a k).2 ≠ 0) : cn n (zz S n E x a (k + 1)).1 < cn n (zz S n E x a k).1 := by
  obtain ⟨i, hi, hb⟩ := nz_bit hk
  obtain ⟨h1, h2⟩ := zz_sb hn ha h k
  refine cn_lt (a := i) (sb_andl _ _) ?_ (h1 i hi hb) n (by omega) (h2 i hi hb)
  show bt ((zz S n E x a k).1 &&& ((zz S n E x a k).2 ^^^ (-1))) i = false
  rw [b_and, b_not _ hi, hb]; simp
theorem zz_end {S : St} {n : Nat} (hn : n ≤ 12) {E x : Int32} {a : Nat} (ha : a < n) (h : bt (Mo S n E x) a = true) : ∃ k, k ≤ 12 ∧ (zz S n E x a k).2 = 0 := by
  refine Classical.byContradiction (fun q => ?_)
  have key : ∀ k, k ≤ 13 → cn n (zz S n E x a k).1 + k ≤ 12 := by
    intro k
    induction k with
    | zero => intro _; have := cn_le n (zz S n E x a 0).1; omega
    | succ k ih =>
      intro hk
      have := ih (by omega)
      have := zz_cn hn ha h (k := k) (fun e => q ⟨k, by omega, e⟩)
      omega
  have := key 13 (by omega)
  omega
theorem zz_stay {S : St} {n : Nat} {E x : Int32} {a k : Nat} (h : (zz S n E x a (k + 1)).2 = 0) : (zz S n E x a (k + 2)).2 = 0 := by
  rw [zz_s S n E x a (k + 1), h]
  have e : (zz S n E x a (k + 1)).1 &&& (0 ^^^ (-1)) = (zz S n E x a (k + 1)).1 := b_ext (fun i hi => by rw [b_and, b_not _ hi, b_0]; simp)
  show un S n E ((zz S n E x a (k + 1)).1 &&& (0 ^^^ (-1))) = 0
  rw [e]
  exact h
theorem zz_from {S : St} {n : Nat} {E x : Int32} {a k : Nat} (h : (zz S n E x a (k + 1)).2 = 0) : ∀ j, (zz S n E x a (k + 1 + j)).2 = 0
  | 0 => h
  | j + 1 => by
    have h1 := zz_from h j
    rw [show k + 1 + j = k + j + 1 by omega] at h1
    rw [show k + 1 + (j + 1) = k + j + 2 by omega]
    exact zz_stay h1
theorem one_ne0 {a : Nat} (ha : a < 32) : one a ≠ 0 := fun e => by
  have := b_one ha ha
  rw [e, b_0] at this
  simp at this
theorem low_ne {x : Int32} (h : ∀ i, i < 32 → bt x i = true → i < 12) : x ≠ -6 := fun e => by
  have := h 31 (by omega) (by rw [e]; decide)
  omega
theorem stepAt_s {S : St} {n F a i : Nat} (hn : nA S n) (hT : nT S) (hg : nG S n) (hF : 5000 ≤ F) (ha : a < n) (hi : i < 12) (x : Int32) : m_X3_stepAt F S (nI a) x (nI i) = if bt (Mo S n (EE S n) x) a = true then (if (zz S n (EE S n) x a i).2 = 0 then some (-6) else some (zz S n (EE S n) x a i).2) else some (-6) := by
  have h12 := hn.2
  unfold m_X3_stepAt
  have hb : rb (nI i) 0 11 = true := decide_eq_true (by rw [nI_toInt (by omega)]; omega)
  rw [exempt_s hn hg hF, bs, most_s hn hT hF, bs, contains_s _ (by omega), bs, if_bi, within_s, bs, if_bi, show (0 : Int32).toInt = 0 from rfl, show (11 : Int32).toInt = 11 from rfl, hb, if_pos rfl, nm_d, one_def]
  have eE : ex (S 0 0) (gm S n) = EE S n := rfl
  rw [eE]
  have h := fo_loop (fun f (u : Int32 × Int32) k => m_X3_stepAt_48 F S (nI a) x (nI i) f (EE S n) u.1 u.2 k) i (stp S n (EE S n)) (fun u => if u.2 = 0 then some (-6) else some u.2) (F := F) (by omega) (Mo S n (EE S n) x, one a) (fun f u => ?_) (fun f u k hk => ?_)
  · rw [show m_X3_stepAt_48 F S (nI a) x (nI i) F (EE S n) (Mo S n (EE S n) x) (one a) 0 = _ from h]; rfl
  · show m_X3_stepAt_48 F S (nI a) x (nI i) (f + 1) (EE S n) u.1 u.2 (nI i) = _
    rw [m_X3_stepAt_48, if_pos (le_t (Nat.le_refl i) (by omega))]
  · show m_X3_stepAt_48 F S (nI a) x (nI i) (f + 1) (EE S n) u.1 u.2 (nI k) = _
    rw [m_X3_stepAt_48, if_neg (le_f hk (by omega)), nm_d, unheld_s hn hT hF, bs, nm_d, nI_1]
theorem stepAt_o {S : St} {n F a : Nat} (hn : nA S n) (hT : nT S) (hg : nG S n) (hF : 5000 ≤ F) (ha : a < n) {p : Int32} (hp : rb p 0 11 = false) (x : Int32) : m_X3_stepAt F S (nI a) x p = some (-6) := by
  have h12 := hn.2
  unfold m_X3_stepAt
  rw [exempt_s hn hg hF, bs, most_s hn hT hF, bs, contains_s _ (by omega), bs, if_bi, within_s, bs, if_bi, show (0 : Int32).toInt = 0 from rfl, show (11 : Int32).toInt = 11 from rfl, hp]
  split <;> rfl
theorem nI_m1 {k : Nat} (h : k < 2 ^ 31) : nI k ≠ -1 := fun e => by
  have := congrArg Int32.toInt e
  rw [nI_toInt h, m1_toInt] at this
  omega
theorem nI_m6 {k : Nat} (h : k < 2 ^ 31) : nI k ≠ -6 := fun e => by
  have := congrArg Int32.toInt e
  rw [nI_toInt h, show (-6 : Int32).toInt = -6 by decide] at this
  omega
theorem p_fall {F : Nat} (hF : 5000 ≤ F) : sp_fall F Rel := by
  rintro S T p1 p2 p3 p4 ⟨n, c, m, R, X⟩
  have hn := R.1
  have h12 := hn.2
  have hT := R.2.2.1
  unfold m_X3_fall m_X4_fall
  rw [has_s hn, isActM_s R, bs, bs, if_bi, if_bi]
  cases ha : rb p1 0 ((n : Int) - 1) with
  | false => exact ⟨_, rfl, rfl⟩
  | true =>
    obtain ⟨a, han, rfl⟩ := rb_nI ha
    rw [if_pos rfl, if_pos rfl, isWho_s, isWhoM_s, bs, bs, if_bi, if_bi]
    cases hw : rb p2 0 3 with
    | false => exact ⟨_, rfl, rfl⟩
    | true =>
    rw [if_pos rfl, if_pos rfl, isDay_s, isDayM_s, bs, bs, if_bi, if_bi]
    cases hdy : rb p3 0 99 with
    | false => exact ⟨_, rfl, rfl⟩
    | true =>
    rw [if_pos rfl, if_pos rfl, wouldCount_s (by omega), wcM0 R X han _ (rb_rg hdy), bs, bs, if_bi, if_bi]
    cases hwc : wc S a p2 p3 with
    | false => exact ⟨_, rfl, rfl⟩
    | true =>
    have hst : m_X4_standing F T p3 = some (Mo S n (EE S n) (sn S n c p3)) := by
      unfold m_X4_standing
      rw [soundM0 R X hF, bs, mostM0 R X hF, bs]
    rw [if_pos rfl, if_pos rfl, soundOn_s hn R.2.1 hF, hst, bs, bs, nm_d, one_def]
    generalize hx : sn S n c p3 = x
    by_cases h2 : p4 = -2
    · rw [if_pos h2, if_pos h2, fallen_s hn hT X.1 hF (by omega), fallOfM_s R X hF, bs, bs, hx]
      exact ⟨_, rfl, rfl⟩
    · rw [if_neg h2, if_neg h2]
      obtain ⟨f, hf⟩ : ∃ f, F = f + 1 := ⟨F - 1, by omega⟩
      cases hm : bt (Mo S n (EE S n) x) a with
      | false =>
        have e0 : Mo S n (EE S n) x &&& one a = 0 := b_ext (fun i hi => by
          rw [b_and, b_one (by omega) hi, b_0]
          by_cases q : i = a
          · rw [q, hm]; rfl
          · simp [q])
        have hr : m_X4_fall_72 F T (nI a) p2 p3 p4 F (Mo S n (EE S n) x) (Mo S n (EE S n) x &&& one a) 0 = if p4 = -1 then some 0 else some (-6) := by
          rw [e0, hf, m_X4_fall_72, if_pos rfl]
        rw [hr]
        by_cases h1 : p4 = -1
        · rw [if_pos h1, if_pos h1]
          refine ⟨0, ?_, rfl⟩
          unfold m_X3_stepCount
          have hs := stepAt_s hn hT X.1 hF han (show 0 < 12 by omega) x
          rw [hm, if_neg (by simp), nI_0] at hs
          have : m_X3_stepCount_2 F S (nI a) x F 0 = some 0 := by
            obtain ⟨f, hf⟩ : ∃ f, F = f + 1 := ⟨F - 1, by omega⟩
            conv => lhs; rw [hf]
            rw [← hf] 
            rw [show m_X3_stepCount_2 F S (nI a) x F 0 = m_X3_stepCount_2 F S (nI a) x (f + 1) 0 by rw [← hf], m_X3_stepCount_2, if_neg (by decide), hs, bs, if_pos rfl]
          rw [this, bs]
        · rw [if_neg h1, if_neg h1]
          refine ⟨-6, ?_, rfl⟩
          cases hb : rb p4 0 11 with
          | false => rw [stepAt_o hn hT X.1 hF han hb, bs]
          | true =>
            obtain ⟨i, hi, rfl⟩ := rb_nI (n := 12) (p := p4) hb
            rw [stepAt_s hn hT X.1 hF han hi, hm, if_neg (by simp), bs]
      | true =>
        have e0 : Mo S n (EE S n) x &&& one a = one a := b_ext (fun i hi => by
          rw [b_and, b_one (by omega) hi]
          by_cases q : i = a
          · rw [q, hm]; simp
          · simp [q])
        rw [e0]
        obtain ⟨K, hK0, hKl⟩ := pk_least (fun k => (zz S n (EE S n) x a k).2 = 0) (by obtain ⟨k, _, h⟩ := zz_end h12 han hm; exact ⟨k, h⟩)
        have hK12 : K ≤ 12 := by
          obtain ⟨k, h1, h⟩ := zz_end h12 han hm
          rcases Nat.lt_or_ge k K with q | q
          · exact absurd h (hKl k q)
          · omega
        have hKpos : 0 < K := by
          rcases Nat.eq_zero_or_pos K with q | q
          · rw [q] at hK0; exact absurd hK0 (one_ne0 (by omega))
          · exact q
        have hafter : ∀ i, K ≤ i → (zz S n (EE S n) x a i).2 = 0 := fun i hi => by
          obtain ⟨K', rfl⟩ : ∃ K', K = K' + 1 := ⟨K - 1, by omega⟩
          obtain ⟨j, rfl⟩ : ∃ j, i = K' + 1 + j := ⟨i - (K' + 1), by omega⟩
          exact zz_from hK0 j
        have unr : ∀ f k, k ≤ K → m_X4_fall_72 F T (nI a) p2 p3 p4 (f + 1) (zz S n (EE S n) x a k).1 (zz S n (EE S n) x a k).2 (nI k) = if k = K then (if p4 = -1 then some (nI K) else some (-6)) else if nI k = p4 then some (zz S n (EE S n) x a k).2 else m_X4_fall_72 F T (nI a) p2 p3 p4 f (zz S n (EE S n) x a (k + 1)).1 (zz S n (EE S n) x a (k + 1)).2 (nI (k + 1)) := by
          intro f k hk
          rw [m_X4_fall_72]
          by_cases q : k = K
          · rw [if_pos q, if_pos (by rw [q]; exact hK0), q]
          · rw [if_neg q, if_neg (hKl k (by omega)), nm_d, nm_d, looseM_s R hF, bs, EM X, nI_1]
            rfl
        by_cases h1 : p4 = -1
        · rw [if_pos h1]
          refine ⟨nI K, ?_, ?_⟩
          · unfold m_X3_stepCount
            have key : ∀ f k, k ≤ K → K < k + f → m_X3_stepCount_2 F S (nI a) x f (nI k) = some (nI K) := by
              intro f
              induction f with
              | zero => intro k h1 h2; omega
              | succ f ih =>
                intro k hk1 hk2
                rw [m_X3_stepCount_2]
                rcases Nat.lt_or_ge k 12 with q | q
                · rw [if_neg (show ¬ (12 : Int32) ≤ nI k from le_f (n := 12) q (by omega)), stepAt_s hn hT X.1 hF han q, hm, if_pos rfl]
                  by_cases g : k = K
                  · rw [g, if_pos hK0, bs, if_pos rfl]
                  · rw [if_neg (hKl k (by omega)), bs, if_neg (low_ne (fun i hi hb => by have := (zz_sb h12 han hm k).2 i hi hb; omega)), nm_d, nI_1]
                    exact ih (k + 1) (by omega) (by omega)
                · rw [if_pos (show (12 : Int32) ≤ nI k from le_t (n := 12) q (by omega)), show k = K by omega]
            rw [show m_X3_stepCount_2 F S (nI a) x F 0 = some (nI K) from key F 0 (by omega) (by omega), bs]
          · have key : ∀ f k, k ≤ K → K < k + f → m_X4_fall_72 F T (nI a) p2 p3 p4 f (zz S n (EE S n) x a k).1 (zz S n (EE S n) x a k).2 (nI k) = some (nI K) := by
              intro f
              induction f with
              | zero => intro k h1 h2; omega
              | succ f ih =>
                intro k hk1 hk2
                rw [unr f k hk1]
                by_cases g : k = K
                · rw [if_pos g, if_pos h1]
                · rw [if_neg g, if_neg (by rw [h1]; exact nI_m1 (by omega))]
                  exact ih (k + 1) (by omega) (by omega)
            exact key F 0 (by omega) (by omega)
        · rw [if_neg h1]
          by_cases hi : ∃ i, i < K ∧ p4 = nI i
          · obtain ⟨i, hiK, rfl⟩ := hi
            refine ⟨(zz S n (EE S n) x a i).2, ?_, ?_⟩
            · rw [stepAt_s hn hT X.1 hF han (by omega), hm, if_pos rfl, if_neg (hKl i hiK), bs]
            · have key : ∀ f k, k ≤ i → K < k + f → m_X4_fall_72 F T (nI a) p2 p3 (nI i) f (zz S n (EE S n) x a k).1 (zz S n (EE S n) x a k).2 (nI k) = some (zz S n (EE S n) x a i).2 := by
                intro f
                induction f with
                | zero => intro k h1 h2; omega
                | succ f ih =>
                  intro k hk1 hk2
                  rw [unr f k (by omega), if_neg (show ¬ k = K by omega)]
                  by_cases g : k = i
                  · rw [g, if_pos rfl]
                  · rw [if_neg (fun e => g ((nI_eq (by omega) (by omega)).mp e))]
                    exact ih (k + 1) (by omega) (by omega)
              exact key F 0 (by omega) (by omega)
          · refine ⟨-6, ?_, ?_⟩
            · cases hb : rb p4 0 11 with
              | false => rw [stepAt_o hn hT X.1 hF han hb, bs]
              | true =>
                obtain ⟨i, hi2, rfl⟩ := rb_nI (n := 12) (p := p4) hb
                rw [stepAt_s hn hT X.1 hF han hi2, hm, if_pos rfl, if_pos (hafter i (by
                  rcases Nat.lt_or_ge i K with q | q
                  · exact absurd ⟨i, q, rfl⟩ hi
                  · exact q)), bs]
            · have key : ∀ f k, k ≤ K → K < k + f → m_X4_fall_72 F T (nI a) p2 p3 p4 f (zz S n (EE S n) x a k).1 (zz S n (EE S n) x a k).2 (nI k) = some (-6) := by
                intro f
                induction f with
                | zero => intro k h1 h2; omega
                | succ f ih =>
                  intro k hk1 hk2
                  rw [unr f k hk1]
                  by_cases g : k = K
                  · rw [if_pos g, if_neg h1]
                  · rw [if_neg g, if_neg (fun e => hi ⟨k, by omega, e.symm⟩)]
                    exact ih (k + 1) (by omega) (by omega)
              exact key F 0 (by omega) (by omega)
