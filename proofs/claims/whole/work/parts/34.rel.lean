/-! what holds between the two states; all, why, under, counts, told, beside -/
def RX (S T : St) (n m : Nat) : Prop := nG S n ∧ (T 0 2 = S 0 0 ∧ rg (S 0 0) 0 1 ∧ rg (S 0 1) 0 9) ∧ T 0 0 = gm S n ∧ (T 0 6 = 0 ∧ T 0 7 = 0) ∧ (S 3 0 = nI m ∧ T 0 4 = nI m ∧ m ≤ 40 ∧ ∀ k, k < m → T 10 k = S 14 k) ∧
  ∀ a, n ≤ a → a < 12 → S 15 a = 0 ∧ S 16 a = 99 ∧ S 17 a = -1 ∧ S 18 a = 0 ∧ S 9 a = 0 ∧ T 5 a = 0
def Rel (S T : St) : Prop := ∃ n c m, RB S T n c ∧ RX S T n m
/-- the exempt ones of the class's state -/
def EE (S : St) (n : Nat) : Int32 := ex (S 0 0) (gm S n)
theorem EM {S T : St} {n m : Nat} (h : RX S T n m) : ex (T 0 2) (T 0 0) = EE S n := by rw [h.2.1.1, h.2.2.1]; rfl
theorem soundM0 {S T : St} {n c m F : Nat} (R : RB S T n c) (X : RX S T n m) (hF : 5000 ≤ F) (d : Int32) : m_X4_soundOf F T d = some (sn S n c d) := by
  rw [soundOfM_s R hF, X.2.2.2.1.1, X.2.2.2.1.2, snH_0 R.1 R.2.1]
theorem mostM0 {S T : St} {n c m F : Nat} (R : RB S T n c) (X : RX S T n m) (hF : 5000 ≤ F) (x : Int32) : m_X4_mostOf F T x = some (Mo S n (EE S n) x) := by
  rw [mostM_s R hF, EM X]
theorem wcM0 {S T : St} {n c m a : Nat} (R : RB S T n c) (X : RX S T n m) (ha : a < n) (w : Int32) {d : Int32} (hd : rg d 0 99) : m_X4_wouldCount T (nI a) w d = some (bi (wc S a w d)) := by
  rw [wouldCountM_s R ha w hd, X.2.2.2.1.1, wcH_0]
/-- sets that grow -/
theorem inc_fix {h : Int32 → Int32} {n : Nat} (hc : ∀ x, h x ≠ x → cn n x < cn n (h x)) : ∀ k x, n - cn n x ≤ k → h (itr h k x) = itr h k x
  | 0, x, q => by
    refine Classical.byContradiction (fun z => ?_)
    have h1 := hc (itr h 0 x) z
    have h2 : itr h 0 x = x := rfl
    have h3 := cn_le n (h (itr h 0 x))
    rw [h2] at h1 h3
    omega
  | k + 1, x, q => by
    by_cases e : h x = x
    · rw [itr_fix e]; exact e
    · rw [itr]
      exact inc_fix hc k _ (by have := hc x e; omega)
theorem inc_stab {h : Int32 → Int32} {n : Nat} (hn : n ≤ 12) (hc : ∀ x, h x ≠ x → cn n x < cn n (h x)) (x : Int32) : itr h 12 (h x) = itr h 12 x := by
  have h1 : itr h 13 x = itr h 12 (h x) := rfl
  rw [← h1, itr_s, inc_fix hc 12 x (by omega)]
theorem or_cn {n : Nat} (hn : n ≤ 12) {x y : Int32} (hy : ∀ i, i < 32 → bt y i = true → i < n) (h : x ||| y ≠ x) : cn n x < cn n (x ||| y) := by
  have h1 : ¬ sb y x := fun q => h (sb_as (sb_or (sb_rf x) q) (sb_orl x y))
  have h2 : ∃ i, i < 32 ∧ bt y i = true ∧ bt x i = false := by
    refine Classical.byContradiction (fun q => h1 (fun i hi hb => ?_))
    cases e : bt x i with
    | true => rfl
    | false => exact absurd ⟨i, hi, hb, e⟩ q
  obtain ⟨i, hi, h3, h4⟩ := h2
  exact cn_lt (sb_orl x y) h4 (sb_orr x y i hi h3) n (by omega) (hy i hi h3)
theorem mk_lt {n : Nat} (hn : n ≤ 12) {P : Nat → Bool} : ∀ i, i < 32 → bt (mk n P) i = true → i < n := fun i hi h => by
  rw [bt_mk _ hi n (by omega), Bool.and_eq_true, decide_eq_true_eq] at h
  exact h.1
theorem or_as (x y z : Int32) : x ||| (y ||| z) = x ||| y ||| z := b_ext (fun i _ => by simp only [b_or, Bool.or_assoc])
theorem fo_mkx (P : Nat → Bool) (x : Int32) : ∀ n, fo (fun i acc => acc ||| (if P i = true then one i else 0)) n x = x ||| mk n P
  | 0 => by rw [fo, mk, or_0]
  | n + 1 => by rw [fo, fo_mkx P x n, mk, or_as]
/-- the reference's step to THE LEAST -/
def hE (S : St) (n : Nat) (E x c : Int32) : Int32 := c ||| mk n (fun a => bt x a && (bt E a || hl S a c))
theorem hE_cn {S : St} {n : Nat} (hn : n ≤ 12) (E x : Int32) : ∀ c, hE S n E x c ≠ c → cn n c < cn n (hE S n E x c) := fun c h => or_cn hn (mk_lt hn) h
theorem leastIn_s {S T : St} {n c F : Nat} (R : RB S T n c) (hF : 5000 ≤ F) (x : Int32) (K : Int32 → Int32 → Option Int32) (y : Int32) : m_X4_leastOf_14 F T x K F y y 0 = K (hE S n (ex (T 0 2) (T 0 0)) x y) y := by
  have en : T 0 1 = nI n := R.2.2.2.1
  have h12 := R.1.2
  have h := fo_loop (fun f acc i => m_X4_leastOf_14 F T x K f acc y i) n (fun i acc => acc ||| (if (bt x i && (bt (ex (T 0 2) (T 0 0)) i || hl S i y)) = true then one i else 0)) (fun acc => K acc y) (F := F) (by omega) y (fun f acc => ?_) (fun f acc i hi => ?_)
  · rw [show m_X4_leastOf_14 F T x K F y y 0 = _ from h, fo_mkx]; rfl
  · show m_X4_leastOf_14 F T x K (f + 1) acc y (nI n) = _
    rw [m_X4_leastOf_14, en, if_pos (le_t (Nat.le_refl n) (by omega))]
  · show m_X4_leastOf_14 F T x K (f + 1) acc y (nI i) = _
    rw [m_X4_leastOf_14, en, if_neg (le_f hi (by omega)), heldM_s R hF hi, bs, if_bi]
    simp only [nm_d, nI_1, one_def, has_bit _ (show i < 32 by omega)]
    cases bt x i <;> cases bt (ex (T 0 2) (T 0 0)) i <;> cases hl S i y <;> simp
theorem leastM_s {S T : St} {n c F : Nat} (R : RB S T n c) (hF : 5000 ≤ F) (x : Int32) : m_X4_leastOf F T x = some (itr (hE S n (ex (T 0 2) (T 0 0)) x) 12 0) := by
  have h12 := R.1.2
  have key : ∀ f y, n - cn n y < f → m_X4_leastOf_4 F T x f (hE S n (ex (T 0 2) (T 0 0)) x y) y = some (itr (hE S n (ex (T 0 2) (T 0 0)) x) 12 y) := by
    intro f
    induction f with
    | zero => intro y h; omega
    | succ f ih =>
      intro y h
      rw [m_X4_leastOf_4]
      by_cases e : y = hE S n (ex (T 0 2) (T 0 0)) x y
      · rw [if_pos e, itr_fix e.symm, ← e]
      · rw [if_neg e, leastIn_s R hF, ih _ (by have := hE_cn h12 (ex (T 0 2) (T 0 0)) x y (fun q => e q.symm); have := cn_le n (hE S n (ex (T 0 2) (T 0 0)) x y); omega), inc_stab h12 (hE_cn h12 _ x)]
  unfold m_X4_leastOf
  obtain ⟨f, rfl⟩ : ∃ f, F = f + 1 := ⟨F - 1, by omega⟩
  rw [m_X4_leastOf_4, if_neg (by decide), leastIn_s R hF]
  exact key f 0 (by omega)
/-- both ways to THE LEAST -/
theorem he_mono {S : St} {n : Nat} (hn : n ≤ 12) {x c c' : Int32} (h : sb c c') : sb (he S n x c) (he S n x c') := fun i hi q => by
  unfold he at *
  rw [bt_mk _ hi n (by omega)] at *
  simp only [Bool.and_eq_true] at *
  exact ⟨q.1, q.2.1, hl_mono h q.2.2⟩
theorem hE_bt {S : St} {n : Nat} (hn : n ≤ 12) (E x c : Int32) {i : Nat} (hi : i < 32) : bt (hE S n E x c) i = (bt c i || (decide (i < n) && (bt x i && (bt E i || hl S i c)))) := by
  unfold hE
  rw [b_or, bt_mk _ hi n (by omega)]
theorem hs_bt {S : St} {n : Nat} (hn : n ≤ 12) (x c : Int32) {i : Nat} (hi : i < 32) : bt (hs S n x c) i = (bt c i || (decide (i < n) && (bt x i && hl S i c))) := by
  unfold hs he
  rw [b_or, bt_mk _ hi n (by omega)]
theorem least_eq {S : St} {n : Nat} (hn : n ≤ 12) (E x : Int32) (hx : ∀ i, i < 32 → bt x i = true → i < n) : itr (hs S n x) 12 (x &&& E) = itr (hE S n E x) 12 0 := by
  have h1 : ∀ k, sb (itr (hE S n E x) k 0) (itr (hs S n x) k (x &&& E)) ∧ sb (x &&& E) (itr (hs S n x) k (x &&& E)) := by
    intro k
    induction k with
    | zero => exact ⟨sb_0 _, sb_rf _⟩
    | succ k ih =>
      rw [itr_s, itr_s]
      refine ⟨fun i hi q => ?_, sb_tr ih.2 (sb_orl _ _)⟩
      rw [hE_bt hn _ _ _ hi, Bool.or_eq_true] at q
      rw [hs_bt hn _ _ hi, Bool.or_eq_true]
      rcases q with q | q
      · exact Or.inl (ih.1 i hi q)
      · simp only [Bool.and_eq_true, Bool.or_eq_true] at q
        rcases q.2.2 with g | g
        · exact Or.inl (ih.2 i hi (by rw [b_and, q.2.1, g]; rfl))
        · refine Or.inr ?_
          rw [q.1, q.2.1, hl_mono ih.1 g]; rfl
  have h2 : ∀ k, sb (itr (hs S n x) k (x &&& E)) (itr (hE S n E x) (k + 1) 0) := by
    intro k
    induction k with
    | zero =>
      intro i hi q
      have q' : bt (x &&& E) i = true := q
      rw [b_and, Bool.and_eq_true] at q'
      show bt (hE S n E x 0) i = true
      rw [hE_bt hn _ _ _ hi, q'.1, q'.2, decide_eq_true (hx i hi q'.1)]; simp
    | succ k ih =>
      rw [itr_s, itr_s _ (k + 1)]
      intro i hi q
      rw [hs_bt hn _ _ hi, Bool.or_eq_true] at q
      rw [hE_bt hn _ _ _ hi, Bool.or_eq_true]
      rcases q with q | q
      · exact Or.inl (ih i hi q)
      · simp only [Bool.and_eq_true] at q
        refine Or.inr ?_
        rw [q.1, q.2.1, hl_mono ih q.2.2]; simp
  have h3 : itr (hE S n E x) 13 0 = itr (hE S n E x) 12 0 := by
    rw [itr_s]
    exact inc_fix (hE_cn hn E x) 12 0 (by omega)
  exact sb_as (by have := h2 12; rw [h3] at this; exact this) (h1 12).1
theorem sn_lt {S : St} {n c : Nat} (hn : n ≤ 12) (d : Int32) : ∀ i, i < 32 → bt (sn S n c d) i = true → i < n := mk_lt hn
theorem two {α : Type} {x y : Option α} (h : x = y) (hs : ∃ r, y = some r) : ∃ r, x = some r ∧ y = some r := by
  obtain ⟨r, hr⟩ := hs
  exact ⟨r, h.trans hr, hr⟩
theorem p_all {F : Nat} (hF : 5000 ≤ F) : sp_all F Rel := by
  rintro S T p1 p2 ⟨n, c, m, R, X⟩
  have hn := R.1
  have hT := R.2.2.1
  unfold m_X3_all m_X4_all
  rw [isDay_s, isDayM_s, bs, bs, if_bi, if_bi, within_s, inI_s, bs, bs, if_bi, if_bi, soundOn_s hn R.2.1 hF, soundM0 R X hF, bs, bs, exempt_s hn X.1 hF]
  simp only [bs, most_s hn hT hF, mostM0 R X hF, least_s hn hT hF, leastM_s R hF, EM X]
  rw [least_eq hn.2 _ _ (sn_lt hn.2 p1)]
  refine two rfl ?_
  repeat' split
  all_goals exact ⟨_, rfl⟩
theorem rb_rg {x : Int32} {lo hi : Int} (h : rb x lo hi = true) : rg x lo hi := by
  have h1 : lo ≤ x.toInt ∧ x.toInt ≤ hi := of_decide_eq_true h
  exact h1
theorem p_why {F : Nat} (hF : 5000 ≤ F) : sp_why F Rel := by
  rintro S T p1 p2 ⟨n, c, m, R, X⟩
  have hn := R.1
  have h12 := hn.2
  have hT := R.2.2.1
  unfold m_X3_why m_X4_why m_X4_why_70
  rw [has_s hn, isActM_s R, bs, bs, if_bi, if_bi]
  cases ha : rb p1 0 ((n : Int) - 1) with
  | false => exact ⟨_, rfl, rfl⟩
  | true =>
    obtain ⟨a, han, rfl⟩ := rb_nI ha
    rw [if_pos rfl, if_pos rfl, isDay_s, isDayM_s, bs, bs, if_bi, if_bi]
    cases hdy : rb p2 0 99 with
    | false => exact ⟨_, rfl, rfl⟩
    | true =>
      obtain ⟨e1, -, -, -, e5, -, -⟩ := R.2.2.2.2.2.2.1 a han
      rw [if_pos rfl, if_pos rfl, isDone_s (by omega), isNought_s (by omega), soundOn_s hn R.2.1 hF, exempt_s hn X.1 hF]
      have hst : m_X4_standing F T p2 = some (Mo S n (EE S n) (sn S n c p2)) := by
        unfold m_X4_standing
        rw [soundM0 R X hF, bs, mostM0 R X hF, bs]
      rw [hst]
      simp only [bs, if_bi, contains_s _ (show a < 32 by omega), most_s hn hT hF, has_bit _ (show a < 32 by omega), gd_nI (show a < 12 by omega) (show 12 ≤ 1000 by omega), ix_nI (show a < 2 ^ 31 by omega), e1, e5, isHealedM_s R han, isAskedM_s R hF han]
      have eE : EE S n = ex (S 0 0) (gm S n) := rfl
      rw [← eE, X.2.2.2.1.1, X.2.2.2.1.2]
      unfold hdH
      simp only [b_0, Bool.false_or, apH_0 hn R.2.1 han]
      have hs : bt (sn S n c p2) a = sd S c p2 a := by
        unfold sn
        rw [bt_mk _ (by omega) n (by omega), decide_eq_true han, Bool.true_and]
      have hm : bt (Mo S n (EE S n) (sn S n c p2)) a = true → bt (sn S n c p2) a = true := Mo_sb _ _ _ _ a (by omega)
      have hle : (S 4 a ≤ p2) = (dn S a p2 = true) := by
        unfold dn
        rw [decide_eq_true_eq, Int32.not_lt]
      have hng : ng S a p2 = (decide (S 15 a = 1) && !hd S a p2) := rfl
      simp only [hle]
      cases hmo : bt (Mo S n (EE S n) (sn S n c p2)) a with
      | true =>
        have h1 := hm hmo
        rw [hs] at h1
        unfold sd at h1
        simp only [Bool.and_eq_true, Bool.not_eq_true'] at h1
        rw [hs]
        refine ⟨0, ?_, by simp⟩
        unfold sd
        simp [h1.1.1, h1.1.2, h1.2]
      | false =>
        rw [hs]
        unfold sd
        cases dn S a p2 with
        | false => exact ⟨1, by simp, by simp⟩
        | true =>
          cases hN : ng S a p2 with
          | true =>
            rw [hng, Bool.and_eq_true, decide_eq_true_eq, Bool.not_eq_true'] at hN
            exact ⟨2, by simp, by simp [hN.1, hN.2]⟩
          | false =>
            rw [hng] at hN
            cases hk : anyb c (fun k => ap S p2 k && decide (S 11 k = nI a)) with
            | true =>
              refine ⟨3, by simp, ?_⟩
              by_cases q : S 15 a = 1
              · simp [q] at hN
                simp [q, hN]
              · simp [q]
            | false =>
              refine ⟨4, by simp, ?_⟩
              by_cases q : S 15 a = 1
              · simp [q] at hN
                simp [q, hN]
              · simp [q]
theorem p_beside {F : Nat} (hF : 5000 ≤ F) : sp_beside F Rel := by
  rintro S T p1 ⟨n, c, m, R, X⟩
  have hn := R.1
  have hT := R.2.2.1
  unfold m_X3_beside m_X4_beside
  rw [isDay_s, isDayM_s, bs, bs, if_bi, if_bi]
  cases hdy : rb p1 0 99 with
  | false => exact ⟨_, T, rfl, rfl, n, c, m, R, X⟩
  | true =>
    have R0 : RB S (up T 0 2 0) n c := R
    have R1 : RB S (up (up T 0 2 0) 0 2 1) n c := R
    rw [if_pos rfl, if_pos rfl, nm_d, soundOn_s hn R.2.1 hF, soundM0 R X hF, bs, bs, goodOnes_s hn X.1 hF, bs, exemptBy_s, bs, exemptBy_s, most_s hn hT hF, bs, bs, most_s hn hT hF, bs, mostM_s R0 hF, bs, mostM_s R1 hF, bs]
    have e0 : (up T 0 2 0) 0 2 = 0 := rfl
    have e1 : (up (up T 0 2 0) 0 2 1) 0 2 = 1 := rfl
    have e2 : (up (up T 0 2 0) 0 2 1) 0 0 = T 0 0 := rfl
    have e3 : (up T 0 2 0) 0 0 = T 0 0 := rfl
    rw [e0, e1, e2, e3, X.2.2.1]
    refine ⟨_, _, rfl, rfl, n, c, m, ?_, ?_⟩
    · exact R
    · exact X
