/-! safe, rest -/
def fin (k : Nat) : Int32 := if 100 ≤ k then -6 else nI k
def sf (S : St) (n c : Nat) (a D : Nat) : Nat → Int32
  | 0 => fin 0
  | k + 1 => if k + 1 ≤ D then fin (k + 1) else if sfo S n (EE S n) a (sn S n c (nI k)) (nI k) = true then sf S n c a D k else fin (k + 1)
theorem rg_nI {k : Nat} (h : k ≤ 99) : rg (nI k) 0 99 := by
  refine ⟨?_, ?_⟩ <;> rw [nI_toInt (by omega)] <;> omega
theorem nI_p1 (k : Nat) : nI (k + 1) + (-1) = nI k := pk_m1 k
theorem safe_loop {S T : St} {n c m F a D : Nat} (R : RB S T n c) (X : RX S T n m) (hF : 5000 ≤ F) (ha : a < n) (hD : S 4 a = nI D) (hD9 : D ≤ 99) : ∀ (k f : Nat) (x3 x4 : Int32), k ≤ 100 → k < f → (k < 100 → x3 = sn S n c (nI k) ∧ x4 = ak S n (nI k) ∧ sfo S n (EE S n) a (sn S n c (nI k)) (nI k) = true) → m_X3_safe_25 F S (nI a) f (fin k) x3 x4 (nI k - 1) = some (sf S n c a D k) := by
  have hn := R.1
  have h12 := hn.2
  have hT := R.2.2.1
  intro k
  induction k with
  | zero =>
    intro f x3 x4 h1 h2 h3
    obtain ⟨g, rfl⟩ : ∃ g, f = g + 1 := ⟨f - 1, by omega⟩
    rw [m_X3_safe_25, gd_nI (by omega) (by omega), ix_nI (by omega), hD]
    have : nI 0 - 1 < nI D := by
      rw [Int32.lt_iff_toInt_lt, nI_toInt (by omega), show (nI 0 - 1).toInt = -1 by decide]
      omega
    rw [if_pos this]; rfl
  | succ k ih =>
    intro f x3 x4 h1 h2 h3
    obtain ⟨g, rfl⟩ : ∃ g, f = g + 1 := ⟨f - 1, by omega⟩
    rw [m_X3_safe_25, gd_nI (by omega) (by omega), ix_nI (by omega), hD, nI_pred, sf]
    by_cases q : k + 1 ≤ D
    · rw [if_pos q, if_pos (nI_lt (show k < D by omega) (by omega))]
    · rw [if_neg q, if_neg (nI_nlt (show D ≤ k by omega) (by omega)), soundOn_s hn R.2.1 hF, bs, askableOn_s hn hF, bs]
      have hk : fin k = nI k := by unfold fin; rw [if_neg (by omega)]
      have go : sfo S n (EE S n) a (sn S n c (nI k)) (nI k) = true → m_X3_safe_25 F S (nI a) g (nI k) (sn S n c (nI k)) (ak S n (nI k)) (nI k + (-1)) = some (sf S n c a D k) := fun hs => by
        have h := ih g (sn S n c (nI k)) (ak S n (nI k)) (by omega) (by omega) (fun _ => ⟨rfl, rfl, hs⟩)
        rw [hk, Int32.sub_eq_add_neg] at h
        exact h
      have main : m_X3_safe_82 F S (nI a) (fun z1 z2 z3 z4 => m_X3_safe_25 F S (nI a) g z1 z2 z3 z4) (fin (k + 1)) (nI k) (sn S n c (nI k)) (ak S n (nI k)) 0 = some (if sfo S n (EE S n) a (sn S n c (nI k)) (nI k) = true then sf S n c a D k else fin (k + 1)) := by
        unfold m_X3_safe_82 m_X3_safe_104
        rw [if_pos rfl, withstands_s hn hT X.1 hF (by omega), bs, if_bi, sfo_eq h12, nm_d]
        cases e : sfo S n (EE S n) a (sn S n c (nI k)) (nI k) with
        | true => exact go e
        | false => rfl
      unfold m_X3_safe_81
      by_cases h6 : fin (k + 1) = -6
      · rw [if_pos h6, main]
      · rw [if_neg h6]
        have hk100 : k + 1 < 100 := by
          rcases Nat.lt_or_ge (k + 1) 100 with z | z
          · exact z
          · exact absurd (by unfold fin; rw [if_pos z]) h6
        obtain ⟨e3, e4, hs1⟩ := h3 hk100
        by_cases g1 : sn S n c (nI k) = x3
        · rw [if_pos g1]
          by_cases g2 : ak S n (nI k) = x4
          · rw [if_pos g2]
            have hs : sfo S n (EE S n) a (sn S n c (nI k)) (nI k) = true := by
              rw [← sfo_eq h12, g1, g2, e3, e4, sfo_eq h12]
              exact hs1
            unfold m_X3_safe_82 m_X3_safe_104
            rw [if_neg (by decide), nm_d, if_pos hs]
            exact go hs
          · rw [if_neg g2, main]
        · rw [if_neg g1, main]
theorem safeM_loop {S T : St} {n c m F a D : Nat} (R : RB S T n c) (X : RX S T n m) (hF : 5000 ≤ F) (ha : a < n) (hD : S 4 a = nI D) (hD9 : D ≤ 99) : ∀ (k f : Nat), k ≤ 100 → k < f → m_X4_safe_13 F T (nI a) f (nI k) = some (sf S n c a D k) := by
  have h12 := R.1.2
  obtain ⟨e1, -⟩ := R.2.2.2.2.2.2.1 a ha
  have h40 : ∀ k, k ≤ 100 → m_X4_safe_40 F T (nI a) (nI k) = some (fin k) := by
    intro k hk
    unfold m_X4_safe_40 fin
    by_cases q : 100 ≤ k
    · rw [if_pos q, if_neg (show ¬ nI k ≤ (99 : Int32) from nI_ge (b := k) (a := 99) (by omega) (by omega))]
    · rw [if_neg q, if_pos (show nI k ≤ (99 : Int32) from nI_le (b := 99) (by omega) (by omega))]
  intro k
  induction k with
  | zero =>
    intro f h1 h2
    obtain ⟨g, rfl⟩ : ∃ g, f = g + 1 := ⟨f - 1, by omega⟩
    rw [m_X4_safe_13, gd_nI (by omega) (by omega), ix_nI (by omega), e1, hD, if_pos (nI_le (Nat.zero_le D) (by omega)), h40 0 (by omega)]; rfl
  | succ k ih =>
    intro f h1 h2
    obtain ⟨g, rfl⟩ : ∃ g, f = g + 1 := ⟨f - 1, by omega⟩
    rw [m_X4_safe_13, gd_nI (by omega) (by omega), ix_nI (by omega), e1, hD, sf]
    by_cases q : k + 1 ≤ D
    · rw [if_pos q, if_pos (nI_le q (by omega)), h40 _ h1]
    · rw [if_neg q, if_neg (nI_ge (show D < k + 1 by omega) (by omega)), nI_pred, isSafeOnM_s R X hF ha (rg_nI (by omega)), bs, if_bi, nm_d, nI_p1, h40 _ h1, ih g (by omega) (by omega)]
      cases sfo S n (EE S n) a (sn S n c (nI k)) (nI k) <;> rfl
theorem p_safe {F : Nat} (hF : 5000 ≤ F) : sp_safe F Rel := by
  rintro S T p1 ⟨n, c, m, R, X⟩
  have hn := R.1
  have h12 := hn.2
  unfold m_X3_safe m_X4_safe
  rw [has_s hn, isActM_s R, bs, bs, if_bi, if_bi]
  cases ha : rb p1 0 ((n : Int) - 1) with
  | false => exact ⟨_, rfl, rfl⟩
  | true =>
    obtain ⟨a, han, rfl⟩ := rb_nI ha
    obtain ⟨r4, -⟩ := R.2.2.2.2.2.2.2.1 a han
    obtain ⟨D, hD9, hD⟩ : ∃ D, D < 100 ∧ S 4 a = nI D := rb_nI (n := 100) (decide_eq_true r4)
    rw [if_pos rfl, if_pos rfl]
    exact ⟨_, safe_loop R X hF han hD (by omega) 100 F 0 0 (by omega) (by omega) (fun q => absurd q (by omega)), safeM_loop R X hF han hD (by omega) 100 F (by omega) (by omega)⟩
/-- the same with those asked too -/
theorem fallOfG {S T : St} {n c F a : Nat} {E : Int32} (R : RB S T n c) (hE : ex (T 0 2) (T 0 0) = E) (h6 : T 0 6 = 0) (hF : 5000 ≤ F) (d : Int32) : m_X4_fallOf F T (nI a) d = some (fa S n E (snH S n c 0 (T 0 7) d) a) := by
  unfold m_X4_fallOf
  rw [soundOfM_s R hF, bs, mostM_s R hF, bs, wo_def, mostM_s R hF, bs, hE, h6]; rfl
theorem backOfG {S T : St} {n c F a : Nat} {E : Int32} (R : RB S T n c) (hE : ex (T 0 2) (T 0 0) = E) (h6 : T 0 6 = 0) (hF : 5000 ≤ F) (d w : Int32) : m_X4_backOf F T (nI a) d w = some (gn S n (fa S n E (snH S n c 0 (T 0 7) d) a) d w (S 0 1)) := by
  have hn := R.1
  have en : T 0 1 = nI n := R.2.2.2.1
  have er : T 0 3 = S 0 1 := R.2.2.2.2.1
  have h12 := hn.2
  unfold m_X4_backOf
  rw [fallOfG R hE h6 hF, bs]
  generalize fa S n E (snH S n c 0 (T 0 7) d) a = f
  refine fo_loop (fun k acc i => m_X4_backOf_14 F T (nI a) d w k f acc i) n (gst S f d w (S 0 1)) some (by omega) 0 (fun k acc => ?_) (fun k acc i hi => ?_)
  · show m_X4_backOf_14 F T (nI a) d w (k + 1) f acc (nI n) = _
    rw [m_X4_backOf_14, en, if_pos (le_t (Nat.le_refl n) (by omega))]
  · show m_X4_backOf_14 F T (nI a) d w (k + 1) f acc (nI i) = _
    obtain ⟨e1, e2, e3, e4, -, -, -⟩ := R.2.2.2.2.2.2.1 i hi
    rw [m_X4_backOf_14, en, if_neg (le_f hi (by omega)), er]
    simp only [gd_nI (show i < 12 by omega) (show 12 ≤ 1000 by omega), ix_nI (show i < 2 ^ 31 by omega), nm_d, nI_1, has_bit _ (show i < 32 by omega), e1, e2, e3, e4]
    unfold gst due
    cases bt f i
    · simp
    · by_cases h1 : S 5 i = w
      · simp [h1]
      · by_cases h2 : S 6 i = w <;> simp [h1, h2, Int32.sub_eq_add_neg]
theorem wiseOfG {S T : St} {n c F a : Nat} {E : Int32} (R : RB S T n c) (hE : ex (T 0 2) (T 0 0) = E) (h6 : T 0 6 = 0) (hF : 5000 ≤ F) (ha : a < n) {d : Int32} (hd : rg d 0 99) : m_X4_wiseOf F T (nI a) d = some (ffr (wz S n E (snH S n c 0 (T 0 7) d) d a) 4 0) := by
  unfold m_X4_wiseOf
  refine ff_loop (m_X4_wiseOf_2 F T (nI a) d) 4 _ (by omega) (fun f => ?_) (fun f k hk => ?_)
  · rw [m_X4_wiseOf_2, if_pos (show (4 : Int32) ≤ nI 4 by decide)]
  · rw [m_X4_wiseOf_2, if_neg (show ¬ (4 : Int32) ≤ nI k from le_f (n := 4) hk (by omega)), wouldCountM_s R ha _ hd, h6, wcH_0, bs, if_bi, backOfG R hE h6 hF, bs, nm_d, nI_1]
    unfold wz
    cases wc S a (nI k) d
    · simp
    · by_cases h : gn S n (fa S n E (snH S n c 0 (T 0 7) d) a) d (nI k) (S 0 1) ≤ 0 <;> simp [h]
theorem snH_A {S : St} {n c : Nat} (hn : nA S n) (hk : nK S n c) (A d : Int32) : snH S n c 0 A d = sn S n c d &&& (A ^^^ (-1)) := by
  have h12 := hn.2
  rw [← snH_0 hn hk]
  apply b_ext
  intro i hi
  unfold snH
  rw [b_and, b_not _ hi, bt_mk _ hi n (by omega), bt_mk _ hi n (by omega)]
  unfold sdH
  rw [b_0]
  cases bt A i <;> simp
theorem ffr_c (P : Nat → Bool) : ∀ r k, (ffr P r k = -6 ∧ ∀ j, k ≤ j → j < k + r → P j = false) ∨ ∃ j, k ≤ j ∧ j < k + r ∧ P j = true ∧ ffr P r k = nI j ∧ ∀ i, k ≤ i → i < j → P i = false
  | 0, k => Or.inl ⟨rfl, fun j h1 h2 => by omega⟩
  | r + 1, k => by
    rw [ffr]
    cases e : P k with
    | true => exact Or.inr ⟨k, by omega, by omega, e, by simp, fun i h1 h2 => by omega⟩
    | false =>
      rw [if_neg (by simp)]
      rcases ffr_c P r (k + 1) with ⟨h1, h2⟩ | ⟨j, h1, h2, h3, h4, h5⟩
      · refine Or.inl ⟨h1, fun j g1 g2 => ?_⟩
        rcases Nat.eq_or_lt_of_le g1 with q | q
        · rw [← q]; exact e
        · exact h2 j q (by omega)
      · refine Or.inr ⟨j, by omega, by omega, h3, h4, fun i g1 g2 => ?_⟩
        rcases Nat.eq_or_lt_of_le g1 with q | q
        · rw [← q]; exact e
        · exact h5 i q g2
/-- somebody is wise for a -/
def wa (S : St) (n : Nat) (E x d : Int32) (a : Nat) : Bool := decide (¬ ffr (wz S n E x d a) 4 0 = -6)
theorem wa_in {S : St} {n : Nat} (hn : n ≤ 12) {E x d : Int32} {a : Nat} (ha : a < 32) (h : wa S n E x d a = true) : bt (Mo S n E x) a = true := by
  cases e : bt (Mo S n E x) a with
  | true => rfl
  | false =>
    exfalso
    have hf : fa S n E x a = 0 := by
      unfold fa
      rw [Mo_wo0 hn _ _ ha e, and_not_self]
    have hg : ∀ w r m, fo (gst S 0 d w r) m 0 = 0 := by
      intro w r m
      induction m with
      | zero => rfl
      | succ m ih => rw [fo, ih]; unfold gst; rw [b_0]; rfl
    have h1 := of_decide_eq_true h
    rcases ffr_c (wz S n E x d a) 4 0 with ⟨g1, -⟩ | ⟨j, -, -, g3, -, -⟩
    · exact h1 g1
    · unfold wz at g3
      rw [hf, Bool.and_eq_true, decide_eq_true_eq] at g3
      unfold gn at g3
      rw [hg] at g3
      exact g3.2 (by decide)
theorem firstWise_s {S : St} {n F : Nat} (hn : nA S n) (hT : nT S) (hg : nG S n) (hF : 5000 ≤ F) (d x : Int32) : m_X3_firstWiseAct F S d x = some (ffr (wa S n (EE S n) x d) n 0) := by
  have h12 := hn.2
  unfold m_X3_firstWiseAct
  refine ff_loop (m_X3_firstWiseAct_2 F S d x) n _ (by omega) (fun f => ?_) (fun f k hk => ?_)
  · rw [m_X3_firstWiseAct_2, hn.1, if_pos (le_t (Nat.le_refl n) (by omega))]
  · rw [m_X3_firstWiseAct_2, hn.1, if_neg (le_f hk (by omega)), wiseWho_s hn hT hg hF (by omega), bs, nm_d, nI_1]
    unfold wa
    by_cases h : ffr (wz S n (EE S n) x d k) 4 0 = -6 <;> simp [h]
theorem ffr_neg (P : Nat → Bool) {r : Nat} (hr : r ≤ 100) : (ffr P r 0 < 0) ↔ (ffr P r 0 = -6) := by
  rcases ffr_c P r 0 with ⟨h, -⟩ | ⟨j, -, h2, -, h4, -⟩
  · rw [h]; decide
  · rw [h4]
    exact ⟨fun q => absurd q (nI_pos (by omega)), fun q => absurd q (nI_m6 (by omega))⟩
theorem restIn {S T : St} {n c m F : Nat} (R : RB S T n c) (X : RX S T n m) (hF : 5000 ≤ F) {d : Int32} (hd : rg d 0 99) (p2 A : Int32) (K : St → Int32 → Int32 → Option (Int32 × St)) (r : Int32) :
    ∀ f k, k ≤ n → n + 1 < k + f → (∀ j, j < k → wa S n (EE S n) (sn S n c d &&& (A ^^^ (-1))) d j = false) →
      m_X4_rest_36 F d p2 K f (up T 0 7 A) r 0 (nI k) = if ffr (wa S n (EE S n) (sn S n c d &&& (A ^^^ (-1))) d) n 0 = -6 then K (up T 0 7 A) r 0 else K (up T 0 7 (A ||| one (ix (ffr (wa S n (EE S n) (sn S n c d &&& (A ^^^ (-1))) d) n 0)))) (r + 1) 1 := by
  have en : T 0 1 = nI n := R.2.2.2.1
  have h12 := R.1.2
  have R1 : RB S (up T 0 7 A) n c := R
  have hE0 := EM X
  have hE : ex ((up T 0 7 A) 0 2) ((up T 0 7 A) 0 0) = EE S n := hE0
  have h6 : (up T 0 7 A) 0 6 = 0 := X.2.2.2.1.1
  have h7 : (up T 0 7 A) 0 7 = A := rfl
  have en1 : (up T 0 7 A) 0 1 = nI n := en
  intro f
  induction f with
  | zero => intro k h1 h2; omega
  | succ f ih =>
    intro k h1 h2 h3
    rw [m_X4_rest_36, en1]
    rcases Nat.lt_or_ge k n with q | q
    · rw [if_neg (le_f q (by omega)), if_pos rfl, wiseOfG R1 hE h6 hF q hd, bs, nm_d, nm_d, nm_d, nI_1, h7, snH_A R.1 R.2.1, one_def, up_up]
      simp only [ffr_neg _ (show 4 ≤ 100 by omega)]
      cases e : wa S n (EE S n) (sn S n c d &&& (A ^^^ (-1))) d k with
      | false =>
        rw [if_pos (Classical.byContradiction (fun z => by have := decide_eq_true z; rw [show decide _ = wa S n (EE S n) (sn S n c d &&& (A ^^^ (-1))) d k from rfl, e] at this; cases this))]
        exact ih (k + 1) q (by omega) (fun j hj => by
          rcases Nat.lt_or_ge j k with g | g
          · exact h3 j g
          · rw [show j = k by omega]; exact e)
      | true =>
        rw [if_neg (of_decide_eq_true e)]
        have hk : ffr (wa S n (EE S n) (sn S n c d &&& (A ^^^ (-1))) d) n 0 = nI k := by
          rcases ffr_c (wa S n (EE S n) (sn S n c d &&& (A ^^^ (-1))) d) n 0 with ⟨-, g⟩ | ⟨j, -, -, g3, g4, g5⟩
          · rw [g k (by omega) (by omega)] at e; cases e
          · rcases Nat.lt_trichotomy j k with z | z | z
            · rw [h3 j z] at g3; cases g3
            · rw [g4, z]
            · rw [g5 k (by omega) z] at e; cases e
        rw [hk, if_neg (nI_m6 (by omega)), ix_nI (by omega)]
        obtain ⟨g, rfl⟩ : ∃ g, f = g + 1 := ⟨f - 1, by omega⟩
        rw [m_X4_rest_36, if_neg (show ¬ (1 : Int32) = 0 by decide)]
        split <;> rfl
    · have e : k = n := by omega
      subst e
      rw [if_pos (le_t (Nat.le_refl k) (by omega)), if_pos]
      rcases ffr_c (wa S k (EE S k) (sn S k c d &&& (A ^^^ (-1))) d) k 0 with ⟨g, -⟩ | ⟨j, -, g2, g3, -, -⟩
      · exact g
      · rw [h3 j (by omega)] at g3; cases g3
theorem rest_main {S T : St} {n c m F : Nat} (R : RB S T n c) (X : RX S T n m) (hF : 5000 ≤ F) {d : Int32} (hd : rg d 0 99) (p2 : Int32) : ∀ (b : Nat) (x A : Int32) (r f f' : Nat), x = sn S n c d &&& (A ^^^ (-1)) → cn n x ≤ b → cn n x + r ≤ 12 → b + 2 ≤ f → b + 2 ≤ f' → ∃ v, m_X3_rest_28 F S d p2 f x (nI r) = some v ∧ m_X4_rest_25 F d p2 f' (up T 0 7 A) (nI r) 1 = some (v, T) := by
  have hn := R.1
  have h12 := hn.2
  have hT := R.2.2.1
  have hE0 := EM X
  have hE1 : ∀ A, ex ((up T 0 7 A) 0 2) ((up T 0 7 A) 0 0) = EE S n := fun A => hE0
  have et : up T 0 7 0 = T := by
    have := up_self T 0 7
    rw [X.2.2.2.1.2] at this
    exact this
  intro b
  induction b with
  | zero =>
    intro x A r f f' hx hb hr hf hf'
    obtain ⟨g, rfl⟩ : ∃ g, f = g + 1 := ⟨f - 1, by omega⟩
    obtain ⟨g', rfl⟩ : ∃ g', f' = g' + 2 := ⟨f' - 2, by omega⟩
    have hno : ∀ j, j < n → wa S n (EE S n) x d j = false := fun j hj => by
      cases e : wa S n (EE S n) x d j with
      | false => rfl
      | true =>
        have h1 := Mo_sb _ _ _ _ j (by omega) (wa_in h12 (by omega) e)
        have h2 := cn_lt (sb_wo x j) (a := j) (by rw [bt_wo _ (by omega) (by omega)]; simp) h1 n (by omega) hj
        omega
    have hff : ffr (wa S n (EE S n) x d) n 0 = -6 := by
      rcases ffr_c (wa S n (EE S n) x d) n 0 with ⟨g, -⟩ | ⟨j, -, g2, g3, -, -⟩
      · exact g
      · rw [hno j (by omega)] at g3; cases g3
    refine ⟨if p2 = 0 then nI r else Mo S n (EE S n) x, ?_, ?_⟩
    · have h66 : m_X3_rest_66 F S d p2 x (nI r) = some (if p2 = 0 then nI r else Mo S n (EE S n) x) := by
        unfold m_X3_rest_66
        rw [exempt_s hn X.1 hF, bs, most_s hn hT hF, bs]
        split <;> rfl
      rw [m_X3_rest_28, firstWise_s hn hT X.1 hF, bs, hff, if_pos rfl, h66]
      split <;> rfl
    · rw [m_X4_rest_25, if_neg (show ¬ (1 : Int32) = 0 by decide)]
      have := restIn R X hF hd p2 A (fun z0 z1 z2 => m_X4_rest_25 F d p2 (g' + 1) z0 z1 z2) (nI r) F 0 (by omega) (by omega) (fun j hj => absurd hj (Nat.not_lt_zero j))
      have hin2 : m_X4_rest_36 F d p2 (fun z0 z1 z2 => m_X4_rest_25 F d p2 (g' + 1) z0 z1 z2) F (up T 0 7 A) (nI r) 0 0 = _ := this
      rw [hin2, ← hx, hff, if_pos rfl, m_X4_rest_25, if_pos rfl]
      have R1 : RB S (up T 0 7 A) n c := R
      rw [standingM_s R1 hF, bs, hE1 A, show (up T 0 7 A) 0 6 = 0 from X.2.2.2.1.1, show (up T 0 7 A) 0 7 = A from rfl, snH_A hn R.2.1, ← hx, up_up]
      rw [et]
      split <;> rfl
  | succ b ih =>
    intro x A r f f' hx hb hr hf hf'
    obtain ⟨g, rfl⟩ : ∃ g, f = g + 1 := ⟨f - 1, by omega⟩
    obtain ⟨g', rfl⟩ : ∃ g', f' = g' + 2 := ⟨f' - 2, by omega⟩
    have hin := restIn R X hF hd p2 A (fun z0 z1 z2 => m_X4_rest_25 F d p2 (g' + 1) z0 z1 z2) (nI r) F 0 (by omega) (by omega) (fun j hj => absurd hj (Nat.not_lt_zero j))
    rw [← hx] at hin
    rcases ffr_c (wa S n (EE S n) x d) n 0 with ⟨hff, -⟩ | ⟨a, -, ha, hwa, hff, -⟩
    · refine ⟨if p2 = 0 then nI r else Mo S n (EE S n) x, ?_, ?_⟩
      · have h66 : m_X3_rest_66 F S d p2 x (nI r) = some (if p2 = 0 then nI r else Mo S n (EE S n) x) := by
          unfold m_X3_rest_66
          rw [exempt_s hn X.1 hF, bs, most_s hn hT hF, bs]
          split <;> rfl
        rw [m_X3_rest_28, firstWise_s hn hT X.1 hF, bs, hff, if_pos rfl, h66]
        split <;> rfl
      · rw [m_X4_rest_25, if_neg (show ¬ (1 : Int32) = 0 by decide)]
        have hin2 : m_X4_rest_36 F d p2 (fun z0 z1 z2 => m_X4_rest_25 F d p2 (g' + 1) z0 z1 z2) F (up T 0 7 A) (nI r) 0 0 = _ := hin
        rw [hin2, hff, if_pos rfl, m_X4_rest_25, if_pos rfl]
        have R1 : RB S (up T 0 7 A) n c := R
        rw [standingM_s R1 hF, bs, hE1 A, show (up T 0 7 A) 0 6 = 0 from X.2.2.2.1.1, show (up T 0 7 A) 0 7 = A from rfl, snH_A hn R.2.1, ← hx, up_up]
        rw [et]
        split <;> rfl
    · have hbx := Mo_sb _ _ _ _ a (by omega) (wa_in h12 (by omega) hwa)
      have hlt := cn_lt (sb_wo x a) (a := a) (by rw [bt_wo _ (by omega) (by omega)]; simp) hbx n (by omega) (by omega)
      have hx' : wo x a = sn S n c d &&& ((A ||| one a) ^^^ (-1)) := by
        rw [hx]
        apply b_ext
        intro i hi
        rw [bt_wo _ (by omega) hi, b_and, b_and, b_not _ hi, b_not _ hi, b_or, b_one (by omega) hi]
        cases bt (sn S n c d) i <;> cases bt A i <;> simp
      obtain ⟨v, hv1, hv2⟩ := ih (wo x a) (A ||| one a) (r + 1) g (g' + 1) hx' (by omega) (by omega) (by omega) (by omega)
      refine ⟨v, ?_, ?_⟩
      · rw [m_X3_rest_28, if_neg (show ¬ (12 : Int32) ≤ nI r from le_f (n := 12) (by omega) (by omega)), firstWise_s hn hT X.1 hF, bs, hff, if_neg (nI_m6 (by omega)), without_s, bs, nm_d, nI_1]
        exact hv1
      · rw [m_X4_rest_25, if_neg (show ¬ (1 : Int32) = 0 by decide)]
        have hin2 : m_X4_rest_36 F d p2 (fun z0 z1 z2 => m_X4_rest_25 F d p2 (g' + 1) z0 z1 z2) F (up T 0 7 A) (nI r) 0 0 = _ := hin
        rw [hin2, hff, if_neg (nI_m6 (by omega)), ix_nI (by omega), nI_1]
        exact hv2
theorem p_rest {F : Nat} (hF : 5000 ≤ F) : sp_rest F Rel := by
  rintro S T p1 p2 ⟨n, c, m, R, X⟩
  have hn := R.1
  have h12 := hn.2
  have hrel : Rel S T := ⟨n, c, m, R, X⟩
  unfold m_X3_rest m_X4_rest
  rw [isDay_s, isDayM_s, bs, bs, if_bi, if_bi]
  cases hdy : rb p1 0 99 with
  | false => exact ⟨_, T, rfl, rfl, hrel⟩
  | true =>
    rw [if_pos rfl, if_pos rfl, within_s, inI_s, bs, bs, if_bi, if_bi, show (0 : Int64).toInt = (0 : Int32).toInt from rfl, show (1 : Int64).toInt = (1 : Int32).toInt from rfl]
    cases hb : rb p2 (0 : Int32).toInt (1 : Int32).toInt with
    | false => exact ⟨_, T, rfl, rfl, hrel⟩
    | true =>
      rw [if_pos rfl, if_pos rfl, soundOn_s hn R.2.1 hF, bs]
      have e0 : sn S n c p1 = sn S n c p1 &&& ((0 : Int32) ^^^ (-1)) := b_ext (fun i hi => by rw [b_and, b_not _ hi, b_0]; simp)
      obtain ⟨v, h1, h2⟩ := rest_main R X hF (rb_rg hdy) p2 12 (sn S n c p1) 0 0 F F e0 (by have := cn_le n (sn S n c p1); omega) (by have := cn_le n (sn S n c p1); omega) (by omega) (by omega)
      have et : up T 0 7 0 = T := by
        have := up_self T 0 7
        rw [X.2.2.2.1.2] at this
        exact this
      rw [et] at h2
      exact ⟨v, T, h1, h2, hrel⟩
