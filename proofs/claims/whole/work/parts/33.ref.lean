/-! the reference's readings over the class's state: what they answer -/
def hz (v : Int32) : Int32 := if v = -1 then -6 else v
/-- all of the two states but what the reference changes for a while: its good ones, its law, what is healed and asked too -/
def RB (S T : St) (n c : Nat) : Prop := nA S n ∧ nK S n c ∧ nT S ∧ T 0 1 = nI n ∧ T 0 3 = S 0 1 ∧ T 0 5 = nI c ∧
  (∀ a, a < n → T 1 a = S 4 a ∧ T 2 a = S 5 a ∧ T 3 a = S 6 a ∧ T 4 a = S 7 a ∧ T 5 a = S 15 a ∧ T 6 a = S 16 a ∧ T 7 a = hz (S 17 a)) ∧
  (∀ a, a < n → rg (S 4 a) 0 99 ∧ rg (S 5 a) 0 3 ∧ rg (S 6 a) 0 3 ∧ rg (S 15 a) 0 4 ∧ rg (S 16 a) 0 99 ∧ rg (S 17 a) (-1) 99) ∧
  (∀ a, a < 12 → T 9 a = S 9 a ∧ ∀ k, k < ix (S 9 a) → T 8 (20 * a + k) = S (19 + a) k) ∧
  (∀ k, k < c → T 11 k = S 11 k ∧ T 12 k = S 12 k ∧ T 13 k = S 13 k ∧ rg (S 12 k) 0 3 ∧ rg (S 13 k) 0 99)
theorem lt0 (x : Int32) : x < 0 ↔ x.toInt < 0 := by
  have := Int32.lt_iff_toInt_lt (x := x) (y := 0)
  simpa using this
theorem m1_toInt : (-1 : Int32).toInt = -1 := by decide
theorem rg_neg {x : Int32} (h : rg x (-1) 99) : x = -1 ∨ (¬ x = -1 ∧ 0 ≤ x.toInt) := by
  by_cases q : x = -1
  · exact Or.inl q
  · refine Or.inr ⟨q, ?_⟩
    have h1 : x.toInt ≠ -1 := fun e => q (Int32.toInt_inj.mp (by rw [e, m1_toInt]))
    have := h.1
    omega
def hdH (S : St) (HT : Int32) (a : Nat) (d : Int32) : Bool := bt HT a || hd S a d
theorem isHealedM_s {S T : St} {n c a : Nat} (R : RB S T n c) (ha : a < n) (d : Int32) : m_X4_isHealed T (nI a) d = some (bi (hdH S (T 0 6) a d)) := by
  obtain ⟨hn, hk, hT, -, -, -, hv, hr, -, -⟩ := R
  have h12 := hn.2
  obtain ⟨-, -, -, -, -, -, e7⟩ := hv a ha
  obtain ⟨-, -, -, -, -, r17⟩ := hr a ha
  unfold m_X4_isHealed hdH hd
  simp only [has_bit _ (show a < 32 by omega), gd_nI (show a < 12 by omega) (show 12 ≤ 1000 by omega), ix_nI (show a < 2 ^ 31 by omega), e7]
  cases bt (T 0 6) a
  · rcases rg_neg r17 with q | ⟨q, h0⟩
    · have e : hz (S 17 a) = -6 := by unfold hz; rw [if_pos q]
      rw [e, q]
      simp [bi]
    · have e : hz (S 17 a) = S 17 a := by unfold hz; rw [if_neg q]
      rw [e]
      have h1 : ¬ S 17 a < 0 := fun z => by have := (lt0 _).mp z; omega
      by_cases h2 : d < S 17 a <;> simp [q, h1, h2, bi]
  · simp [bi]
def wcH (S : St) (HT : Int32) (a : Nat) (w d : Int32) : Bool := lts S a w && (dn S a d && decide (¬ S 16 a < d - S 4 a) && !hdH S HT a d)
theorem wcH_0 (S : St) (a : Nat) (w d : Int32) : wcH S 0 a w d = wc S a w d := by
  unfold wcH wc itm hdH
  rw [b_0, Bool.false_or]
theorem sub_i {x y : Int32} (hx : rg x 0 99) (hy : rg y 0 99) : (x - y).toInt = x.toInt - y.toInt := by
  rw [Int32.toInt_sub]
  obtain ⟨a, b⟩ := hx
  obtain ⟨c, d⟩ := hy
  rw [Int.bmod_def]
  split <;> omega
theorem add_i {x y : Int32} (hx : rg x 0 99) (hy : rg y 0 99) : (x + y).toInt = x.toInt + y.toInt := by
  rw [Int32.toInt_add]
  obtain ⟨a, b⟩ := hx
  obtain ⟨c, d⟩ := hy
  rw [Int.bmod_def]
  split <;> omega
theorem wouldCountM_s {S T : St} {n c a : Nat} (R : RB S T n c) (ha : a < n) (w : Int32) {d : Int32} (hd0 : rg d 0 99) : m_X4_wouldCount T (nI a) w d = some (bi (wcH S (T 0 6) a w d)) := by
  have hH := isHealedM_s R ha d
  obtain ⟨hn, hk, hT, -, -, -, hv, hr, -, -⟩ := R
  have h12 := hn.2
  obtain ⟨e1, e2, e3, -, e5, e6, -⟩ := hv a ha
  obtain ⟨r4, -, -, -, r16, -⟩ := hr a ha
  unfold m_X4_wouldCount m_X4_wouldCount_30 m_X4_wouldCount_46 m_X4_wouldCount_50 m_X4_wouldCount_51
  simp only [gd_nI (show a < 12 by omega) (show 12 ≤ 1000 by omega), ix_nI (show a < 2 ^ 31 by omega), nm_d, e1, e2, e3, e5, e6, hH, bs, if_bi]
  have e : m_X4_in (Int32.toInt64 d) (Int32.toInt64 (S 4 a)) (Int32.toInt64 (S 4 a + S 16 a)) = some (bi (dn S a d && decide (¬ S 16 a < d - S 4 a))) := by
    rw [inI_s, t64, t64, add_i r4 r16]
    congr 2
    unfold rb dn
    rw [← Bool.decide_and]
    congr 1
    apply propext
    rw [Int32.lt_iff_toInt_lt, Int32.lt_iff_toInt_lt, sub_i hd0 r4]
    omega
  rw [e]
  simp only [bs, if_bi]
  unfold wcH lts
  generalize (dn S a d && decide (¬ S 16 a < d - S 4 a)) = B1
  generalize hdH S (T 0 6) a d = B2
  by_cases h4 : S 15 a = 4
  · cases B1 <;> cases B2 <;> simp [h4, bi]
  · by_cases h2 : S 15 a = 2
    · by_cases hw : w = S 5 a
      · subst hw
        cases B1 <;> cases B2 <;> simp [h2, bi]
      · have hw' : ¬ S 5 a = w := fun e => hw e.symm
        simp [h2, hw, hw', bi]
    · by_cases h3 : S 15 a = 3
      · by_cases hw : w = S 6 a
        · subst hw
          cases B1 <;> cases B2 <;> simp [h3, bi]
        · have hw' : ¬ S 6 a = w := fun e => hw e.symm
          simp [h3, hw, hw', bi]
      · simp [h4, h2, h3, bi]
theorem fo_or (P : Nat → Bool) (b0 : Bool) : ∀ j, fo (fun k b => b || P k) j b0 = (b0 || anyb j P)
  | 0 => by rw [fo, anyb, Bool.or_false]
  | j + 1 => by rw [fo, fo_or P b0 j, anyb, Bool.or_assoc]
/-- an asking that counts against a, with those healed too -/
def apH (S : St) (HT : Int32) (a : Nat) (d : Int32) (k : Nat) : Bool := decide (S 11 k = nI a) && (decide (¬ d < S 13 k) && wcH S HT a (S 12 k) (S 13 k))
theorem isAskedM_s {S T : St} {n c a F : Nat} (R : RB S T n c) (hF : 5000 ≤ F) (ha : a < n) (d : Int32) : m_X4_isAsked F T (nI a) d = some (bi (bt (T 0 7) a || anyb c (apH S (T 0 6) a d))) := by
  have hW := fun (w : Int32) {d : Int32} (h : rg d 0 99) => wouldCountM_s R ha w h
  obtain ⟨hn, hk, hT, -, -, ec, hv, hr, -, hak⟩ := R
  have h12 := hn.2
  have hc := hk.2.1
  have key : ∀ b0 : Bool, m_X4_isAsked_21 F T (nI a) d F (bi b0) 0 = some (bi (b0 || anyb c (apH S (T 0 6) a d))) := by
    intro b0
    rw [← fo_or]
    refine fo_loop (fun f b i => m_X4_isAsked_21 F T (nI a) d f (bi b) i) c (fun k b => b || apH S (T 0 6) a d k) (fun b => some (bi b)) (by omega) b0 (fun f b => ?_) (fun f b k hkc => ?_)
    · show m_X4_isAsked_21 F T (nI a) d (f + 1) (bi b) (nI c) = _
      rw [m_X4_isAsked_21, ec, if_pos (le_t (Nat.le_refl c) (by omega)), gd_bz]
    · show m_X4_isAsked_21 F T (nI a) d (f + 1) (bi b) (nI k) = m_X4_isAsked_21 F T (nI a) d f (bi (b || apH S (T 0 6) a d k)) (nI (k + 1))
      obtain ⟨e11, e12, e13, -, r13⟩ := hak k hkc
      rw [m_X4_isAsked_21, ec, if_neg (le_f hkc (by omega))]
      simp only [gd_nI (show k < 12 by omega) (show 12 ≤ 1000 by omega), ix_nI (show k < 2 ^ 31 by omega), nm_d, nI_1, e11, e12, e13, hW _ r13, bs, if_bi]
      unfold apH
      cases b
      · by_cases h1 : S 11 k = nI a
        · by_cases h2 : d < S 13 k
          · simp [h1, h2, bi]
          · cases h3 : wcH S (T 0 6) a (S 12 k) (S 13 k) <;> simp [h1, h2, bi]
        · simp [h1, bi]
      · simp [bi]
  unfold m_X4_isAsked
  simp only [has_bit _ (show a < 32 by omega)]
  cases bt (T 0 7) a
  · exact key false
  · exact key true
def sdH (S : St) (c : Nat) (HT AT : Int32) (d : Int32) (a : Nat) : Bool := dn S a d && !(decide (S 15 a = 1) && !hdH S HT a d) && !(bt AT a || anyb c (apH S HT a d))
theorem isSoundM_s {S T : St} {n c a F : Nat} (R : RB S T n c) (hF : 5000 ≤ F) (ha : a < n) (d : Int32) : m_X4_isSound F T (nI a) d = some (bi (sdH S c (T 0 6) (T 0 7) d a)) := by
  have hA := isAskedM_s R hF ha d
  have hH := isHealedM_s R ha d
  obtain ⟨hn, hk, hT, -, -, ec, hv, hr, -, hak⟩ := R
  have h12 := hn.2
  obtain ⟨e1, -, -, -, e5, -, -⟩ := hv a ha
  unfold m_X4_isSound m_X4_isSound_29
  simp only [gd_nI (show a < 12 by omega) (show 12 ≤ 1000 by omega), ix_nI (show a < 2 ^ 31 by omega), e1, e5, hA, hH, bs, if_bi]
  unfold sdH dn
  by_cases h1 : d < S 4 a
  · simp [h1, bi]
  · by_cases h2 : S 15 a = 1
    · cases hdH S (T 0 6) a d <;> cases (bt (T 0 7) a || anyb c (apH S (T 0 6) a d)) <;> simp [h1, h2, bi]
    · cases (bt (T 0 7) a || anyb c (apH S (T 0 6) a d)) <;> simp [h1, h2, bi]
def snH (S : St) (n c : Nat) (HT AT d : Int32) : Int32 := mk n (sdH S c HT AT d)
theorem soundOfM_s {S T : St} {n c F : Nat} (R : RB S T n c) (hF : 5000 ≤ F) (d : Int32) : m_X4_soundOf F T d = some (snH S n c (T 0 6) (T 0 7) d) := by
  have hn := R.1
  have en : T 0 1 = nI n := R.2.2.2.1
  have h12 := hn.2
  refine mk_loop (m_X4_soundOf_4 F T d) n _ (by omega) (fun f acc => ?_) (fun f acc i hi => ?_)
  · rw [m_X4_soundOf_4, en, if_pos (le_t (Nat.le_refl n) (by omega))]
  · rw [m_X4_soundOf_4, en, if_neg (le_f hi (by omega)), isSoundM_s R hF hi, bs, if_bi]
    simp only [nm_d, nI_1, one_def]
    cases sdH S c (T 0 6) (T 0 7) d i <;> simp
/-- what the class has of it -/
theorem apH_0 {S : St} {n c : Nat} (hn : nA S n) (hk : nK S n c) {a : Nat} (ha : a < n) (d : Int32) : anyb c (apH S 0 a d) = anyb c (fun k => ap S d k && decide (S 11 k = nI a)) := by
  have h12 := hn.2
  refine anyb_c (fun k hkc => ?_)
  unfold apH ap
  rw [wcH_0]
  by_cases e : S 11 k = nI a
  · rw [e, ix_nI (by omega)]
    simp
  · simp [e]
theorem snH_0 {S : St} {n c : Nat} (hn : nA S n) (hk : nK S n c) (d : Int32) : snH S n c 0 0 d = sn S n c d := by
  refine mk_congr n (fun a ha => ?_)
  unfold sdH sd ng hdH
  rw [apH_0 hn hk ha, b_0, Bool.false_or, Bool.false_or]
theorem heldM_s {S T : St} {n c a F : Nat} (R : RB S T n c) (hF : 5000 ≤ F) (ha : a < n) (x : Int32) : m_X4_isHeld F T (nI a) x = some (bi (bt (ex (T 0 2) (T 0 0)) a || hl S a x)) := by
  obtain ⟨hn, hk, hT, -, -, -, -, -, htx, -⟩ := R
  have h12 := hn.2
  obtain ⟨e9, e8⟩ := htx a (by omega)
  obtain ⟨j, hj, ej⟩ := hT a (by omega)
  have hj0 : ix (S 9 a) = j := by rw [ej]; exact ix_nI (by omega)
  rw [hj0] at e8
  have key : ∀ b0 : Bool, m_X4_isHeld_38 F T (nI a) x F (bi b0) 0 = some (bi (b0 || anyb j (hp S a x))) := by
    intro b0
    rw [← fo_or]
    refine fo_loop (fun f b i => m_X4_isHeld_38 F T (nI a) x f (bi b) i) j (fun k b => b || hp S a x k) (fun b => some (bi b)) (by omega) b0 (fun f b => ?_) (fun f b k hkj => ?_)
    · show m_X4_isHeld_38 F T (nI a) x (f + 1) (bi b) (nI j) = _
      rw [m_X4_isHeld_38, gd_nI (by omega) (by omega), ix_nI (by omega), e9, ej, if_pos (le_t (Nat.le_refl j) (by omega)), gd_bz]
    · show m_X4_isHeld_38 F T (nI a) x (f + 1) (bi b) (nI k) = m_X4_isHeld_38 F T (nI a) x f (bi (b || hp S a x k)) (nI (k + 1))
      have ei : (20 : Int32) * nI a + nI k = nI (20 * a + k) := by
        rw [show (20 : Int32) = nI 20 from rfl, pk_mul, nI_add]
      rw [m_X4_isHeld_38, gd_nI (by omega) (by omega), ix_nI (by omega), e9, ej, if_neg (le_f hkj (by omega)), ei, gd_nI (show 20 * a + k < 240 by omega) (by omega), ix_nI (by omega), e8 k hkj]
      simp only [nm_d, nI_1]
      unfold hp
      cases b
      · rw [if_pos (show bi false = 0 from rfl)]
        by_cases h1 : (S (19 + a) k &&& (x ^^^ (-1))) = 0
        · rw [if_pos h1, decide_eq_true h1]; rfl
        · rw [if_neg h1, decide_eq_false h1]; rfl
      · rw [if_neg (show ¬ bi true = 0 by decide)]; rfl
  have k0 : m_X4_isHeld_38 F T (nI a) x F 0 0 = some (bi (anyb j (hp S a x))) := key false
  have k1 : m_X4_isHeld_38 F T (nI a) x F 1 0 = some (bi true) := key true
  unfold m_X4_isHeld hl ex
  rw [hj0]
  simp only [gd_nI (show a < 12 by omega) (show 12 ≤ 1000 by omega), ix_nI (show a < 2 ^ 31 by omega), has_bit _ (show a < 32 by omega), e9]
  rw [k0, k1]
  by_cases h0 : S 9 a = 0
  · rw [if_pos h0, decide_eq_true h0]; simp
  · rw [if_neg h0, decide_eq_false h0, Bool.false_or]
    by_cases h1 : T 0 2 = 1
    · rw [if_pos h1, if_pos h1]
      cases bt (T 0 0) a <;> simp
    · rw [if_neg h1, if_neg h1, b_0, Bool.false_or]
theorem looseM_s {S T : St} {n c F : Nat} (R : RB S T n c) (hF : 5000 ≤ F) (x : Int32) : m_X4_loose F T x = some (un S n (ex (T 0 2) (T 0 0)) x) := by
  have hn := R.1
  have en : T 0 1 = nI n := R.2.2.2.1
  have h12 := hn.2
  refine mk_loop (m_X4_loose_4 F T x) n _ (by omega) (fun f acc => ?_) (fun f acc i hi => ?_)
  · rw [m_X4_loose_4, en, if_pos (le_t (Nat.le_refl n) (by omega))]
  · rw [m_X4_loose_4, en, if_neg (le_f hi (by omega)), heldM_s R hF hi, bs, if_bi]
    simp only [nm_d, nI_1, one_def, has_bit _ (show i < 32 by omega)]
    cases bt x i <;> cases bt (ex (T 0 2) (T 0 0)) i <;> cases hl S i x <;> simp
theorem mostM_loop {S T : St} {n c F : Nat} (R : RB S T n c) (hF : 5000 ≤ F) (p : Int32) : ∀ f x, cn n x < f → m_X4_mostOf_8 F T p f x (un S n (ex (T 0 2) (T 0 0)) x) = some (Mo S n (ex (T 0 2) (T 0 0)) x) := by
  have h12 := R.1.2
  intro f
  induction f with
  | zero => intro x h; omega
  | succ f ih =>
    intro x h
    rw [m_X4_mostOf_8]
    by_cases h0 : un S n (ex (T 0 2) (T 0 0)) x = 0
    · rw [if_pos h0, Mo_fix h0]
    · rw [if_neg h0, nm_d, looseM_s R hF, bs]
      have hg := gs_cn h12 h0
      have := ih (gs S n (ex (T 0 2) (T 0 0)) x) (by omega)
      rw [Mo_gs h12] at this
      exact this
theorem mostM_s {S T : St} {n c F : Nat} (R : RB S T n c) (hF : 5000 ≤ F) (x : Int32) : m_X4_mostOf F T x = some (Mo S n (ex (T 0 2) (T 0 0)) x) := by
  unfold m_X4_mostOf
  rw [looseM_s R hF, bs]
  exact mostM_loop R hF x F x (by have := cn_le n x; have := R.1.2; omega)
theorem standingM_s {S T : St} {n c F : Nat} (R : RB S T n c) (hF : 5000 ≤ F) (d : Int32) : m_X4_standing F T d = some (Mo S n (ex (T 0 2) (T 0 0)) (snH S n c (T 0 6) (T 0 7) d)) := by
  unfold m_X4_standing
  rw [soundOfM_s R hF, bs, mostM_s R hF, bs]
theorem isActM_s {S T : St} {n c : Nat} (R : RB S T n c) (p : Int32) : m_X4_isAct T p = some (bi (rb p 0 ((n : Int) - 1))) := by
  have en : T 0 1 = nI n := R.2.2.2.1
  have h12 := R.1.2
  unfold m_X4_isAct
  rw [en, inI_s, t64, bs, gd_bz]
  have e : (nI n - 1).toInt = (n : Int) - 1 := pk_sub_toInt (a := n) (b := 1) (by omega) (by omega)
  rw [e]; rfl
