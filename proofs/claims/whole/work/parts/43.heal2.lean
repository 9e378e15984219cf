/-! heal: the reference's search, and the two together -/
theorem sh_pow : ∀ n, n < 13 → (1 : Int32) <<< (nI n &&& 31) = nI (2 ^ n) := by decide +kernel
def enc : Option Nat → Int32
  | none => -6
  | some b => nI b
def hfin (p3 : Int32) (T : St) : Option Nat → Option (Int32 × St)
  | none => some (-5, T)
  | some b => if p3 = 0 then some (nI b, T) else some (nI (cn 12 (nI b)), T)
def hinv (P : Nat → Prop) (k : Nat) : Option Nat → Prop
  | none => ∀ j, j < k → ¬ P j
  | some b => b < k ∧ P b ∧ ∀ j, j < k → P j → lx b j
theorem hinv_keep {P : Nat → Prop} {k : Nat} : ∀ {o : Option Nat}, hinv P k o → (P k → ∃ b, o = some b ∧ lx b k) → hinv P (k + 1) o
  | none, h, hk => fun j hj hp => by
    rcases Nat.lt_or_ge j k with q | q
    · exact h j q hp
    · rw [show j = k by omega] at hp
      obtain ⟨b, e, -⟩ := hk hp
      cases e
  | some b, h, hk => ⟨by have := h.1; omega, h.2.1, fun j hj hp => by
    rcases Nat.lt_or_ge j k with q | q
    · exact h.2.2 j q hp
    · rw [show j = k by omega] at hp ⊢
      obtain ⟨b', e, hl⟩ := hk hp
      cases e
      exact hl⟩
theorem hinv_new {P : Nat → Prop} {k : Nat} : ∀ {o : Option Nat}, hinv P k o → P k → (∀ b, o = some b → cn 12 (nI k) < cn 12 (nI b)) → hinv P (k + 1) (some k)
  | none, h, hk, _ => ⟨by omega, hk, fun j hj hp => by
    rcases Nat.lt_or_ge j k with q | q
    · exact absurd hp (h j q)
    · rw [show j = k by omega]
      exact Or.inr ⟨rfl, Nat.le_refl _⟩⟩
  | some b, h, hk, hb => ⟨by omega, hk, fun j hj hp => by
    have hc := hb b rfl
    rcases Nat.lt_or_ge j k with q | q
    · rcases h.2.2 j q hp with g | g
      · exact Or.inl (by omega)
      · exact Or.inl (by omega)
    · rw [show j = k by omega]
      exact Or.inr ⟨rfl, Nat.le_refl _⟩⟩
theorem healM_loop {S T : St} {n c m F : Nat} (R : RB S T n c) (X : RX S T n m) (hF : 5000 ≤ F) (t d p3 : Int32) : ∀ (f k : Nat) (o : Option Nat) (v : Int32), k ≤ 2 ^ n → 2 ^ n < k + f → hinv (fz S n (EE S n) (sn S n c d) t d) k o →
    ∃ o', hinv (fz S n (EE S n) (sn S n c d) t d) (2 ^ n) o' ∧ m_X4_heal_79 F t d p3 f (up T 0 6 v) (flw S n) (enc o) (nI k) = hfin p3 T o' := by
  have h12 := R.1.2
  have hp := pow_le12 h12
  have en : T 0 1 = nI n := R.2.2.2.1
  have et : up T 0 6 0 = T := by
    have := up_self T 0 6
    rw [X.2.2.2.1.1] at this
    exact this
  intro f
  induction f with
  | zero => intro k o v h1 h2; omega
  | succ f ih =>
    intro k o v hk hf hi
    have en' : (up T 0 6 v) 0 1 = nI n := en
    rw [m_X4_heal_79, en', sh_pow n (by omega)]
    rcases Nat.lt_or_ge k (2 ^ n) with q | q
    · rw [if_neg (le_f q (by omega))]
      have keep : (fz S n (EE S n) (sn S n c d) t d k → ∃ b, o = some b ∧ lx b k) → ∀ v', ∃ o', hinv (fz S n (EE S n) (sn S n c d) t d) (2 ^ n) o' ∧ m_X4_heal_79 F t d p3 f (up T 0 6 v') (flw S n) (enc o) (nI (k + 1)) = hfin p3 T o' := fun h v' => ih (k + 1) o v' q (by omega) (hinv_keep hi h)
      have e122 : m_X4_heal_122 F t d p3 (fun z0 z1 z2 z3 => m_X4_heal_79 F t d p3 f z0 z1 z2 z3) (up T 0 6 v) (flw S n) (enc o) (nI k) = m_X4_heal_79 F t d p3 f (up T 0 6 v) (flw S n) (enc o) (nI (k + 1)) := by
        unfold m_X4_heal_122 m_X4_heal_123
        rw [if_pos rfl, nm_d, nI_1]
      have R1 : RB S (up T 0 6 (nI k)) n c := R
      have hE0 := EM X
      have e1 : ex ((up T 0 6 (nI k)) 0 2) ((up T 0 6 (nI k)) 0 0) = EE S n := hE0
      have e2 : (up T 0 6 (nI k)) 0 6 = nI k := rfl
      have e3 : (up T 0 6 (nI k)) 0 7 = 0 := X.2.2.2.1.2
      have hst : m_X4_standing F (up T 0 6 (nI k)) d = some (Mo S n (EE S n) (sn S n c d ||| (nI k &&& dd S n d))) := by
        rw [standingM_s R1 hF, e1, e2, e3, snH_H R.1 R.2.1]
      have e118 : m_X4_heal_118 F t d p3 (fun z0 z1 z2 z3 => m_X4_heal_79 F t d p3 f z0 z1 z2 z3) (up T 0 6 v) (flw S n) (enc o) (nI k) = if (t &&& (Mo S n (EE S n) (sn S n c d ||| (nI k &&& dd S n d)) ^^^ (-1))) = 0 then m_X4_heal_79 F t d p3 f (up T 0 6 (nI k)) (flw S n) (enc (some k)) (nI (k + 1)) else m_X4_heal_79 F t d p3 f (up T 0 6 (nI k)) (flw S n) (enc o) (nI (k + 1)) := by
        unfold m_X4_heal_118 m_X4_heal_123
        rw [if_neg (by decide), up_up, hst, bs]
        simp only [nm_d, nI_1]
        rfl
      have step : sb (nI k) (flw S n) → (∀ b, o = some b → cn 12 (nI k) < cn 12 (nI b)) → ∃ o', hinv (fz S n (EE S n) (sn S n c d) t d) (2 ^ n) o' ∧ m_X4_heal_118 F t d p3 (fun z0 z1 z2 z3 => m_X4_heal_79 F t d p3 f z0 z1 z2 z3) (up T 0 6 v) (flw S n) (enc o) (nI k) = hfin p3 T o' := fun hfl hb => by
        rw [e118]
        by_cases hs : (t &&& (Mo S n (EE S n) (sn S n c d ||| (nI k &&& dd S n d)) ^^^ (-1))) = 0
        · rw [if_pos hs]
          exact ih (k + 1) (some k) _ q (by omega) (hinv_new hi ⟨hfl, (sub_iff _ _).mp hs⟩ hb)
        · rw [if_neg hs]
          exact keep (fun h => absurd ((sub_iff _ _).mpr h.2) hs) _
      by_cases hfl : (nI k &&& (flw S n ^^^ (-1))) = 0
      · rw [if_pos hfl]
        have hfl' := (sub_iff _ _).mp hfl
        cases o with
        | none =>
          rw [if_pos (show enc none < 0 by decide)]
          exact step hfl' (fun b e => by cases e)
        | some b =>
          have hb : b < k := hi.1
          have hbI : ¬ enc (some b) < 0 := nI_pos (n := b) (by omega)
          have eb : m_X4_ones F (enc (some b)) = some (nI (cn 12 (nI b))) := ones_s hF (nI b)
          rw [if_neg hbI, ones_s hF, bs, eb, bs]
          have c1 := cn_le 12 (nI b)
          have c2 := cn_le 12 (nI k)
          by_cases hc : nI (cn 12 (nI b)) ≤ nI (cn 12 (nI k))
          · rw [if_pos hc, e122]
            have hc' := (nI_leI (by omega) (by omega)).mp hc
            refine keep (fun _ => ⟨b, rfl, ?_⟩) v
            rcases Nat.lt_or_ge (cn 12 (nI b)) (cn 12 (nI k)) with g | g
            · exact Or.inl g
            · exact Or.inr ⟨by omega, by omega⟩
          · rw [if_neg hc]
            refine step hfl' (fun b' e => ?_)
            cases e
            exact Nat.not_le.mp (fun z => hc ((nI_leI (by omega) (by omega)).mpr z))
      · rw [if_neg hfl, e122]
        exact keep (fun h => absurd ((sub_iff _ _).mpr h.1) hfl) v
    · have ek : k = 2 ^ n := by omega
      rw [if_pos (le_t q (by omega)), up_up, et]
      rw [ek] at hi
      refine ⟨o, hi, ?_⟩
      cases o with
      | none => rw [if_neg (show ¬ 0 ≤ enc none by decide)]; rfl
      | some b =>
        have hb : b < 2 ^ n := hi.1
        have h0 : (0 : Int32) ≤ enc (some b) := le_t (n := 0) (Nat.zero_le b) (by omega)
        have eb : m_X4_ones F (enc (some b)) = some (nI (cn 12 (nI b))) := ones_s hF (nI b)
        rw [if_pos h0, eb, bs]; rfl
theorem healM_s {S T : St} {n c m F : Nat} (R : RB S T n c) (X : RX S T n m) (hF : 5000 ≤ F) (t d p3 : Int32) : ∃ o', hinv (fz S n (EE S n) (sn S n c d) t d) (2 ^ n) o' ∧ m_X4_heal_34 F t d p3 F T 0 0 = hfin p3 T o' := by
  have h12 := R.1.2
  have hp := pow_le12 h12
  have en : T 0 1 = nI n := R.2.2.2.1
  have h := fo_loop (fun f acc i => m_X4_heal_34 F t d p3 f T acc i) n (fun i acc => acc ||| (if decide (¬ S 15 i ≤ 0) = true then one i else 0)) (fun acc => m_X4_heal_79 F t d p3 F T acc (-6) 0) (F := F) (by omega) 0 (fun f acc => ?_) (fun f acc i hi => ?_)
  · rw [show m_X4_heal_34 F t d p3 F T 0 0 = _ from h, fo_mk]
    have h2 := healM_loop R X hF t d p3 F 0 none (T 0 6) (Nat.zero_le _) (by omega) (fun j hj => absurd hj (Nat.not_lt_zero j))
    rw [up_self] at h2
    exact h2
  · show m_X4_heal_34 F t d p3 (f + 1) T acc (nI n) = _
    rw [m_X4_heal_34, en, if_pos (le_t (Nat.le_refl n) (by omega))]
  · show m_X4_heal_34 F t d p3 (f + 1) T acc (nI i) = _
    obtain ⟨-, -, -, -, e5, -, -⟩ := R.2.2.2.2.2.2.1 i hi
    rw [m_X4_heal_34, en, if_neg (le_f hi (by omega)), gd_nI (show i < 12 by omega) (by omega), ix_nI (by omega), e5]
    simp only [nm_d, nI_1, one_def]
    by_cases h0 : S 15 i ≤ 0 <;> simp [h0]
theorem p_heal {F : Nat} (hF : 5000 ≤ F) : sp_heal F Rel := by
  rintro S T p1 p2 p3 ⟨n, c, m, R, X⟩
  have hn := R.1
  have h12 := hn.2
  have hT := R.2.2.1
  have hrel : Rel S T := ⟨n, c, m, R, X⟩
  have hp := pow_le12 h12
  unfold m_X3_heal m_X4_heal
  rw [hasAll_s hn, isSetM_s R, bs, bs, if_bi, if_bi]
  cases hset : rb p1 0 (ev n).toInt with
  | false => exact ⟨_, T, rfl, rfl, hrel⟩
  | true =>
    rw [if_pos rfl, if_pos rfl, isDay_s, isDayM_s, bs, bs, if_bi, if_bi]
    cases hdy : rb p2 0 99 with
    | false => exact ⟨_, T, rfl, rfl, hrel⟩
    | true =>
      rw [if_pos rfl, if_pos rfl, within_s, inI_s, bs, bs, if_bi, if_bi, show (0 : Int64).toInt = (0 : Int32).toInt from rfl, show (1 : Int64).toInt = (1 : Int32).toInt from rfl]
      cases hw : rb p3 (0 : Int32).toInt (1 : Int32).toInt with
      | false => exact ⟨_, T, rfl, rfl, hrel⟩
      | true =>
        rw [if_pos rfl, if_pos rfl]
        obtain ⟨o, ho, eo⟩ := healM_s R X hF p1 p2 p3
        rw [eo]
        rcases few_s hn R.2.1 hT X.1 hF (t := p1) (d := p2) with ⟨e, hno⟩ | ⟨b, hb, e, hfb, hmin⟩
        · rw [e, bs, if_pos rfl]
          cases o with
          | none => exact ⟨_, T, rfl, rfl, hrel⟩
          | some b => exact absurd ho.2.1 (hno b)
        · rw [e, bs, if_neg (nI_m6 (by omega))]
          cases o with
          | none => exact absurd hfb (ho b hb)
          | some b' =>
            have hb' : b' < 2 ^ n := ho.1
            have eb : b = b' := lx_u (hmin b' (by omega) ho.2.1) (ho.2.2 b hb hfb)
            subst eb
            have hl : low (nI b) 12 := low_of (n := 12) (by omega)
            rw [bitCount_s hl, bs]
            rw [show hfin p3 T (some b) = if p3 = 0 then some (nI b, T) else some (nI (cn 12 (nI b)), T) from rfl]
            by_cases h3 : p3 = 0
            · rw [if_pos h3]
              exact ⟨_, T, rfl, if_pos h3, hrel⟩
            · rw [if_neg h3]
              exact ⟨_, T, rfl, if_neg h3, hrel⟩
