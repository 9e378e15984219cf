/-! the calls that write, but leans -/
theorem up_row {S : St} {k j : Nat} {v : Int32} (h : k < 19) (a : Nat) : up S k j v (19 + a) = S (19 + a) := by
  unfold up
  rw [if_neg (by omega)]
theorem upd_ne {f : Nat → Int32} {j k : Nat} {v : Int32} (h : k ≠ j) : upd f j v k = f k := by
  unfold upd
  rw [if_neg h]
theorem upd_eq {f : Nat → Int32} {j : Nat} {v : Int32} : upd f j v j = v := by
  unfold upd
  rw [if_pos rfl]
theorem RB_congr {S S' T T' : St} {n c : Nat} (h : RB S T n c) (s0 : S' 0 1 = S 0 1) (s1 : S' 1 0 = S 1 0) (s2 : S' 2 0 = S 2 0) (sk : ∀ k, k = 4 ∨ k = 5 ∨ k = 6 ∨ k = 7 ∨ k = 9 ∨ k = 11 ∨ k = 12 ∨ k = 13 ∨ k = 15 ∨ k = 16 ∨ k = 17 → S' k = S k) (sr : ∀ a, S' (19 + a) = S (19 + a))
    (t1 : T' 0 1 = T 0 1) (t3 : T' 0 3 = T 0 3) (t5 : T' 0 5 = T 0 5) (tk : ∀ k, (0 < k ∧ k < 10) ∨ (10 < k ∧ k < 14) → T' k = T k) : RB S' T' n c := by
  obtain ⟨h1, h2, h3, h4, h5, h6, h7, h8, h9, h10⟩ := h
  refine ⟨⟨by rw [s1]; exact h1.1, h1.2⟩, ⟨by rw [s2]; exact h2.1, h2.2.1, fun k hk => by rw [sk 11 (by omega)]; exact h2.2.2 k hk⟩, fun a ha => by rw [sk 9 (by omega)]; exact h3 a ha, by rw [t1]; exact h4, by rw [t3, s0]; exact h5, by rw [t5]; exact h6, fun a ha => ?_, fun a ha => ?_, fun a ha => ?_, fun k hk => ?_⟩
  · rw [tk 1 (by omega), tk 2 (by omega), tk 3 (by omega), tk 4 (by omega), tk 5 (by omega), tk 6 (by omega), tk 7 (by omega), sk 4 (by omega), sk 5 (by omega), sk 6 (by omega), sk 7 (by omega), sk 15 (by omega), sk 16 (by omega), sk 17 (by omega)]
    exact h7 a ha
  · rw [sk 4 (by omega), sk 5 (by omega), sk 6 (by omega), sk 15 (by omega), sk 16 (by omega), sk 17 (by omega)]
    exact h8 a ha
  · rw [tk 9 (by omega), tk 8 (by omega), sk 9 (by omega), sr a]
    exact h9 a ha
  · rw [tk 11 (by omega), tk 12 (by omega), tk 13 (by omega), sk 11 (by omega), sk 12 (by omega), sk 13 (by omega)]
    exact h10 k hk
theorem up_ne {S : St} {k j : Nat} {v : Int32} {a : Nat} (h : a ≠ k) : up S k j v a = S a := by
  unfold up
  rw [if_neg h]
theorem p_law {F : Nat} : sp_law F Rel := by
  rintro S T p1 p2 ⟨n, c, m, R, X⟩
  have hrel : Rel S T := ⟨n, c, m, R, X⟩
  obtain ⟨x1, x2, x3, x4, x5, x6⟩ := id X
  unfold m_X3_law m_X4_law m_X3_law_25 m_X4_law_24 m_X4_law_48
  rw [within_s, within_s, inI_s, inI_s, inI_s, bs, bs, bs, bs, bs, if_bi, if_bi, if_bi, if_bi, if_bi, nm_d, nm_d, show (0 : Int64).toInt = (0 : Int32).toInt from rfl, show (1 : Int64).toInt = (1 : Int32).toInt from rfl, show (9 : Int64).toInt = (9 : Int32).toInt from rfl]
  by_cases h0 : p1 = 0
  · subst h0
    have e0 : rb 0 (0 : Int32).toInt (1 : Int32).toInt = true := by decide
    rw [e0]
    simp only [if_true]
    cases h : rb p2 (0 : Int32).toInt (1 : Int32).toInt with
    | false => exact ⟨-2, S, T, by simp, by simp, hrel⟩
    | true =>
      refine ⟨S 0 0, up S 0 0 p2, up T 0 2 p2, by simp, by simp [x2.1], n, c, m, ?_, ?_⟩
      · exact RB_congr R rfl rfl rfl (fun k hk => up_ne (by omega)) (fun a => up_row (by omega) a) rfl rfl rfl (fun k hk => up_ne (by omega))
      · exact ⟨x1, ⟨rfl, rb_rg h, x2.2.2⟩, x3, x4, x5, x6⟩
  · by_cases h1 : p1 = 1
    · subst h1
      have e0 : rb 1 (0 : Int32).toInt (1 : Int32).toInt = true := by decide
      rw [e0]
      simp only [if_true, if_neg h0]
      cases h : rb p2 (0 : Int32).toInt (9 : Int32).toInt with
      | false => exact ⟨-2, S, T, by simp, by simp, hrel⟩
      | true =>
        refine ⟨S 0 1, up S 0 1 p2, up T 0 3 p2, by simp, by simp [R.2.2.2.2.1], n, c, m, ?_, ?_⟩
        · obtain ⟨h1, h2, h3, h4, h5, h6, h7, h8, h9, h10⟩ := R
          refine ⟨h1, h2, h3, h4, rfl, h6, h7, h8, fun a ha => ?_, h10⟩
          rw [up_row (by omega) a]
          exact h9 a ha
        · exact ⟨x1, ⟨x2.1, x2.2.1, rb_rg h⟩, x3, x4, x5, x6⟩
    · have e0 : rb p1 (0 : Int32).toInt (1 : Int32).toInt = false := by
        cases e : rb p1 (0 : Int32).toInt (1 : Int32).toInt with
        | false => rfl
        | true =>
          obtain ⟨j, hj, ej⟩ := rb_nI (n := 2) (p := p1) e
          rcases (show j = 0 ∨ j = 1 by omega) with rfl | rfl
          · exact absurd ej h0
          · exact absurd ej h1
      rw [e0, if_neg h0, if_neg h1]
      exact ⟨-2, S, T, rfl, rfl, hrel⟩
theorem p_say {F : Nat} : sp_say F Rel := by
  rintro S T p1 ⟨n, c, m, R, X⟩
  have hrel : Rel S T := ⟨n, c, m, R, X⟩
  obtain ⟨x1, x2, x3, x4, ⟨x51, x52, x53, x54⟩, x6⟩ := id X
  unfold m_X3_say m_X4_say m_X2_add
  rw [within_s, inI_s, bs, bs, if_bi, if_bi, show (33 : Int64).toInt = (33 : Int32).toInt from rfl, show (126 : Int64).toInt = (126 : Int32).toInt from rfl, x51, x52]
  cases h : rb p1 (33 : Int32).toInt (126 : Int32).toInt with
  | false => exact ⟨-2, S, T, rfl, rfl, hrel⟩
  | true =>
    simp only [if_true]
    rcases Nat.lt_or_ge m 40 with q | q
    · rw [if_pos (show nI m < (40 : Int32) from nI_lt (b := 40) q (by omega)), if_neg (show ¬ nI m = (40 : Int32) from fun e => by have := (nI_eq (b := 40) (by omega) (by omega)).mp e; omega), gd_nI q (by omega), gd_nI q (by omega), bs, ix_nI (by omega), nI_1]
      refine ⟨nI (m + 1), up (up S 14 m p1) 3 0 (nI (m + 1)), up (up T 10 m p1) 0 4 (nI (m + 1)), rfl, rfl, n, c, m + 1, ?_, ?_⟩
      · exact RB_congr R rfl rfl rfl (fun k hk => (up_ne (by omega)).trans (up_ne (by omega))) (fun a => (up_row (by omega) a).trans (up_row (by omega) a)) rfl rfl rfl (fun k hk => (up_ne (by omega)).trans (up_ne (by omega)))
      · refine ⟨x1, x2, x3, x4, ⟨rfl, rfl, by omega, fun k hk => ?_⟩, x6⟩
        show upd (T 10) m p1 k = upd (S 14) m p1 k
        by_cases e : k = m
        · rw [e, upd_eq, upd_eq]
        · rw [upd_ne e, upd_ne e]
          exact x54 k (by omega)
    · have em : m = 40 := by omega
      subst em
      rw [if_neg (show ¬ nI 40 < (40 : Int32) by decide), if_pos (show nI 40 = (40 : Int32) from rfl)]
      exact ⟨-4, S, T, rfl, rfl, hrel⟩
theorem p_wipe {F : Nat} : sp_wipe F Rel := by
  rintro S T ⟨n, c, m, R, X⟩
  obtain ⟨x1, x2, x3, x4, ⟨x51, x52, x53, x54⟩, x6⟩ := id X
  unfold m_X3_wipe m_X4_wipe m_X2_clear
  rw [nm_d, nm_d, bs, x51, x52]
  refine ⟨nI m, up S 3 0 0, up T 0 4 0, rfl, rfl, n, c, 0, ?_, ?_⟩
  · exact RB_congr R rfl rfl rfl (fun k hk => up_ne (by omega)) (fun a => up_row (by omega) a) rfl rfl rfl (fun k hk => up_ne (by omega))
  · exact ⟨x1, x2, x3, x4, ⟨rfl, rfl, by omega, fun k hk => absurd hk (Nat.not_lt_zero k)⟩, x6⟩
theorem p_drop {F : Nat} : sp_drop F Rel := by
  rintro S T ⟨n, c, m, R, X⟩
  have hrel : Rel S T := ⟨n, c, m, R, X⟩
  have hX := id X
  obtain ⟨h1, h2, h3, h4, h5, h6, h7, h8, h9, h10⟩ := id R
  have hc := h2.2.1
  unfold m_X3_drop m_X4_drop
  rw [h2.1, h6]
  rcases Nat.eq_zero_or_pos c with q | q
  · subst q
    rw [if_pos (show nI 0 = 0 from rfl), if_pos (show nI 0 = 0 from rfl)]
    exact ⟨-5, S, T, rfl, rfl, hrel⟩
  · obtain ⟨b, rfl⟩ : ∃ b, c = b + 1 := ⟨c - 1, by omega⟩
    rw [if_neg (nI_ne0 q (by omega)), if_neg (nI_ne0 q (by omega)), nI_pred]
    refine ⟨nI b, up S 2 0 (nI b), up T 0 5 (nI b), rfl, rfl, n, b, m, ?_, ?_⟩
    · refine ⟨h1, ⟨rfl, by omega, fun k hk => h2.2.2 k (by omega)⟩, h3, h4, h5, rfl, h7, h8, fun a ha => ?_, fun k hk => h10 k (by omega)⟩
      rw [up_row (by omega) a]
      exact h9 a ha
    · exact X
theorem p_ask {F : Nat} : sp_ask F Rel := by
  rintro S T p1 p2 p3 ⟨n, c, m, R, X⟩
  have hrel : Rel S T := ⟨n, c, m, R, X⟩
  obtain ⟨h1, h2, h3, h4, h5, h6, h7, h8, h9, h10⟩ := id R
  have hc := h2.2.1
  have h12 := h1.2
  unfold m_X3_ask m_X4_ask m_X1_add
  rw [has_s h1, isActM_s R, bs, bs, if_bi, if_bi]
  cases ha : rb p1 0 ((n : Int) - 1) with
  | false => exact ⟨-1, S, T, rfl, rfl, hrel⟩
  | true =>
  obtain ⟨a, han, rfl⟩ := rb_nI ha
  rw [if_pos rfl, if_pos rfl, isWho_s, isWhoM_s, bs, bs, if_bi, if_bi]
  cases hw : rb p2 0 3 with
  | false => exact ⟨-1, S, T, rfl, rfl, hrel⟩
  | true =>
  rw [if_pos rfl, if_pos rfl, isDay_s, isDayM_s, bs, bs, if_bi, if_bi]
  cases hdy : rb p3 0 99 with
  | false => exact ⟨-2, S, T, rfl, rfl, hrel⟩
  | true =>
  rw [if_pos rfl, if_pos rfl, h2.1, h6]
  rcases Nat.lt_or_ge c 12 with q | q
  · rw [if_pos (show nI c < (12 : Int32) from nI_lt (b := 12) q (by omega)), if_neg (show ¬ nI c = (12 : Int32) from fun e => by have := (nI_eq (b := 12) (by omega) (by omega)).mp e; omega)]
    simp only [gd_nI q (show 12 ≤ 1000 by omega), bs, ix_nI (show c < 2 ^ 31 by omega), nI_1, nI_pred]
    refine ⟨nI c, up (up (up (up S 11 c (nI a)) 12 c p2) 13 c p3) 2 0 (nI (c + 1)), up (up (up (up T 11 c (nI a)) 12 c p2) 13 c p3) 0 5 (nI (c + 1)), rfl, rfl, n, c + 1, m, ?_, ?_⟩
    · have key : ∀ k, k < c + 1 → k = c ∨ (k ≠ c ∧ k < c) := fun k hk => by omega
      refine ⟨h1, ⟨rfl, by omega, fun k hk => ?_⟩, h3, h4, h5, rfl, h7, h8, fun b hb => ?_, fun k hk => ?_⟩
      · show ∃ b, b < n ∧ upd (S 11) c (nI a) k = nI b
        rcases key k hk with e | ⟨e, hkc⟩
        · rw [e, upd_eq]; exact ⟨a, han, rfl⟩
        · rw [upd_ne e]; exact h2.2.2 k hkc
      · rw [up_row (by omega) b, up_row (by omega) b, up_row (by omega) b, up_row (by omega) b]
        exact h9 b hb
      · show upd (T 11) c (nI a) k = upd (S 11) c (nI a) k ∧ upd (T 12) c p2 k = upd (S 12) c p2 k ∧ upd (T 13) c p3 k = upd (S 13) c p3 k ∧ rg (upd (S 12) c p2 k) 0 3 ∧ rg (upd (S 13) c p3 k) 0 99
        rcases key k hk with e | ⟨e, hkc⟩
        · rw [e]
          simp only [upd_eq]
          exact ⟨trivial, trivial, trivial, rb_rg hw, rb_rg hdy⟩
        · simp only [upd_ne e]
          exact h10 k hkc
    · exact X
  · have em : c = 12 := by omega
    subst em
    rw [if_neg (show ¬ nI 12 < (12 : Int32) by decide), if_pos (show nI 12 = (12 : Int32) from rfl)]
    exact ⟨-4, S, T, rfl, rfl, hrel⟩
theorem p_free {F : Nat} : sp_free F Rel := by
  rintro S T p1 ⟨n, c, m, R, X⟩
  have hrel : Rel S T := ⟨n, c, m, R, X⟩
  obtain ⟨x1, x2, x3, x4, x5, x6⟩ := id X
  obtain ⟨h1, h2, h3, h4, h5, h6, h7, h8, h9, h10⟩ := id R
  have h12 := h1.2
  unfold m_X3_free m_X4_free
  rw [has_s h1, isActM_s R, bs, bs, if_bi, if_bi]
  cases ha : rb p1 0 ((n : Int) - 1) with
  | false => exact ⟨-1, S, T, rfl, rfl, hrel⟩
  | true =>
  obtain ⟨a, han, rfl⟩ := rb_nI ha
  rw [if_pos rfl, if_pos rfl]
  simp only [gd_nI (show a < 12 by omega) (show 12 ≤ 1000 by omega), ix_nI (show a < 2 ^ 31 by omega), nm_d]
  refine ⟨S 9 a, up S 9 a 0, up T 9 a 0, rfl, by rw [(h9 a (by omega)).1], n, c, m, ?_, ?_⟩
  · refine ⟨h1, h2, fun b hb => ?_, h4, h5, h6, h7, h8, fun b hb => ?_, h10⟩
    · show ∃ j, j ≤ 20 ∧ upd (S 9) a 0 b = nI j
      by_cases e : b = a
      · rw [e, upd_eq]; exact ⟨0, by omega, rfl⟩
      · rw [upd_ne e]; exact h3 b hb
    · rw [up_row (by omega) b]
      show upd (T 9) a 0 b = upd (S 9) a 0 b ∧ ∀ k, k < ix (upd (S 9) a 0 b) → T 8 (20 * b + k) = S (19 + b) k
      by_cases e : b = a
      · rw [e, upd_eq, upd_eq]
        exact ⟨rfl, fun k hk => absurd hk (by rw [show ix 0 = 0 from rfl]; exact Nat.not_lt_zero k)⟩
      · rw [upd_ne e, upd_ne e]; exact h9 b hb
  · refine ⟨x1, x2, x3, x4, x5, fun b hb hb2 => ?_⟩
    obtain ⟨y1, y2, y3, y4, y5, y6⟩ := x6 b hb hb2
    refine ⟨y1, y2, y3, y4, ?_, y6⟩
    show upd (S 9) a 0 b = 0
    rw [upd_ne (by omega)]; exact y5
theorem p_act {F : Nat} : sp_act F Rel := by
  rintro S T p1 p2 p3 p4 ⟨n, c, m, R, X⟩
  have hrel : Rel S T := ⟨n, c, m, R, X⟩
  obtain ⟨x1, x2, x3, x4, x5, x6⟩ := id X
  obtain ⟨h1, h2, h3, h4, h5, h6, h7, h8, h9, h10⟩ := id R
  have h12 := h1.2
  unfold m_X3_act m_X4_act m_X0_add
  rw [isWho_s, isWhoM_s, isWho_s, isWhoM_s, isDay_s, isDayM_s, within_s, inI_s, show (0 : Int64).toInt = 0 from rfl, show (99 : Int64).toInt = 99 from rfl, show (0 : Int32).toInt = 0 from rfl, show (99 : Int32).toInt = 99 from rfl]
  simp only [bs, if_bi]
  cases hw2 : rb p2 0 3 with
  | false => exact ⟨-1, S, T, rfl, rfl, hrel⟩
  | true =>
  cases hw3 : rb p3 0 3 with
  | false => exact ⟨-1, S, T, rfl, rfl, hrel⟩
  | true =>
  simp only [if_true]
  by_cases h23 : p2 = p3
  · rw [if_pos h23, if_pos h23]
    exact ⟨-1, S, T, rfl, rfl, hrel⟩
  rw [if_neg h23, if_neg h23]
  cases hdy : rb p1 0 99 with
  | false => exact ⟨-2, S, T, rfl, rfl, hrel⟩
  | true =>
  cases hwo : rb p4 0 99 with
  | false => exact ⟨-2, S, T, rfl, rfl, hrel⟩
  | true =>
  simp only [if_true]
  rw [h1.1, h4]
  rcases Nat.lt_or_ge n 12 with q | q
  · rw [if_pos (show nI n < (12 : Int32) from nI_lt (b := 12) q (by omega)), if_neg (show ¬ nI n = (12 : Int32) from fun e => by have := (nI_eq (b := 12) (by omega) (by omega)).mp e; omega)]
    simp only [gd_nI q (show 12 ≤ 1000 by omega), bs, ix_nI (show n < 2 ^ 31 by omega), nI_1, nI_pred]
    refine ⟨nI n, up (up (up (up (up S 4 n p1) 5 n p2) 6 n p3) 7 n p4) 1 0 (nI (n + 1)), up (up (up (up (up (up (up T 1 n p1) 2 n p2) 3 n p3) 4 n p4) 6 n 99) 7 n (-6)) 0 1 (nI (n + 1)), rfl, rfl, n + 1, c, m, ?_, ?_⟩
    · have key : ∀ a, a < n + 1 → a = n ∨ (a ≠ n ∧ a < n) := fun a ha => by omega
      obtain ⟨y1, y2, y3, y4, y5, y6⟩ := x6 n (Nat.le_refl n) q
      refine ⟨⟨rfl, by omega⟩, ⟨h2.1, h2.2.1, fun k hk => ?_⟩, h3, rfl, h5, h6, fun a ha => ?_, fun a ha => ?_, fun a ha => ?_, h10⟩
      · obtain ⟨a, ha, e⟩ := h2.2.2 k hk
        exact ⟨a, by omega, e⟩
      · show upd (T 1) n p1 a = upd (S 4) n p1 a ∧ upd (T 2) n p2 a = upd (S 5) n p2 a ∧ upd (T 3) n p3 a = upd (S 6) n p3 a ∧ upd (T 4) n p4 a = upd (S 7) n p4 a ∧ T 5 a = S 15 a ∧ upd (T 6) n 99 a = S 16 a ∧ upd (T 7) n (-6) a = hz (S 17 a)
        rcases key a ha with e | ⟨e, hak⟩
        · rw [e]
          simp only [upd_eq]
          refine ⟨trivial, trivial, trivial, trivial, by rw [y6, y1], y2.symm, ?_⟩
          rw [y3]; rfl
        · simp only [upd_ne e]
          exact h7 a hak
      · show rg (upd (S 4) n p1 a) 0 99 ∧ rg (upd (S 5) n p2 a) 0 3 ∧ rg (upd (S 6) n p3 a) 0 3 ∧ rg (S 15 a) 0 4 ∧ rg (S 16 a) 0 99 ∧ rg (S 17 a) (-1) 99
        rcases key a ha with e | ⟨e, hak⟩
        · rw [e]
          simp only [upd_eq]
          rw [y1, y2, y3]
          exact ⟨rb_rg hdy, rb_rg hw2, rb_rg hw3, rb_rg (by decide), rb_rg (by decide), rb_rg (by decide)⟩
        · simp only [upd_ne e]
          exact h8 a hak
      · rw [up_row (by omega) a, up_row (by omega) a, up_row (by omega) a, up_row (by omega) a, up_row (by omega) a]
        exact h9 a ha
    · obtain ⟨y1, y2, y3, y4, y5, y6⟩ := x6 n (Nat.le_refl n) q
      refine ⟨fun a ha => ?_, x2, ?_, x4, x5, fun a ha ha2 => x6 a (by omega) ha2⟩
      · show S 18 a = 0 ∨ S 18 a = 1
        rcases Nat.lt_or_ge a n with g | g
        · exact x1 a g
        · rw [show a = n by omega]; exact Or.inl y4
      · show T 0 0 = mk (n + 1) (fun a => decide (S 18 a = 1))
        rw [mk_f (by rw [y4]; decide)]
        exact x3
  · have em : n = 12 := by omega
    subst em
    rw [if_neg (show ¬ nI 12 < (12 : Int32) by decide), if_pos (show nI 12 = (12 : Int32) from rfl)]
    exact ⟨-4, S, T, rfl, rfl, hrel⟩
theorem p_set {F : Nat} : sp_set F Rel := by
  rintro S T p1 p2 p3 ⟨n, c, m, R, X⟩
  have hrel : Rel S T := ⟨n, c, m, R, X⟩
  obtain ⟨x1, x2, x3, x4, x5, x6⟩ := id X
  obtain ⟨h1, h2, h3, h4, h5, h6, h7, h8, h9, h10⟩ := id R
  have h12 := h1.2
  unfold m_X3_set m_X4_set m_X4_set_36 m_X4_set_58 m_X4_set_116
  rw [has_s h1, isActM_s R, bs, bs, if_bi, if_bi]
  cases ha : rb p1 0 ((n : Int) - 1) with
  | false => exact ⟨-1, S, T, rfl, rfl, hrel⟩
  | true =>
  obtain ⟨a, han, rfl⟩ := rb_nI ha
  rw [if_pos rfl, if_pos rfl, within_s, inI_s, bs, bs, if_bi, if_bi, show (0 : Int64).toInt = 0 from rfl, show (3 : Int64).toInt = 3 from rfl, show (0 : Int32).toInt = 0 from rfl, show (3 : Int32).toInt = 3 from rfl]
  cases hw : rb p2 0 3 with
  | false => exact ⟨-2, S, T, rfl, rfl, hrel⟩
  | true =>
  obtain ⟨e1, e2, e3, e4, e5, e6, e7⟩ := h7 a han
  obtain ⟨r4, r5, r6, r15, r16, r17⟩ := h8 a han
  obtain ⟨j, hj, rfl⟩ := rb_nI (n := 4) (p := p2) hw
  simp only [if_true, gd_nI hj (show 4 ≤ 1000 by omega), gd_nI (show a < 12 by omega) (show 12 ≤ 1000 by omega), ix_nI (show a < 2 ^ 31 by omega), ix_nI (show j < 2 ^ 31 by omega), nm_d, within_s, inI_s, bs, if_bi]
  rcases (show j = 0 ∨ j = 1 ∨ j = 2 ∨ j = 3 by omega) with rfl | rfl | rfl | rfl
  · rw [show (set1 0).toInt = 0 from rfl, show (set2 0).toInt = 4 from rfl, show (0 : Int64).toInt = 0 from rfl, show (4 : Int64).toInt = 4 from rfl]
    rw [if_neg (show ¬ nI 0 = 2 by decide), if_neg (show ¬ nI 0 = 2 by decide), if_pos (show nI 0 = 0 from rfl), if_pos (show nI 0 = 0 from rfl)]
    cases hv : rb p3 0 4 with
    | false => exact ⟨-2, S, T, rfl, rfl, hrel⟩
    | true =>
      refine ⟨S 15 a, up S 15 a p3, up T 5 a p3, rfl, by rw [e5]; rfl, n, c, m, ?_, ?_⟩
      · refine ⟨h1, h2, h3, h4, h5, h6, fun b hb => ?_, fun b hb => ?_, fun b hb => ?_, h10⟩
        · show T 1 b = S 4 b ∧ T 2 b = S 5 b ∧ T 3 b = S 6 b ∧ T 4 b = S 7 b ∧ upd (T 5) a p3 b = upd (S 15) a p3 b ∧ T 6 b = S 16 b ∧ T 7 b = hz (S 17 b)
          by_cases e : b = a
          · subst e
            rw [upd_eq, upd_eq]
            exact ⟨e1, e2, e3, e4, rfl, e6, e7⟩
          · rw [upd_ne e, upd_ne e]; exact h7 b hb
        · show rg (S 4 b) 0 99 ∧ rg (S 5 b) 0 3 ∧ rg (S 6 b) 0 3 ∧ rg (upd (S 15) a p3 b) 0 4 ∧ rg (S 16 b) 0 99 ∧ rg (S 17 b) (-1) 99
          by_cases e : b = a
          · subst e
            rw [upd_eq]
            exact ⟨r4, r5, r6, rb_rg hv, r16, r17⟩
          · rw [upd_ne e]; exact h8 b hb
        · rw [up_row (by omega) b]
          exact h9 b hb
      · refine ⟨x1, x2, x3, x4, x5, fun b hb hb2 => ?_⟩
        show upd (S 15) a p3 b = 0 ∧ S 16 b = 99 ∧ S 17 b = -1 ∧ S 18 b = 0 ∧ S 9 b = 0 ∧ upd (T 5) a p3 b = 0
        rw [upd_ne (by omega), upd_ne (by omega)]
        exact x6 b hb hb2
  · rw [show (set1 1).toInt = 0 from rfl, show (set2 1).toInt = 99 from rfl, show (0 : Int64).toInt = 0 from rfl, show (99 : Int64).toInt = 99 from rfl]
    simp only [if_neg (show ¬ nI 1 = 2 by decide), if_neg (show ¬ nI 1 = 0 by decide), if_neg (show ¬ nI 1 = 3 by decide), if_pos (show nI 1 = 1 from rfl)]
    cases hv : rb p3 0 99 with
    | false => exact ⟨-2, S, T, rfl, rfl, hrel⟩
    | true =>
      refine ⟨S 16 a, up S 16 a p3, up T 6 a p3, rfl, by rw [e6]; rfl, n, c, m, ?_, ?_⟩
      · refine ⟨h1, h2, h3, h4, h5, h6, fun b hb => ?_, fun b hb => ?_, fun b hb => ?_, h10⟩
        · show T 1 b = S 4 b ∧ T 2 b = S 5 b ∧ T 3 b = S 6 b ∧ T 4 b = S 7 b ∧ T 5 b = S 15 b ∧ upd (T 6) a p3 b = upd (S 16) a p3 b ∧ T 7 b = hz (S 17 b)
          by_cases e : b = a
          · subst e
            rw [upd_eq, upd_eq]
            exact ⟨e1, e2, e3, e4, e5, rfl, e7⟩
          · rw [upd_ne e, upd_ne e]; exact h7 b hb
        · show rg (S 4 b) 0 99 ∧ rg (S 5 b) 0 3 ∧ rg (S 6 b) 0 3 ∧ rg (S 15 b) 0 4 ∧ rg (upd (S 16) a p3 b) 0 99 ∧ rg (S 17 b) (-1) 99
          by_cases e : b = a
          · subst e
            rw [upd_eq]
            exact ⟨r4, r5, r6, r15, rb_rg hv, r17⟩
          · rw [upd_ne e]; exact h8 b hb
        · rw [up_row (by omega) b]
          exact h9 b hb
      · refine ⟨x1, x2, x3, x4, x5, fun b hb hb2 => ?_⟩
        show S 15 b = 0 ∧ upd (S 16) a p3 b = 99 ∧ S 17 b = -1 ∧ S 18 b = 0 ∧ S 9 b = 0 ∧ T 5 b = 0
        rw [upd_ne (by omega)]
        exact x6 b hb hb2
  · rw [show (set1 2).toInt = -1 by decide, show (set2 2).toInt = 99 from rfl, show (-1 : Int64).toInt = -1 by decide, show (99 : Int64).toInt = 99 from rfl]
    simp only [if_pos (show nI 2 = 2 from rfl), if_neg (show ¬ nI 2 = 0 by decide), if_neg (show ¬ nI 2 = 3 by decide), if_neg (show ¬ nI 2 = 1 by decide)]
    cases hv : rb p3 (-1) 99 with
    | false => exact ⟨-2, S, T, rfl, rfl, hrel⟩
    | true =>
      have hzp : (if 0 ≤ p3 then some (T 7 a, up T 7 a p3) else some (T 7 a, up T 7 a (-6))) = some (hz (S 17 a), up T 7 a (hz p3)) := by
        rw [e7]
        rcases rg_neg (rb_rg hv) with q | ⟨q, h0⟩
        · have : ¬ (0 : Int32) ≤ p3 := by rw [q]; decide
          rw [if_neg this]
          unfold hz
          rw [if_pos q]
        · have : (0 : Int32) ≤ p3 := by rw [Int32.le_iff_toInt_le]; exact h0
          rw [if_pos this]
          unfold hz
          rw [if_neg q]
      refine ⟨hz (S 17 a), up S 17 a p3, up T 7 a (hz p3), ?_, ?_, n, c, m, ?_, ?_⟩
      · unfold hz
        simp only [if_true]
        split <;> rfl
      · rw [if_pos rfl]; exact hzp
      · refine ⟨h1, h2, h3, h4, h5, h6, fun b hb => ?_, fun b hb => ?_, fun b hb => ?_, h10⟩
        · show T 1 b = S 4 b ∧ T 2 b = S 5 b ∧ T 3 b = S 6 b ∧ T 4 b = S 7 b ∧ T 5 b = S 15 b ∧ T 6 b = S 16 b ∧ upd (T 7) a (hz p3) b = hz (upd (S 17) a p3 b)
          by_cases e : b = a
          · subst e
            rw [upd_eq, upd_eq]
            exact ⟨e1, e2, e3, e4, e5, e6, rfl⟩
          · rw [upd_ne e, upd_ne e]; exact h7 b hb
        · show rg (S 4 b) 0 99 ∧ rg (S 5 b) 0 3 ∧ rg (S 6 b) 0 3 ∧ rg (S 15 b) 0 4 ∧ rg (S 16 b) 0 99 ∧ rg (upd (S 17) a p3 b) (-1) 99
          by_cases e : b = a
          · subst e
            rw [upd_eq]
            exact ⟨r4, r5, r6, r15, r16, rb_rg hv⟩
          · rw [upd_ne e]; exact h8 b hb
        · rw [up_row (by omega) b]
          exact h9 b hb
      · refine ⟨x1, x2, x3, x4, x5, fun b hb hb2 => ?_⟩
        show S 15 b = 0 ∧ S 16 b = 99 ∧ upd (S 17) a p3 b = -1 ∧ S 18 b = 0 ∧ S 9 b = 0 ∧ T 5 b = 0
        rw [upd_ne (by omega)]
        exact x6 b hb hb2
  · rw [show (set1 3).toInt = 0 from rfl, show (set2 3).toInt = 1 from rfl, show (0 : Int64).toInt = 0 from rfl, show (1 : Int64).toInt = 1 from rfl]
    simp only [if_pos (show nI 3 = 3 from rfl), if_neg (show ¬ nI 3 = 0 by decide), if_neg (show ¬ nI 3 = 2 by decide), if_neg (show ¬ nI 3 = 1 by decide)]
    cases hv : rb p3 0 1 with
    | false => exact ⟨-2, S, T, rfl, rfl, hrel⟩
    | true =>
      have hold : ((T 0 0) >>> (nI a &&& 31)) &&& 1 = S 18 a := by
        rw [bit_val _ (by omega), x3]
        unfold gm
        rw [bt_mk _ (by omega) n (by omega), decide_eq_true han, Bool.true_and]
        rcases x1 a han with q | q <;> rw [q] <;> rfl
      have hp : p3 = 0 ∨ p3 = 1 := by
        obtain ⟨i, hi, e⟩ := rb_nI (n := 2) (p := p3) hv
        rcases (show i = 0 ∨ i = 1 by omega) with g | g
        · left; rw [e, g]; rfl
        · right; rw [e, g]; rfl
      have hS : up S 18 a p3 18 = upd (S 18) a p3 := rfl
      have hg : ∀ G : Int32, (∀ i, i < 32 → bt G i = if i = a then decide (p3 = 1) else bt (gm S n) i) → G = gm (up S 18 a p3) n := by
        intro G hG
        apply b_ext
        intro i hi
        rw [hG i hi]
        unfold gm
        rw [hS, bt_mk _ hi n (by omega), bt_mk _ hi n (by omega)]
        by_cases e : i = a
        · rw [if_pos e, e, upd_eq, decide_eq_true han, Bool.true_and]
        · rw [if_neg e, upd_ne e]
      have hRB : ∀ G, RB (up S 18 a p3) (up T 0 0 G) n c := fun G => RB_congr R rfl rfl rfl (fun k hk => up_ne (by omega)) (fun b => up_row (by omega) b) rfl rfl rfl (fun k hk => up_ne (by omega))
      have hRX : ∀ G, G = gm (up S 18 a p3) n → RX (up S 18 a p3) (up T 0 0 G) n m := fun G hG => by
        refine ⟨fun b hb => ?_, x2, hG, x4, x5, fun b hb hb2 => ?_⟩
        · show upd (S 18) a p3 b = 0 ∨ upd (S 18) a p3 b = 1
          by_cases e : b = a
          · rw [e, upd_eq]; exact hp
          · rw [upd_ne e]; exact x1 b hb
        · show S 15 b = 0 ∧ S 16 b = 99 ∧ S 17 b = -1 ∧ upd (S 18) a p3 b = 0 ∧ S 9 b = 0 ∧ T 5 b = 0
          rw [upd_ne (by omega)]
          exact x6 b hb hb2
      rw [hold]
      by_cases h31 : p3 = 1
      · refine ⟨S 18 a, up S 18 a p3, up T 0 0 (T 0 0 ||| one a), rfl, by rw [if_pos rfl, if_pos h31]; rfl, n, c, m, hRB _, hRX _ (hg _ (fun i hi => ?_))⟩
        rw [b_or, b_one (by omega) hi, x3, decide_eq_true h31]
        by_cases e : i = a <;> simp [e]
      · refine ⟨S 18 a, up S 18 a p3, up T 0 0 (wo (T 0 0) a), rfl, by rw [if_pos rfl, if_neg h31]; rfl, n, c, m, hRB _, hRX _ (hg _ (fun i hi => ?_))⟩
        rw [bt_wo _ (by omega) hi, x3, decide_eq_false h31]
        by_cases e : i = a <;> simp [e]
