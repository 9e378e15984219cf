/-! fault, leans -/
def ft (P : Nat → Bool) (e : Int32) : Nat → Nat → Int32
  | 0, _ => e
  | r + 1, k => if P k = true then ft P e r (k + 1) else nI k
theorem ft_from (L : Nat → Int32 → Option Int32) (N : Nat) (P : Nat → Bool) (e : Int32) (hstop : ∀ f, L (f + 1) (nI N) = some e) (hstep : ∀ f k, k < N → L (f + 1) (nI k) = if P k = true then L f (nI (k + 1)) else some (nI k)) : ∀ f k, k ≤ N → N < k + f → L f (nI k) = some (ft P e (N - k) k) := by
  intro f
  induction f with
  | zero => intro k h1 h2; omega
  | succ f ih =>
    intro k h1 h2
    rcases Nat.lt_or_ge k N with q | q
    · rw [hstep f k q, show N - k = (N - (k + 1)) + 1 by omega, ft, ih (k + 1) q (by omega)]
      split <;> rfl
    · rw [show k = N by omega, hstop, Nat.sub_self, ft]
theorem ft_c (P : Nat → Bool) (e : Int32) : ∀ r k, (ft P e r k = e ∧ ∀ j, k ≤ j → j < k + r → P j = true) ∨ ∃ j, k ≤ j ∧ j < k + r ∧ ft P e r k = nI j
  | 0, k => Or.inl ⟨rfl, fun j h1 h2 => by omega⟩
  | r + 1, k => by
    rw [ft]
    cases h : P k with
    | false => exact Or.inr ⟨k, by omega, by omega, by simp⟩
    | true =>
      rw [if_pos rfl]
      rcases ft_c P e r (k + 1) with ⟨h1, h2⟩ | ⟨j, h1, h2, h3⟩
      · refine Or.inl ⟨h1, fun j g1 g2 => ?_⟩
        rcases Nat.eq_or_lt_of_le g1 with q | q
        · rw [← q]; exact h
        · exact h2 j q (by omega)
      · exact Or.inr ⟨j, by omega, by omega, h3⟩
theorem rem2 {k : Nat} (hk : k < 1000) : nI k - nI k / 2 * 2 = nI (k % 2) := pk_rem (d := 2) (by omega) (by omega) (by omega)
theorem isForLetter_s {k : Nat} (hk : k < 1000) : m_X2_isForLetter (nI k) = some (bi (decide (k % 2 = 0))) := by
  unfold m_X2_isForLetter
  rw [rem2 hk]
  rcases (show k % 2 = 0 ∨ k % 2 = 1 by omega) with h | h <;> rw [h] <;> rfl
/-- a sign can stand at a place -/
def ok (S : St) (k : Nat) : Bool := if k % 2 = 0 then rb (S 14 k) 97 108 else (decide (S 14 k = 43) || decide (S 14 k = 124))
def fe (m : Nat) : Int32 := if m % 2 = 0 then nI m else -6
theorem faultPlace_s {S : St} {m F : Nat} (hm : S 3 0 = nI m) (h40 : m ≤ 40) (hF : 5000 ≤ F) : m_X2_faultPlace F S = some (ft (ok S) (fe m) m 0) := by
  unfold m_X2_faultPlace
  refine ft_from (m_X2_faultPlace_2 F S) m (ok S) (fe m) (fun f => ?_) (fun f k hk => ?_) F 0 (by omega) (by omega)
  · rw [m_X2_faultPlace_2, hm, if_pos (le_t (Nat.le_refl m) (by omega)), isForLetter_s (by omega), bs, if_bi]
    unfold fe
    by_cases h : m % 2 = 0 <;> simp [h]
  · rw [m_X2_faultPlace_2, hm, if_neg (le_f hk (by omega)), gd_nI (show k < 40 by omega) (by omega), ix_nI (by omega), nm_d, nI_1]
    unfold m_X2_canStand
    rw [isForLetter_s (by omega), bs, if_bi, within_s, bs, gd_bz, show (97 : Int32).toInt = 97 from rfl, show (108 : Int32).toInt = 108 from rfl]
    unfold ok
    by_cases h : k % 2 = 0
    · simp only [h, decide_true, if_true, bs, if_bi]
    · simp only [h, decide_false, if_false]
      by_cases h1 : S 14 k = 43
      · simp [h1, bs]
      · by_cases h2 : S 14 k = 124 <;> simp [h1, h2, bs]
theorem faultM_s {S T : St} {m F : Nat} (hm : T 0 4 = nI m) (h40 : m ≤ 40) (hs : ∀ k, k < m → T 10 k = S 14 k) (hF : 5000 ≤ F) : m_X4_fault F T = some (ft (ok S) (fe m) m 0) := by
  unfold m_X4_fault
  refine ft_from (m_X4_fault_2 F T) m (ok S) (fe m) (fun f => ?_) (fun f k hk => ?_) F 0 (by omega) (by omega)
  · rw [m_X4_fault_2, hm, if_pos (le_t (Nat.le_refl m) (by omega)), rem2 (by omega)]
    unfold fe
    rcases (show m % 2 = 0 ∨ m % 2 = 1 by omega) with h | h
    · rw [h, if_neg (show ¬ nI 0 = 1 by decide), if_pos rfl]
    · rw [h, if_pos (show nI 1 = 1 from rfl), if_neg (by omega)]
  · rw [m_X4_fault_2, hm, if_neg (le_f hk (by omega)), gd_nI (show k < 40 by omega) (by omega), ix_nI (by omega), nm_d, hs k hk, rem2 (by omega), inI_s, bs, show (97 : Int64).toInt = 97 from rfl, show (108 : Int64).toInt = 108 from rfl]
    unfold m_X4_fault_49 m_X4_fault_54 ok
    simp only [nm_d, nI_1]
    rcases (show k % 2 = 0 ∨ k % 2 = 1 by omega) with h | h
    · rw [h, if_pos (show nI 0 = 0 from rfl), if_pos rfl, if_bi]
    · rw [h, if_neg (show ¬ nI 1 = 0 by decide), if_neg (show ¬ (1 : Nat) = 0 by decide)]
      by_cases h1 : S 14 k = 43
      · simp [h1]
      · by_cases h2 : S 14 k = 124 <;> simp [h1, h2]
theorem p_fault {F : Nat} (hF : 5000 ≤ F) : sp_fault F Rel := by
  rintro S T ⟨n, c, m, R, X⟩
  obtain ⟨x51, x52, x53, x54⟩ := X.2.2.2.2.1
  unfold m_X3_fault
  rw [faultPlace_s x51 x53 hF, bs, faultM_s x52 x53 x54 hF]
  exact ⟨_, rfl, rfl⟩
/-- a loop with an invariant that knows the place -/
theorem fo_loopJ {α : Type} {β : Type} (L : Nat → α → Int32 → Option β) (N : Nat) (st : Nat → α → α) (fin : α → Option β) (I : Nat → α → Prop) {F : Nat} (hF : N < F) (a0 : α) (h0 : I 0 a0) (hI : ∀ acc i, i < N → I i acc → I (i + 1) (st i acc)) (hstop : ∀ f acc, I N acc → L (f + 1) acc (nI N) = fin acc) (hstep : ∀ f acc i, i < N → I i acc → L (f + 1) acc (nI i) = L f (st i acc) (nI (i + 1))) : L F a0 0 = fin (fo st N a0) ∧ I N (fo st N a0) := by
  have hin : ∀ i, i ≤ N → I i (fo st i a0) := by
    intro i
    induction i with
    | zero => intro _; exact h0
    | succ i ih => intro h; exact hI _ i (by omega) (ih (by omega))
  have key : ∀ f i, i ≤ N → N < i + f → L f (fo st i a0) (nI i) = fin (fo st N a0) := by
    intro f
    induction f with
    | zero => intro i h1 h2; omega
    | succ f ih =>
      intro i h1 h2
      rcases Nat.lt_or_ge i N with q | q
      · rw [hstep f _ i q (hin i h1)]
        exact ih (i + 1) q (by omega)
      · rw [show i = N by omega, hstop f _ (hin N (Nat.le_refl N))]
  exact ⟨key F 0 (Nat.zero_le _) (by omega), hin N (Nat.le_refl N)⟩
/-- a sign is taken: the number of the row that is being written, and the rows -/
def lst (S : St) (k : Nat) (u : Nat × (Nat → Int32)) : Nat × (Nat → Int32) :=
  if S 14 k = 124 then (u.1 + 1, upd u.2 (u.1 + 1) 0) else if S 14 k = 43 then u else (u.1, upd u.2 u.1 (u.2 u.1 ||| (1 <<< ((S 14 k - 97) &&& 31))))
def SS (S : St) (a : Nat) (row : Nat → Int32) : St := fun c => if c = 19 + a then row else S c
theorem SS_up (S : St) (a : Nat) (row : Nat → Int32) (j : Nat) (v : Int32) : up (SS S a row) (19 + a) j v = SS S a (upd row j v) := by
  funext c
  unfold up SS
  by_cases h : c = 19 + a
  · rw [if_pos h, if_pos h, if_pos rfl]
  · rw [if_neg h, if_neg h, if_neg h]
theorem SS_lt (S : St) (a : Nat) (row : Nat → Int32) {c : Nat} (h : c < 19) : SS S a row c = S c := if_neg (by omega)
theorem SS_row (S : St) (a : Nat) (row : Nat → Int32) : SS S a row (19 + a) = row := if_pos rfl
theorem ok_bar {S : St} {k : Nat} (h : ok S k = true) (h2 : S 14 k = 124) : k % 2 = 1 := by
  rcases (show k % 2 = 0 ∨ k % 2 = 1 by omega) with q | q
  · unfold ok at h
    rw [if_pos q, h2] at h
    exact absurd h (by decide)
  · exact q
theorem lst_I {S : St} {k : Nat} (h : ok S k = true) {u : Nat × (Nat → Int32)} (hu : 2 * u.1 ≤ k) : 2 * (lst S k u).1 ≤ k + 1 := by
  unfold lst
  by_cases h1 : S 14 k = 124
  · have := ok_bar h h1
    rw [if_pos h1]
    show 2 * (u.1 + 1) ≤ k + 1
    omega
  · rw [if_neg h1]
    split
    · omega
    · show 2 * u.1 ≤ k + 1
      omega
theorem takeText_s {S : St} {m F a : Nat} (hm : S 3 0 = nI m) (h39 : m ≤ 39) (ha : a < 12) (hF : 5000 ≤ F) (hok : ∀ k, k < m → ok S k = true) : m_X0_takeText F S (nI a) = some (0, up (SS S a (fo (lst S) m (0, upd (S (19 + a)) 0 0)).2) 9 a (nI ((fo (lst S) m (0, upd (S (19 + a)) 0 0)).1 + 1))) := by
  unfold m_X0_takeText
  rw [gd_nI ha (by omega), show inb 0 20 = true by decide, gd_t, ix_nI (by omega), show ix 0 = 0 from rfl]
  have h := (fo_loopJ (fun f (u : Nat × (Nat → Int32)) i => m_X0_takeText_18 F (nI a) f (SS S a u.2) (nI u.1) i) m (lst S) (fun u => some (0, up (SS S a u.2) 9 a (nI (u.1 + 1)))) (fun k u => 2 * u.1 ≤ k) (F := F) (by omega) (0, upd (S (19 + a)) 0 0) (by simp) (fun u k hk hI => lst_I (hok k hk) hI) (fun f u hI => ?_) (fun f u k hk hI => ?_)).1
  · exact h
  · show m_X0_takeText_18 F (nI a) (f + 1) (SS S a u.2) (nI u.1) (nI m) = _
    rw [m_X0_takeText_18, SS_lt S a u.2 (by omega), hm, if_pos (le_t (Nat.le_refl m) (by omega)), gd_nI ha (by omega), ix_nI (by omega), nI_1]
  · show m_X0_takeText_18 F (nI a) (f + 1) (SS S a u.2) (nI u.1) (nI k) = m_X0_takeText_18 F (nI a) f (SS S a (lst S k u).2) (nI (lst S k u).1) (nI (k + 1))
    rw [m_X0_takeText_18, SS_lt S a u.2 (by omega), hm, if_neg (le_f hk (by omega)), gd_nI (show k < 40 by omega) (by omega), ix_nI (by omega), ix_nI (by omega), SS_lt S a u.2 (by omega), SS_row]
    simp only [nm_d, nI_1]
    unfold lst
    have hI' : 2 * u.1 ≤ k := hI
    by_cases h1 : S 14 k = 124
    · have hod := ok_bar (hok k hk) h1
      rw [if_pos h1, if_pos h1, if_neg (show ¬ (19 : Int32) < nI (u.1 + 1) from nI_nlt (a := 19) (show u.1 + 1 ≤ 19 by omega) (by omega)), gd_nI (show u.1 + 1 < 20 by omega) (by omega), ix_nI (by omega), SS_up]
    · rw [if_neg h1, if_neg h1]
      by_cases h2 : S 14 k = 43
      · rw [if_pos h2, if_pos h2]
      · rw [if_neg h2, if_neg h2, gd_nI (show u.1 < 20 by omega) (by omega), gd_nI (show u.1 < 20 by omega) (by omega), ix_nI (by omega), SS_up]
/-- the reference's state beside it -/
def TT (T : St) (a : Nat) (u : Nat × (Nat → Int32)) : St := fun c => if c = 8 then (fun i => if 20 * a ≤ i ∧ i < 20 * a + u.1 then u.2 (i - 20 * a) else T 8 i) else if c = 9 then upd (T 9) a (nI u.1) else T c
theorem TT_lt (T : St) (a : Nat) (u : Nat × (Nat → Int32)) {c : Nat} (h : c ≠ 8) (h9 : c ≠ 9) : TT T a u c = T c := by
  unfold TT
  rw [if_neg h, if_neg h9]
theorem TT_9 (T : St) (a : Nat) (u : Nat × (Nat → Int32)) : TT T a u 9 a = nI u.1 := by
  show upd (T 9) a (nI u.1) a = _
  rw [upd_eq]
theorem TT_congr (T : St) (a : Nat) {l : Nat} {r r' : Nat → Int32} (h : ∀ i, i < l → r i = r' i) : TT T a (l, r) = TT T a (l, r') := by
  funext c
  unfold TT
  by_cases h8 : c = 8
  · rw [if_pos h8, if_pos h8]
    funext i
    show (if 20 * a ≤ i ∧ i < 20 * a + l then r (i - 20 * a) else T 8 i) = if 20 * a ≤ i ∧ i < 20 * a + l then r' (i - 20 * a) else T 8 i
    by_cases q : 20 * a ≤ i ∧ i < 20 * a + l
    · rw [if_pos q, if_pos q, h _ (by omega)]
    · rw [if_neg q, if_neg q]
  · rw [if_neg h8, if_neg h8]
theorem TT_next (T : St) (a l : Nat) (r r' : Nat → Int32) (v : Int32) (hv : r' l = v) (h : ∀ i, i < l → r' i = r i) : up (up (TT T a (l, r)) 8 (20 * a + l) v) 9 a (nI (l + 1)) = TT T a (l + 1, r') := by
  funext c
  unfold up
  by_cases h9 : c = 9
  · subst h9
    rw [if_pos rfl, if_neg (by decide)]
    show upd (upd (T 9) a (nI l)) a (nI (l + 1)) = upd (T 9) a (nI (l + 1))
    funext b
    unfold upd
    by_cases q : b = a <;> simp [q]
  · rw [if_neg h9]
    by_cases h8 : c = 8
    · subst h8
      rw [if_pos rfl]
      funext i
      show upd (fun i => if 20 * a ≤ i ∧ i < 20 * a + l then r (i - 20 * a) else T 8 i) (20 * a + l) v i = if 20 * a ≤ i ∧ i < 20 * a + (l + 1) then r' (i - 20 * a) else T 8 i
      unfold upd
      by_cases q : i = 20 * a + l
      · rw [if_pos q, if_pos (by omega), q, show 20 * a + l - 20 * a = l by omega, hv]
      · rw [if_neg q]
        show (if 20 * a ≤ i ∧ i < 20 * a + l then r (i - 20 * a) else T 8 i) = _
        by_cases g : 20 * a ≤ i ∧ i < 20 * a + l
        · rw [if_pos g, if_pos (by omega), h _ (by omega)]
        · rw [if_neg g, if_neg (by omega)]
    · rw [if_neg h8]
      unfold TT
      rw [if_neg h8, if_neg h9, if_neg h8, if_neg h9]
theorem leansM_s {S T : St} {m F a : Nat} (hm : T 0 4 = nI (m + 1)) (h39 : m + 1 ≤ 39) (hev : m % 2 = 0) (ha : a < 12) (hs : ∀ k, k < m + 1 → T 10 k = S 14 k) (hF : 5000 ≤ F) (hok : ∀ k, k < m + 1 → ok S k = true) :
    m_X4_leans_31 F (nI a) F (up T 9 a 0) 0 0 = some (nI ((fo (lst S) (m + 1) (0, upd (S (19 + a)) 0 0)).1 + 1), up (TT T a ((fo (lst S) (m + 1) (0, upd (S (19 + a)) 0 0)).1 + 1, (fo (lst S) (m + 1) (0, upd (S (19 + a)) 0 0)).2)) 0 4 0) := by
  have hz : up T 9 a 0 = TT T a (0, upd (S (19 + a)) 0 0) := by
    funext c
    unfold up TT
    by_cases h9 : c = 9
    · subst h9; rfl
    · rw [if_neg h9]
      by_cases h8 : c = 8
      · subst h8
        rw [if_pos rfl]
        funext i
        show T 8 i = if 20 * a ≤ i ∧ i < 20 * a + 0 then _ else T 8 i
        rw [if_neg (by omega)]
      · rw [if_neg h8, if_neg h9]
  have hletter : ∀ k, k < m + 1 → ¬ S 14 k = 124 → ¬ S 14 k = 43 → rb (S 14 k) 97 108 = true := fun k hk h1 h2 => by
    have := hok k hk
    unfold ok at this
    split at this
    · exact this
    · simp [h1, h2] at this
  have r124 : rb 124 97 108 = false := by decide
  have r43 : rb 43 97 108 = false := by decide
  obtain ⟨G, hG⟩ : ∃ G, F = G + 1 := ⟨F - 1, by omega⟩
  have step : ∀ f (u : Nat × (Nat → Int32)) k, k < m + 1 → 2 * u.1 ≤ k → k ≠ m → m_X4_leans_31 F (nI a) (f + 1) (TT T a u) (u.2 u.1) (nI k) = m_X4_leans_31 F (nI a) f (TT T a (lst S k u)) ((lst S k u).2 (lst S k u).1) (nI (k + 1)) := by
    intro f u k hk hI hkm
    have hk20 : u.1 ≤ 19 := by omega
    have ei : (20 : Int32) * nI a + nI u.1 = nI (20 * a + u.1) := by rw [show (20 : Int32) = nI 20 from rfl, pk_mul, nI_add]
    have hlast : ¬ nI k = nI (m + 1) - 1 := by
      rw [nI_pred]
      exact fun e => hkm ((nI_eq (by omega) (by omega)).mp e)
    rw [m_X4_leans_31, TT_lt T a u (c := 0) (by omega) (by omega), hm, if_neg (le_f hk (by omega)), gd_nI (show k < 40 by omega) (by omega), ix_nI (by omega), nm_d, TT_lt T a u (c := 10) (by omega) (by omega), hs k hk, inI_s, bs, if_bi, show (97 : Int64).toInt = 97 from rfl, show (108 : Int64).toInt = 108 from rfl]
    unfold m_X4_leans_74 m_X4_leans_93
    simp only [nm_d, nI_1, TT_lt T a u (c := 0) (show 0 ≠ 8 by omega) (show 0 ≠ 9 by omega), hm, if_neg hlast, gd_nI (show a < 12 by omega) (show 12 ≤ 1000 by omega), ix_nI (show a < 2 ^ 31 by omega), TT_9, ei, gd_nI (show 20 * a + u.1 < 240 by omega) (show 240 ≤ 1000 by omega), ix_nI (show 20 * a + u.1 < 2 ^ 31 by omega)]
    unfold lst
    by_cases h1 : S 14 k = 124
    · rw [if_pos h1, h1, r124]
      simp only [Bool.false_eq_true, if_false, if_true, or_0]
      have e9 : up (TT T a u) 8 (20 * a + u.1) (u.2 u.1) 9 a = nI u.1 := TT_9 T a u
      rw [TT_next T a u.1 u.2 (upd u.2 (u.1 + 1) 0) _ (upd_ne (by omega)) (fun i hi => upd_ne (by omega)), upd_eq]
    · rw [if_neg h1]
      simp only [if_neg h1]
      by_cases h2 : S 14 k = 43
      · rw [if_pos h2, h2, r43]
        simp only [Bool.false_eq_true, if_false, or_0]
      · rw [if_neg h2, hletter k hk h1 h2, if_pos rfl]
        show m_X4_leans_31 F (nI a) f (TT T a u) _ _ = m_X4_leans_31 F (nI a) f (TT T a (u.1, upd u.2 u.1 _)) (upd u.2 u.1 _ u.1) _
        rw [upd_eq, ← TT_congr T a (l := u.1) (r := u.2) (fun i hi => (upd_ne (by omega)).symm)]
  have h := fo_loopJ (fun f (u : Nat × (Nat → Int32)) i => m_X4_leans_31 F (nI a) (f + 1) (TT T a u) (u.2 u.1) i) m (lst S) (fun u => some (nI ((lst S m u).1 + 1), up (TT T a ((lst S m u).1 + 1, (lst S m u).2)) 0 4 0)) (fun k u => 2 * u.1 ≤ k) (F := G) (by omega) (0, upd (S (19 + a)) 0 0) (by simp) (fun u k hk hI => lst_I (hok k (by omega)) hI) (fun f u hI => ?_) (fun f u k hk hI => step (f + 1) u k (by omega) hI (by omega))
  · have h1 := h.1
    rw [hz]
    have e0 : (upd (S (19 + a)) 0 0) 0 = 0 := upd_eq
    have h1' : m_X4_leans_31 F (nI a) (G + 1) (TT T a (0, upd (S (19 + a)) 0 0)) ((upd (S (19 + a)) 0 0) 0) 0 = _ := h1
    rw [e0, ← hG] at h1'
    exact h1'
  · show m_X4_leans_31 F (nI a) (f + 1 + 1) (TT T a u) (u.2 u.1) (nI m) = _
    have hI' : 2 * u.1 ≤ m := hI
    have hk20 : u.1 ≤ 19 := by omega
    have ei : (20 : Int32) * nI a + nI u.1 = nI (20 * a + u.1) := by rw [show (20 : Int32) = nI 20 from rfl, pk_mul, nI_add]
    have hlast : nI m = nI (m + 1) - 1 := (nI_pred m).symm
    have hl : rb (S 14 m) 97 108 = true := by
      have := hok m (by omega)
      unfold ok at this
      rw [if_pos hev] at this
      exact this
    have h124 : ¬ S 14 m = 124 := fun e => by rw [e] at hl; exact absurd hl (by decide)
    have h43 : ¬ S 14 m = 43 := fun e => by rw [e] at hl; exact absurd hl (by decide)
    rw [m_X4_leans_31, TT_lt T a u (c := 0) (by omega) (by omega), hm, if_neg (le_f (show m < m + 1 by omega) (by omega)), gd_nI (show m < 40 by omega) (by omega), ix_nI (by omega), nm_d, TT_lt T a u (c := 10) (by omega) (by omega), hs m (by omega), inI_s, bs, if_bi, show (97 : Int64).toInt = 97 from rfl, show (108 : Int64).toInt = 108 from rfl, hl, if_pos rfl]
    unfold m_X4_leans_74 m_X4_leans_93
    simp only [nm_d, nI_1, TT_lt T a u (c := 0) (show 0 ≠ 8 by omega) (show 0 ≠ 9 by omega), hm, if_neg h124, if_pos hlast, gd_nI (show a < 12 by omega) (show 12 ≤ 1000 by omega), ix_nI (show a < 2 ^ 31 by omega), TT_9, ei, gd_nI (show 20 * a + u.1 < 240 by omega) (show 240 ≤ 1000 by omega), ix_nI (show 20 * a + u.1 < 2 ^ 31 by omega)]
    have e9 : ∀ v, up (TT T a u) 8 (20 * a + u.1) v 9 a = nI u.1 := fun v => TT_9 T a u
    have el : lst S m u = (u.1, upd u.2 u.1 (u.2 u.1 ||| (1 <<< ((S 14 m - 97) &&& 31)))) := by
      unfold lst
      rw [if_neg h124, if_neg h43]
    rw [el, TT_next T a u.1 u.2 (upd u.2 u.1 (u.2 u.1 ||| (1 <<< ((S 14 m - 97) &&& 31)))) _ upd_eq (fun i hi => upd_ne (by omega))]
    rw [m_X4_leans_31, TT_lt T a _ (c := 0) (by omega) (by omega), hm, if_pos (le_t (Nat.le_refl (m + 1)) (by omega)), gd_nI ha (by omega), ix_nI (by omega)]
    rw [TT_9]
theorem p_leans {F : Nat} (hF : 5000 ≤ F) : sp_leans F Rel := by
  rintro S T p1 ⟨n, c, m, R, X⟩
  have hrel : Rel S T := ⟨n, c, m, R, X⟩
  obtain ⟨x1, x2, x3, x4, ⟨x51, x52, x53, x54⟩, x6⟩ := id X
  obtain ⟨h1, h2, h3, h4, h5, h6, h7, h8, h9, h10⟩ := id R
  have h12 := h1.2
  unfold m_X3_leans m_X4_leans
  rw [has_s h1, isActM_s R, bs, bs, if_bi, if_bi]
  cases ha : rb p1 0 ((n : Int) - 1) with
  | false => exact ⟨-1, S, T, rfl, rfl, hrel⟩
  | true =>
  obtain ⟨a, han, rfl⟩ := rb_nI ha
  rw [if_pos rfl, if_pos rfl, faultPlace_s x51 x53 hF, faultM_s x52 x53 x54 hF, bs, bs]
  have hno : ∀ j, j < 41 → ¬ nI j = -6 ∧ ¬ nI j < 0 := fun j hj => ⟨nI_m6 (by omega), nI_pos (by omega)⟩
  rcases ft_c (ok S) (fe m) m 0 with ⟨e1, e2⟩ | ⟨j, -, hj, e1⟩
  · by_cases hm2 : m % 2 = 0
    · have ef : fe m = nI m := by unfold fe; rw [if_pos hm2]
      rw [e1, ef, if_neg (hno m (by omega)).1, if_neg (hno m (by omega)).2]
      exact ⟨-5, S, T, rfl, rfl, hrel⟩
    · have ef : fe m = -6 := by unfold fe; rw [if_neg hm2]
      rw [e1, ef, if_pos rfl, if_pos (by decide)]
      have hok : ∀ k, k < m → ok S k = true := fun k hk => e2 k (by omega) (by omega)
      obtain ⟨m', rfl⟩ : ∃ m', m = m' + 1 := ⟨m - 1, by omega⟩
      rw [takeText_s x51 (by omega) (by omega) hF hok, bs, gd_nI (show a < 12 by omega) (by omega), ix_nI (by omega), leansM_s x52 (by omega) (by omega) (by omega) x54 hF hok]
      have hI : 2 * (fo (lst S) (m' + 1) (0, upd (S (19 + a)) 0 0)).1 ≤ m' + 1 := by
        have key : ∀ k, k ≤ m' + 1 → 2 * (fo (lst S) k (0, upd (S (19 + a)) 0 0)).1 ≤ k := by
          intro k
          induction k with
          | zero => intro _; exact Nat.le_refl 0
          | succ k ih => intro hk; exact lst_I (hok k (by omega)) (ih (by omega))
        exact key (m' + 1) (Nat.le_refl _)
      generalize fo (lst S) (m' + 1) (0, upd (S (19 + a)) 0 0) = u at hI
      obtain ⟨l, row⟩ := u
      have hl : l ≤ 19 := by simp only at hI; omega
      unfold m_X2_clear
      simp only [nm_d, bs, gd_nI (show a < 12 by omega) (show 12 ≤ 1000 by omega)]
      have e9 : up (up (SS S a row) 9 a (nI (l + 1))) 3 0 0 9 a = nI (l + 1) := by
        show upd (SS S a row 9) a (nI (l + 1)) a = _
        rw [upd_eq]
      refine ⟨nI (l + 1), up (up (SS S a row) 9 a (nI (l + 1))) 3 0 0, up (TT T a (l + 1, row)) 0 4 0, by rw [e9], rfl, n, c, 0, ?_, ?_⟩
      · have sl : ∀ k, k < 19 → k ≠ 9 → k ≠ 3 → up (up (SS S a row) 9 a (nI (l + 1))) 3 0 0 k = S k := fun k hk k9 k3 => by
          rw [up_ne k3, up_ne k9, SS_lt S a row hk]
        have tl : ∀ k, k ≠ 8 → k ≠ 9 → k ≠ 0 → up (TT T a (l + 1, row)) 0 4 0 k = T k := fun k k8 k9 k0 => by
          rw [up_ne k0, TT_lt T a _ k8 k9]
        have t0 : ∀ j, j ≠ 4 → up (TT T a (l + 1, row)) 0 4 0 0 j = T 0 j := fun j hj => by
          show upd (TT T a (l + 1, row) 0) 4 0 j = _
          rw [upd_ne hj, TT_lt T a _ (by omega) (by omega)]
        have s9 : ∀ b, up (up (SS S a row) 9 a (nI (l + 1))) 3 0 0 9 b = if b = a then nI (l + 1) else S 9 b := fun b => by
          show upd (SS S a row 9) a (nI (l + 1)) b = _
          by_cases q : b = a
          · rw [q, upd_eq, if_pos rfl]
          · rw [upd_ne q, if_neg q, SS_lt S a row (by omega)]
        have t9 : ∀ b, up (TT T a (l + 1, row)) 0 4 0 9 b = if b = a then nI (l + 1) else T 9 b := fun b => by
          show upd (T 9) a (nI (l + 1)) b = _
          by_cases q : b = a
          · rw [q, upd_eq, if_pos rfl]
          · rw [upd_ne q, if_neg q]
        have t8 : ∀ i, up (TT T a (l + 1, row)) 0 4 0 8 i = if 20 * a ≤ i ∧ i < 20 * a + (l + 1) then row (i - 20 * a) else T 8 i := fun i => rfl
        have sr : ∀ b, up (up (SS S a row) 9 a (nI (l + 1))) 3 0 0 (19 + b) = if b = a then row else S (19 + b) := fun b => by
          rw [up_row (by omega) b, up_row (by omega) b]
          unfold SS
          by_cases q : b = a
          · rw [if_pos (by omega), if_pos q]
          · rw [if_neg (by omega), if_neg q]
        refine ⟨⟨by rw [sl 1 (by omega) (by omega) (by omega)]; exact h1.1, h12⟩, ⟨by rw [sl 2 (by omega) (by omega) (by omega)]; exact h2.1, h2.2.1, fun k hk => by rw [sl 11 (by omega) (by omega) (by omega)]; exact h2.2.2 k hk⟩, fun b hb => ?_, by rw [t0 1 (by omega)]; exact h4, by rw [t0 3 (by omega), sl 0 (by omega) (by omega) (by omega)]; exact h5, by rw [t0 5 (by omega)]; exact h6, fun b hb => ?_, fun b hb => ?_, fun b hb => ?_, fun k hk => ?_⟩
        · rw [s9 b]
          by_cases q : b = a
          · rw [if_pos q]; exact ⟨l + 1, by omega, rfl⟩
          · rw [if_neg q]; exact h3 b hb
        · rw [tl 1 (by omega) (by omega) (by omega), tl 2 (by omega) (by omega) (by omega), tl 3 (by omega) (by omega) (by omega), tl 4 (by omega) (by omega) (by omega), tl 5 (by omega) (by omega) (by omega), tl 6 (by omega) (by omega) (by omega), tl 7 (by omega) (by omega) (by omega), sl 4 (by omega) (by omega) (by omega), sl 5 (by omega) (by omega) (by omega), sl 6 (by omega) (by omega) (by omega), sl 7 (by omega) (by omega) (by omega), sl 15 (by omega) (by omega) (by omega), sl 16 (by omega) (by omega) (by omega), sl 17 (by omega) (by omega) (by omega)]
          exact h7 b hb
        · rw [sl 4 (by omega) (by omega) (by omega), sl 5 (by omega) (by omega) (by omega), sl 6 (by omega) (by omega) (by omega), sl 15 (by omega) (by omega) (by omega), sl 16 (by omega) (by omega) (by omega), sl 17 (by omega) (by omega) (by omega)]
          exact h8 b hb
        · rw [s9 b, t9 b, sr b]
          by_cases q : b = a
          · subst q
            rw [if_pos rfl, if_pos rfl, if_pos rfl, ix_nI (by omega)]
            refine ⟨rfl, fun k hk => ?_⟩
            rw [t8, if_pos (by omega), show 20 * b + k - 20 * b = k by omega]
          · rw [if_neg q, if_neg q, if_neg q]
            obtain ⟨g1, g2⟩ := h9 b hb
            refine ⟨g1, fun k hk => ?_⟩
            obtain ⟨j, hj, ej⟩ := h3 b hb
            have hk20 : k < 20 := by rw [ej, ix_nI (by omega)] at hk; omega
            rw [t8, if_neg (by omega)]
            exact g2 k hk
        · rw [tl 11 (by omega) (by omega) (by omega), tl 12 (by omega) (by omega) (by omega), tl 13 (by omega) (by omega) (by omega), sl 11 (by omega) (by omega) (by omega), sl 12 (by omega) (by omega) (by omega), sl 13 (by omega) (by omega) (by omega)]
          exact h10 k hk
      · have sl : ∀ k, k < 19 → k ≠ 9 → k ≠ 3 → up (up (SS S a row) 9 a (nI (l + 1))) 3 0 0 k = S k := fun k hk k9 k3 => by
          rw [up_ne k3, up_ne k9, SS_lt S a row hk]
        have t0 : ∀ j, j ≠ 4 → up (TT T a (l + 1, row)) 0 4 0 0 j = T 0 j := fun j hj => by
          show upd (TT T a (l + 1, row) 0) 4 0 j = _
          rw [upd_ne hj, TT_lt T a _ (by omega) (by omega)]
        have s18 := sl 18 (by omega) (by omega) (by omega)
        refine ⟨fun b hb => by rw [s18]; exact x1 b hb, ?_, ?_, ?_, ⟨rfl, ?_, by omega, fun k hk => absurd hk (Nat.not_lt_zero k)⟩, fun b hb hb2 => ?_⟩
        · rw [t0 2 (by omega), sl 0 (by omega) (by omega) (by omega)]; exact x2
        · rw [t0 0 (by omega), x3]
          unfold gm
          rw [s18]
        · rw [t0 6 (by omega), t0 7 (by omega)]; exact x4
        · rfl
        · obtain ⟨y1, y2, y3, y4, y5, y6⟩ := x6 b hb hb2
          rw [sl 15 (by omega) (by omega) (by omega), sl 16 (by omega) (by omega) (by omega), sl 17 (by omega) (by omega) (by omega), s18]
          refine ⟨y1, y2, y3, y4, ?_, ?_⟩
          · show upd (SS S a row 9) a (nI (l + 1)) b = 0
            rw [upd_ne (by omega), SS_lt S a row (by omega)]; exact y5
          · rw [up_ne (by omega), TT_lt T a _ (by omega) (by omega)]; exact y6
  · rw [e1, if_neg (hno j (by omega)).1, if_neg (hno j (by omega)).2]
    exact ⟨-5, S, T, rfl, rfl, hrel⟩
