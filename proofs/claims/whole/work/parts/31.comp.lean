/-! loops, and the class's readings: what they answer -/
def anyb : Nat → (Nat → Bool) → Bool
  | 0, _ => false
  | n + 1, P => anyb n P || P n
theorem anyb_iff {P : Nat → Bool} : ∀ {n : Nat}, anyb n P = true ↔ ∃ i, i < n ∧ P i = true
  | 0 => by simp [anyb]
  | n + 1 => by
    rw [anyb, Bool.or_eq_true, anyb_iff (n := n)]
    constructor
    · rintro (⟨i, h1, h2⟩ | h)
      · exact ⟨i, by omega, h2⟩
      · exact ⟨n, by omega, h⟩
    · rintro ⟨i, h1, h2⟩
      rcases Nat.lt_or_ge i n with q | q
      · exact Or.inl ⟨i, q, h2⟩
      · rw [show i = n by omega] at h2; exact Or.inr h2
theorem anyb_t {P : Nat → Bool} {n i : Nat} (h : i < n) (hp : P i = true) : anyb n P = true := anyb_iff.mpr ⟨i, h, hp⟩
theorem anyb_f {P : Nat → Bool} {n : Nat} (h : ∀ i, i < n → P i = false) : anyb n P = false := by
  cases e : anyb n P with
  | false => rfl
  | true => obtain ⟨i, h1, h2⟩ := anyb_iff.mp e; rw [h i h1] at h2; cases h2
theorem anyb_c {P Q : Nat → Bool} {n : Nat} (h : ∀ i, i < n → P i = Q i) : anyb n P = anyb n Q := by
  cases e : anyb n Q with
  | false => exact anyb_f (fun i hi => by rw [h i hi]; cases q : Q i with | false => rfl | true => rw [anyb_t hi q] at e; cases e)
  | true => obtain ⟨i, h1, h2⟩ := anyb_iff.mp e; exact anyb_t h1 (by rw [h i h1]; exact h2)
/-- a loop that counts up, with one number beside -/
def fo {α : Type} (st : Nat → α → α) : Nat → α → α
  | 0, a => a
  | n + 1, a => st n (fo st n a)
theorem fo_from {α : Type} {β : Type} (L : Nat → α → Int32 → Option β) (N : Nat) (st : Nat → α → α) (fin : α → Option β) (a0 : α) (hstop : ∀ f acc, L (f + 1) acc (nI N) = fin acc) (hstep : ∀ f acc i, i < N → L (f + 1) acc (nI i) = L f (st i acc) (nI (i + 1))) :
    ∀ f i, i ≤ N → N < i + f → L f (fo st i a0) (nI i) = fin (fo st N a0) := by
  intro f
  induction f with
  | zero => intro i h1 h2; omega
  | succ f ih =>
    intro i h1 h2
    rcases Nat.lt_or_ge i N with q | q
    · rw [hstep f _ i q]
      exact ih (i + 1) q (by omega)
    · rw [show i = N by omega, hstop]
theorem fo_loop {α : Type} {β : Type} (L : Nat → α → Int32 → Option β) (N : Nat) (st : Nat → α → α) (fin : α → Option β) {F : Nat} (hF : N < F) (a0 : α) (hstop : ∀ f acc, L (f + 1) acc (nI N) = fin acc) (hstep : ∀ f acc i, i < N → L (f + 1) acc (nI i) = L f (st i acc) (nI (i + 1))) : L F a0 0 = fin (fo st N a0) :=
  fo_from L N st fin a0 hstop hstep F 0 (Nat.zero_le _) (by omega)
theorem fo_mk (P : Nat → Bool) : ∀ n, fo (fun i acc => acc ||| (if P i = true then one i else 0)) n 0 = mk n P
  | 0 => rfl
  | n + 1 => by rw [fo, fo_mk P n]; rfl
theorem mk_loop (L : Nat → Int32 → Int32 → Option Int32) (N : Nat) (P : Nat → Bool) {F : Nat} (hF : N < F) (hstop : ∀ f acc, L (f + 1) acc (nI N) = some acc) (hstep : ∀ f acc i, i < N → L (f + 1) acc (nI i) = L f (acc ||| (if P i = true then one i else 0)) (nI (i + 1))) : L F 0 0 = some (mk N P) := by
  rw [fo_loop L N _ some hF 0 hstop hstep, fo_mk]
theorem le_t {n i : Nat} (h : n ≤ i) (hi : i < 2 ^ 31) : nI n ≤ nI i := nI_le h hi
theorem le_f {n i : Nat} (h : i < n) (hn : n < 2 ^ 31) : ¬ nI n ≤ nI i := nI_ge h hn
/-- the number of acts -/
def nA (S : St) (n : Nat) : Prop := S 1 0 = nI n ∧ n ≤ 12
theorem has_s {S : St} {n : Nat} (hn : nA S n) (p : Int32) : m_X0_has S p = some (bi (rb p 0 ((n : Int) - 1))) := by
  unfold m_X0_has rb
  rw [hn.1]
  have hN := nI_toInt (n := n) (by have := hn.2; omega)
  by_cases h1 : p < 0
  · have h1' := Int32.lt_iff_toInt_lt.mp h1
    rw [if_pos h1, decide_eq_false (fun q => by simp at h1'; omega)]; rfl
  · have h1' : (0 : Int32).toInt ≤ p.toInt := Int.not_lt.mp (fun q => h1 (Int32.lt_iff_toInt_lt.mpr q))
    simp at h1'
    rw [if_neg h1]
    by_cases h2 : nI n ≤ p
    · have h2' := Int32.le_iff_toInt_le.mp h2
      rw [if_pos h2, decide_eq_false (fun q => by omega)]; rfl
    · have h2' : p.toInt < (nI n).toInt := Int.not_le.mp (fun q => h2 (Int32.le_iff_toInt_le.mpr q))
      rw [if_neg h2, decide_eq_true ⟨h1', by omega⟩]; rfl
theorem rb_nI {p : Int32} {n : Nat} (h : rb p 0 ((n : Int) - 1) = true) : ∃ a, a < n ∧ p = nI a := by
  have h1 := of_decide_eq_true h
  obtain ⟨j, hj, e⟩ := nI_of (x := p) (fun q => by have := Int32.lt_iff_toInt_lt.mp q; simp at this; omega)
  refine ⟨j, ?_, e⟩
  rw [e, nI_toInt hj] at h1
  omega
def dn (S : St) (a : Nat) (d : Int32) : Bool := decide (¬ d < S 4 a)
theorem isDone_s {S : St} {a : Nat} (ha : a < 12) (d : Int32) : m_X0_isDone S (nI a) d = some (bi (dn S a d)) := by
  unfold m_X0_isDone dn
  rw [gd_nI ha (by omega), ix_nI (by omega)]
  by_cases h : d < S 4 a <;> simp [h, bi]
def hd (S : St) (a : Nat) (d : Int32) : Bool := !decide (S 17 a = -1) && decide (¬ d < S 17 a)
theorem isHealed_s {S : St} {a : Nat} (ha : a < 12) (d : Int32) : m_X0_isHealed S (nI a) d = some (bi (hd S a d)) := by
  unfold m_X0_isHealed hd
  rw [gd_nI ha (by omega), ix_nI (by omega), nm_d]
  by_cases h : S 17 a = -1
  · simp [h, bi]
  · by_cases h2 : d < S 17 a <;> simp [h, h2, bi]
def ng (S : St) (a : Nat) (d : Int32) : Bool := decide (S 15 a = 1) && !hd S a d
theorem isNought_s {S : St} {a : Nat} (ha : a < 12) (d : Int32) : m_X0_isNought S (nI a) d = some (bi (ng S a d)) := by
  unfold m_X0_isNought ng
  rw [gd_nI ha (by omega), ix_nI (by omega), isHealed_s ha, bs, if_bi]
  by_cases h : S 15 a = 1 <;> cases h2 : hd S a d <;> simp [h, bi]
def lts (S : St) (a : Nat) (w : Int32) : Bool := decide (S 15 a = 4) || (decide (S 15 a = 2) && decide (w = S 5 a)) || (decide (S 15 a = 3) && decide (w = S 6 a))
theorem lets_s {S : St} {a : Nat} (ha : a < 12) (w : Int32) : m_X0_lets S (nI a) w = some (bi (lts S a w)) := by
  unfold m_X0_lets m_X0_lets_29 lts
  simp only [gd_nI ha (show 12 ≤ 1000 by omega), ix_nI (show a < 2 ^ 31 by omega), nm_d]
  by_cases h : S 15 a = 4
  · simp [h, bi]
  · by_cases h2 : S 15 a = 2
    · by_cases h3 : w = S 5 a <;> simp [h2, h3, bi]
    · by_cases h4 : S 15 a = 3
      · by_cases h3 : w = S 6 a <;> simp [h4, h3, bi]
      · simp [h, h2, h4, bi]
def itm (S : St) (a : Nat) (d : Int32) : Bool := dn S a d && decide (¬ S 16 a < d - S 4 a) && !hd S a d
theorem isInTime_s {S : St} {a : Nat} (ha : a < 12) (d : Int32) : m_X0_isInTime S (nI a) d = some (bi (itm S a d)) := by
  unfold m_X0_isInTime itm
  rw [isDone_s ha, bs, if_bi]
  simp only [gd_nI ha (show 12 ≤ 1000 by omega), ix_nI (show a < 2 ^ 31 by omega), isHealed_s ha, bs, if_bi]
  cases h1 : dn S a d <;> cases h2 : hd S a d <;> by_cases h : S 16 a < d - S 4 a <;> simp [h, bi]
def wc (S : St) (a : Nat) (w d : Int32) : Bool := lts S a w && itm S a d
theorem wouldCount_s {S : St} {a : Nat} (ha : a < 12) (w d : Int32) : m_X0_wouldCount S (nI a) w d = some (bi (wc S a w d)) := by
  unfold m_X0_wouldCount wc
  rw [lets_s ha, bs, if_bi, isInTime_s ha, bs, if_bi]
  cases lts S a w <;> cases itm S a d <;> rfl
theorem unhurtOn_s {S : St} {n F : Nat} (hn : nA S n) (hF : 5000 ≤ F) (d : Int32) : m_X0_unhurtOn F S d = some (mk n (fun a => dn S a d && !ng S a d)) := by
  have h12 := hn.2
  refine mk_loop (m_X0_unhurtOn_4 F S d) n _ (by omega) (fun f acc => ?_) (fun f acc i hi => ?_)
  · rw [m_X0_unhurtOn_4, hn.1, if_pos (le_t (Nat.le_refl n) (by omega))]
  · rw [m_X0_unhurtOn_4, hn.1, if_neg (le_f hi (by omega)), isDone_s (by omega), bs, if_bi, isNought_s (by omega), bs, if_bi]
    simp only [nm_d, nI_1, one_def]
    cases dn S i d <;> cases ng S i d <;> simp [or_0]
/-- the askings: a mask of those acts that one strikes -/
def ap (S : St) (d : Int32) (k : Nat) : Bool := decide (¬ d < S 13 k) && wc S (ix (S 11 k)) (S 12 k) (S 13 k)
/-- the askings are such -/
def nK (S : St) (n c : Nat) : Prop := S 2 0 = nI c ∧ c ≤ 12 ∧ ∀ k, k < c → ∃ a, a < n ∧ S 11 k = nI a
theorem isCounted_s {S : St} {n c k : Nat} (hn : nA S n) (hk : nK S n c) (h : k < c) : m_X1_isCounted S (nI k) = some (bi (wc S (ix (S 11 k)) (S 12 k) (S 13 k))) := by
  have h12 := hn.2
  have hc := hk.2.1
  obtain ⟨a, ha, e⟩ := hk.2.2 k h
  unfold m_X1_isCounted
  simp only [gd_nI (show k < 12 by omega) (show 12 ≤ 1000 by omega), ix_nI (show k < 2 ^ 31 by omega)]
  rw [e, wouldCount_s (by omega), bs, gd_bz, ix_nI (by omega)]
theorem struckBy_s {S : St} {n c F : Nat} (hn : nA S n) (hk : nK S n c) (hF : 5000 ≤ F) (d : Int32) : ∃ x, m_X1_struckBy F S d = some x ∧ ∀ i, i < 32 → bt x i = anyb c (fun k => ap S d k && decide (S 11 k = nI i)) := by
  have h12 := hn.2
  have hc := hk.2.1
  refine ⟨_, fo_loop (m_X1_struckBy_5 F S d) c (fun k acc => acc ||| (if ap S d k = true then one (ix (S 11 k)) else 0)) some (by omega) 0 (fun f acc => ?_) (fun f acc i hi => ?_), ?_⟩
  · rw [m_X1_struckBy_5, hk.1, if_pos (le_t (Nat.le_refl c) (by omega))]
  · obtain ⟨a, ha, e⟩ := hk.2.2 i hi
    rw [m_X1_struckBy_5, hk.1, if_neg (le_f hi (by omega)), isCounted_s hn hk hi, bs, if_bi]
    simp only [gd_nI (show i < 12 by omega) (show 12 ≤ 1000 by omega), ix_nI (show i < 2 ^ 31 by omega), nm_d, nI_1]
    unfold ap
    rw [e, ix_nI (by omega), one_def]
    by_cases h : d < S 13 i <;> cases wc S a (S 12 i) (S 13 i) <;> simp [h, or_0]
  · intro i hi
    have key : ∀ m, m ≤ c → bt (fo (fun k acc => acc ||| (if ap S d k = true then one (ix (S 11 k)) else 0)) m 0) i = anyb m (fun k => ap S d k && decide (S 11 k = nI i)) := by
      intro m
      induction m with
      | zero => intro _; rw [fo, b_0, anyb]
      | succ m ih =>
        intro hm
        obtain ⟨a, ha, e⟩ := hk.2.2 m (by omega)
        rw [fo, anyb, b_or, ih (by omega), e, ix_nI (by omega)]
        congr 1
        cases ap S d m
        · simp [b_0]
        · simp only [if_true, Bool.true_and]
          rw [b_one (by omega) hi]
          congr 1
          apply propext
          rw [nI_eq (by omega) (by omega)]
          omega
    exact key c (Nat.le_refl c)
/-- sound on a day -/
def sd (S : St) (c : Nat) (d : Int32) (a : Nat) : Bool := dn S a d && !ng S a d && !anyb c (fun k => ap S d k && decide (S 11 k = nI a))
def sn (S : St) (n c : Nat) (d : Int32) : Int32 := mk n (sd S c d)
theorem soundOn_s {S : St} {n c F : Nat} (hn : nA S n) (hk : nK S n c) (hF : 5000 ≤ F) (d : Int32) : m_X3_soundOn F S d = some (sn S n c d) := by
  have h12 := hn.2
  obtain ⟨x, hx, hb⟩ := struckBy_s hn hk hF d
  unfold m_X3_soundOn
  rw [unhurtOn_s hn hF, bs, hx, bs]
  congr 1
  apply b_ext
  intro i hi
  unfold sn
  rw [b_and, b_not _ hi, bt_mk _ hi n (by omega), bt_mk _ hi n (by omega), hb i hi]
  unfold sd
  cases decide (i < n) <;> simp
def gm (S : St) (n : Nat) : Int32 := mk n (fun a => decide (S 18 a = 1))
def nG (S : St) (n : Nat) : Prop := ∀ a, a < n → S 18 a = 0 ∨ S 18 a = 1
theorem shl0 (i : Nat) : (0 : Int32) <<< (nI i &&& 31) = 0 ∨ 32 ≤ i := by
  rcases Nat.lt_or_ge i 32 with h | h
  · left
    apply b_ext
    intro j hj
    rw [b_shl i h 0 hj, b_0, b_0, Bool.and_false]
  · exact Or.inr h
theorem goodOnes_s {S : St} {n F : Nat} (hn : nA S n) (hg : nG S n) (hF : 5000 ≤ F) : m_X0_goodOnes F S = some (gm S n) := by
  have h12 := hn.2
  refine mk_loop (m_X0_goodOnes_4 F S) n _ (by omega) (fun f acc => ?_) (fun f acc i hi => ?_)
  · rw [m_X0_goodOnes_4, hn.1, if_pos (le_t (Nat.le_refl n) (by omega))]
  · rw [m_X0_goodOnes_4, hn.1, if_neg (le_f hi (by omega))]
    simp only [gd_nI (show i < 12 by omega) (show 12 ≤ 1000 by omega), ix_nI (show i < 2 ^ 31 by omega), nm_d, nI_1]
    rcases hg i hi with h | h
    · rcases shl0 i with q | q
      · rw [h, q]; simp
      · omega
    · rw [h, one_def]; simp
def ex (law : Int32) (g : Int32) : Int32 := if law = 1 then g else 0
theorem exemptBy_s (p g : Int32) : m_X3_exemptBy p g = some (ex p g) := by
  unfold m_X3_exemptBy ex
  split <;> rfl
theorem exempt_s {S : St} {n F : Nat} (hn : nA S n) (hg : nG S n) (hF : 5000 ≤ F) : m_X3_exempt F S = some (ex (S 0 0) (gm S n)) := by
  unfold m_X3_exempt
  rw [goodOnes_s hn hg hF, bs, exemptBy_s, bs]
/-- the texts are such -/
def nT (S : St) : Prop := ∀ a, a < 12 → ∃ j, j ≤ 20 ∧ S 9 a = nI j
def hp (S : St) (a : Nat) (x : Int32) (k : Nat) : Bool := decide ((S (19 + a) k &&& (x ^^^ (-1))) = 0)
def hl (S : St) (a : Nat) (x : Int32) : Bool := decide (S 9 a = 0) || anyb (ix (S 9 a)) (hp S a x)
theorem held_loop {F : Nat} {S : St} {a : Nat} {x : Int32} {j : Nat} (ha : a < 12) (hj : j ≤ 20) : ∀ f k, k ≤ j → j < k + f → (∀ i, i < k → hp S a x i = false) → m_X0_isHeldUp_10 F S (nI a) x f (nI j) (nI k) = some (bi (decide (j = 0) || anyb j (hp S a x))) := by
  intro f
  induction f with
  | zero => intro k h1 h2; omega
  | succ f ih =>
    intro k h1 h2 h3
    rw [m_X0_isHeldUp_10]
    rcases Nat.lt_or_ge k j with q | q
    · rw [if_neg (le_f q (by omega)), gd_nI ha (by omega), gd_nI (show k < 20 by omega) (by omega), ix_nI (by omega), ix_nI (by omega), nm_d, nI_1]
      by_cases h : (S (19 + a) k &&& (x ^^^ (-1))) = 0
      · rw [if_pos h, anyb_t q (show hp S a x k = true from decide_eq_true h), Bool.or_true]; rfl
      · rw [if_neg h]
        refine ih (k + 1) q (by omega) (fun i hi => ?_)
        rcases Nat.lt_or_ge i k with g | g
        · exact h3 i g
        · rw [show i = k by omega]; exact decide_eq_false h
    · have e : k = j := by omega
      subst e
      rw [if_pos (le_t (Nat.le_refl k) (by omega)), anyb_f h3, Bool.or_false]
      rcases Nat.eq_zero_or_pos k with g | g
      · subst g; rfl
      · rw [if_neg (nI_ne0 g (by omega)), decide_eq_false (by omega)]; rfl
theorem isHeldUp_s {S : St} {F a : Nat} (hT : nT S) (hF : 5000 ≤ F) (ha : a < 12) (x : Int32) : m_X0_isHeldUp F S (nI a) x = some (bi (hl S a x)) := by
  obtain ⟨j, hj, e⟩ := hT a ha
  unfold m_X0_isHeldUp hl
  rw [gd_nI ha (by omega), ix_nI (by omega), nm_d, e, ix_nI (by omega)]
  have h := held_loop (F := F) (S := S) (x := x) ha hj F 0 (Nat.zero_le _) (by omega) (fun i hi => absurd hi (Nat.not_lt_zero i))
  rw [show (nI 0 : Int32) = 0 from rfl] at h
  rw [h]
  congr 3
  rw [← nI_0]
  simp only [nI_eq (show j < 2 ^ 31 by omega) (show 0 < 2 ^ 31 by omega)]
/-- what a set doesn't hold up -/
def un (S : St) (n : Nat) (E x : Int32) : Int32 := mk n (fun a => bt x a && !bt E a && !hl S a x)
theorem unheld_s {S : St} {n F : Nat} (hn : nA S n) (hT : nT S) (hF : 5000 ≤ F) (x E : Int32) : m_X0_unheld F S x E = some (un S n E x) := by
  have h12 := hn.2
  unfold m_X0_unheld
  rw [nm_d]
  refine mk_loop (fun f acc i => m_X0_unheld_12 F S x E f (x &&& (E ^^^ (-1))) acc i) n _ (by omega) (fun f acc => ?_) (fun f acc i hi => ?_)
  · show m_X0_unheld_12 F S x E (f + 1) (x &&& (E ^^^ (-1))) acc (nI n) = _
    rw [m_X0_unheld_12, hn.1, if_pos (le_t (Nat.le_refl n) (by omega))]
  · show m_X0_unheld_12 F S x E (f + 1) (x &&& (E ^^^ (-1))) acc (nI i) = _
    rw [m_X0_unheld_12, hn.1, if_neg (le_f hi (by omega)), contains_s _ (by omega), bs, if_bi, isHeldUp_s hT hF (by omega), bs, if_bi, b_and, b_not _ (by omega)]
    simp only [nm_d, nI_1, one_def]
    cases bt x i <;> cases bt E i <;> cases hl S i x <;> simp [or_0]
