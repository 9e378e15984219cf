/-! bits of Int32 (the family 'Int32 by its bits' of laws/BITS.to-paste, and rows of my own) -/
def bt (x : Int32) (i : Nat) : Bool := x.toBitVec.getLsbD i
theorem b_ext {x y : Int32} (h : ∀ i, i < 32 → bt x i = bt y i) : x = y := Int32.toBitVec_inj.mp (BitVec.eq_of_getLsbD_eq (fun i hi => h i hi))
theorem b_or (x y : Int32) (i : Nat) : bt (x ||| y) i = (bt x i || bt y i) := by unfold bt; rw [Int32.toBitVec_or, BitVec.getLsbD_or]
theorem b_and (x y : Int32) (i : Nat) : bt (x &&& y) i = (bt x i && bt y i) := by unfold bt; rw [Int32.toBitVec_and, BitVec.getLsbD_and]
theorem b_xor (x y : Int32) (i : Nat) : bt (x ^^^ y) i = (bt x i ^^ bt y i) := by unfold bt; rw [Int32.toBitVec_xor, BitVec.getLsbD_xor]
theorem b_big {x : Int32} {i : Nat} (h : 32 ≤ i) : bt x i = false := BitVec.getLsbD_of_ge _ _ h
theorem b_m1 : ∀ i, i < 32 → bt (-1) i = true := by decide +kernel
theorem b_0 (i : Nat) : bt 0 i = false := BitVec.getLsbD_zero
theorem b_1 : ∀ i, i < 32 → bt 1 i = decide (i = 0) := by decide +kernel
theorem s_l : ∀ n, n < 32 → ((nI n &&& 31).toBitVec.smod 32).toNat = n := by decide +kernel
theorem b_shl (n : Nat) (hn : n < 32) (x : Int32) {i : Nat} (hi : i < 32) : bt (x <<< (nI n &&& 31)) i = (decide (n ≤ i) && bt x (i - n)) := by
  unfold bt
  rw [Int32.toBitVec_shiftLeft]
  show (x.toBitVec <<< ((nI n &&& 31).toBitVec.smod 32).toNat).getLsbD i = _
  rw [s_l n hn, BitVec.getLsbD_shiftLeft]
  rcases Nat.lt_or_ge i n with h | h
  · simp [h, Nat.not_le.mpr h]
  · simp [hi, h, Nat.not_lt.mpr h]
theorem b_sshr (n : Nat) (hn : n < 32) (x : Int32) {i : Nat} (hi : i < 32) : bt (x >>> (nI n &&& 31)) i = if n + i < 32 then bt x (n + i) else bt x 31 := by
  unfold bt
  rw [Int32.toBitVec_shiftRight]
  show (x.toBitVec.sshiftRight ((nI n &&& 31).toBitVec.smod 32).toNat).getLsbD i = _
  rw [s_l n hn, BitVec.getLsbD_sshiftRight, BitVec.msb_eq_getLsbD_last]
  simp [hi]
/-- the complement as javac spells it -/
theorem b_not (x : Int32) {i : Nat} (h : i < 32) : bt (x ^^^ (-1)) i = !bt x i := by
  rw [b_xor, b_m1 i h]
  cases bt x i <;> rfl
/-- the bit of a number -/
def one (a : Nat) : Int32 := 1 <<< (nI a &&& 31)
theorem one_def (a : Nat) : (1 : Int32) <<< (nI a &&& 31) = one a := rfl
theorem b_one {a : Nat} (ha : a < 32) {i : Nat} (hi : i < 32) : bt (one a) i = decide (i = a) := by
  unfold one
  rw [b_shl a ha 1 hi]
  rcases Nat.lt_or_ge i a with h | h
  · rw [decide_eq_false (by omega), decide_eq_false (by omega)]; rfl
  · rw [b_1 (i - a) (by omega), decide_eq_true h]
    simp only [Bool.true_and]
    congr 1
    apply propext
    omega
def bi (b : Bool) : Int32 := if b = true then 1 else 0
theorem bi_t : bi true = 1 := rfl
theorem bi_f : bi false = 0 := rfl
theorem bi_0 (b : Bool) : (bi b = 0) = (b = false) := by cases b <;> simp [bi]
theorem bi_1 (b : Bool) : (bi b = 1) = (b = true) := by cases b <;> simp [bi]
theorem if_bi {α : Type} (b : Bool) (x y : α) : (if bi b = 0 then x else y) = if b = true then y else x := by cases b <;> rfl
theorem bz_bi (b : Bool) : bz (bi b) = true := by cases b <;> rfl
theorem nm_d {α : Type} (e : Int32) (k : Int32 → Option α) : nm e k = k e := rfl
theorem gd_t {α : Type} (k : Option α) : gd true k = k := rfl
theorem inb_nI {a N : Nat} (h : a < N) (hN : N ≤ 1000) : inb (nI a) N = true := decide_eq_true (vp_in_nI h (by omega))
theorem gd_nI {α : Type} {a N : Nat} (h : a < N) (hN : N ≤ 1000) (k : Option α) : gd (inb (nI a) N) k = k := by rw [inb_nI h hN]; rfl
theorem gd_bz {α : Type} (b : Bool) (k : Option α) : gd (bz (bi b)) k = k := by rw [bz_bi]; rfl
theorem ix_nI {a : Nat} (h : a < 2 ^ 31) : ix (nI a) = a := nI_clamp h
theorem bs {α β : Type} (a : α) (f : α → Option β) : (some a).bind f = f a := rfl
/-- x >> a & 1 is the bit -/
theorem has_bit (x : Int32) {a : Nat} (ha : a < 32) : (((x >>> (nI a &&& 31)) &&& 1) = 1) = (bt x a = true) := by
  apply propext
  have e : ((x >>> (nI a &&& 31)) &&& 1) = bi (bt x a) := by
    apply b_ext
    intro i hi
    rw [b_and, b_1 i hi, b_sshr a ha x hi]
    rcases Nat.eq_zero_or_pos i with h | h
    · subst h
      rw [Nat.add_zero, if_pos ha]
      cases bt x a <;> simp [bi, b_0, b_1 0 (by omega)]
    · rw [decide_eq_false (by omega)]
      have h1 : bt (bi (bt x a)) i = false := by
        cases bt x a
        · exact b_0 i
        · show bt 1 i = false
          rw [b_1 i hi, decide_eq_false (by omega)]
      rw [h1]; simp
  rw [e, bi_1]
theorem contains_s (x : Int32) {a : Nat} (ha : a < 32) : m_X3_contains x (nI a) = some (bi (bt x a)) := by
  unfold m_X3_contains
  simp only [has_bit x ha]
  cases bt x a <;> rfl
/-- the mask of those below n with P -/
def mk : Nat → (Nat → Bool) → Int32
  | 0, _ => 0
  | n + 1, P => mk n P ||| (if P n = true then one n else 0)
theorem bt_mk (P : Nat → Bool) {i : Nat} (hi : i < 32) : ∀ n, n ≤ 32 → bt (mk n P) i = (decide (i < n) && P i)
  | 0, _ => by rw [mk, b_0]; simp
  | n + 1, h => by
    rw [mk, b_or, bt_mk P hi n (by omega)]
    have e : bt (if P n = true then one n else 0) i = (decide (i = n) && P n) := by
      split
      · rw [b_one (by omega) hi]; simp [*]
      · rw [b_0]; simp [*]
    rw [e]
    rcases Nat.lt_trichotomy i n with q | q | q
    · rw [decide_eq_true q, decide_eq_false (show ¬ i = n by omega), decide_eq_true (show i < n + 1 by omega)]; simp
    · subst q; simp
    · rw [decide_eq_false (show ¬ i < n by omega), decide_eq_false (show ¬ i = n by omega), decide_eq_false (show ¬ i < n + 1 by omega)]; simp
theorem mk_congr {P Q : Nat → Bool} : ∀ n, (∀ i, i < n → P i = Q i) → mk n P = mk n Q
  | 0, _ => rfl
  | n + 1, h => by rw [mk, mk, mk_congr n (fun i hi => h i (by omega)), h n (by omega)]
theorem mk_s {n : Nat} {P : Nat → Bool} : mk (n + 1) P = mk n P ||| (if P n = true then one n else 0) := rfl
theorem mk_t {n : Nat} {P : Nat → Bool} (h : P n = true) : mk (n + 1) P = mk n P ||| one n := by rw [mk, if_pos h]
theorem or_0 (x : Int32) : x ||| 0 = x := b_ext (fun i _ => by rw [b_or, b_0, Bool.or_false])
theorem mk_f {n : Nat} {P : Nat → Bool} (h : P n = false) : mk (n + 1) P = mk n P := by rw [mk, if_neg (by rw [h]; simp), or_0]
theorem mk_f0 {n : Nat} {P : Nat → Bool} (h : P n = false) : mk (n + 1) P = mk n P ||| 0 := by rw [mk_f h, or_0]
/-- ranges -/
def rg (x : Int32) (lo hi : Int) : Prop := lo ≤ x.toInt ∧ x.toInt ≤ hi
theorem rgd (x : Int32) (lo hi : Int) : rg x lo hi ↔ (lo ≤ x.toInt ∧ x.toInt ≤ hi) := Iff.rfl
def rb (x : Int32) (lo hi : Int) : Bool := decide (lo ≤ x.toInt ∧ x.toInt ≤ hi)
theorem within_s (v lo hi : Int32) : m_X3_within v lo hi = some (bi (rb v lo.toInt hi.toInt)) := by
  unfold m_X3_within rb
  by_cases h1 : v < lo
  · rw [if_pos h1, decide_eq_false (fun q => absurd (Int32.lt_iff_toInt_lt.mp h1) (by omega))]; rfl
  · rw [if_neg h1]
    have h1' : lo.toInt ≤ v.toInt := Int.not_lt.mp (fun q => h1 (Int32.lt_iff_toInt_lt.mpr q))
    by_cases h2 : hi < v
    · rw [if_pos h2, decide_eq_false (fun q => absurd (Int32.lt_iff_toInt_lt.mp h2) (by omega))]; rfl
    · have h2' : v.toInt ≤ hi.toInt := Int.not_lt.mp (fun q => h2 (Int32.lt_iff_toInt_lt.mpr q))
      rw [if_neg h2, decide_eq_true ⟨h1', h2'⟩]; rfl
theorem isDay_s (v : Int32) : m_X3_isDay v = some (bi (rb v 0 99)) := by
  unfold m_X3_isDay
  rw [within_s, bs, gd_bz]; rfl
theorem isWho_s (v : Int32) : m_X3_isWho v = some (bi (rb v 0 3)) := by
  unfold m_X3_isWho
  rw [within_s, bs, gd_bz]; rfl
theorem lg_lt (x y : Int64) : (lg_cmp x y < 0) = (x < y) := by
  rw [← Int32.not_le, lg_cmp_ge, Int64.not_le]
theorem lg_gt (x y : Int64) : (0 < lg_cmp x y) = (y < x) := by
  rw [← Int32.not_le, lg_cmp_le, Int64.not_le]
theorem in_s (v lo hi : Int64) : m_X4_in v lo hi = some (bi (decide (lo.toInt ≤ v.toInt ∧ v.toInt ≤ hi.toInt))) := by
  unfold m_X4_in
  simp only [lg_lt, lg_gt]
  by_cases h1 : v < lo
  · rw [if_pos h1, decide_eq_false (fun q => absurd (Int64.lt_iff_toInt_lt.mp h1) (by omega))]; rfl
  · rw [if_neg h1]
    have h1' : lo.toInt ≤ v.toInt := Int.not_lt.mp (fun q => h1 (Int64.lt_iff_toInt_lt.mpr q))
    by_cases h2 : hi < v
    · rw [if_pos h2, decide_eq_false (fun q => absurd (Int64.lt_iff_toInt_lt.mp h2) (by omega))]; rfl
    · have h2' : v.toInt ≤ hi.toInt := Int.not_lt.mp (fun q => h2 (Int64.lt_iff_toInt_lt.mpr q))
      rw [if_neg h2, decide_eq_true ⟨h1', h2'⟩]; rfl
theorem t64 (v : Int32) : (Int32.toInt64 v).toInt = v.toInt := Int32.toInt_toInt64 v
theorem inI_s (v : Int32) (lo hi : Int64) : m_X4_in (Int32.toInt64 v) lo hi = some (bi (rb v lo.toInt hi.toInt)) := by
  rw [in_s, t64]; rfl
theorem isDayM_s (v : Int32) : m_X4_isDay v = some (bi (rb v 0 99)) := by
  unfold m_X4_isDay
  rw [inI_s, bs, gd_bz]; rfl
theorem isWhoM_s (v : Int32) : m_X4_isWho v = some (bi (rb v 0 3)) := by
  unfold m_X4_isWho
  rw [inI_s, bs, gd_bz]; rfl
