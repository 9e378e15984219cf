/-! masks as sets; the greatest part that holds itself up -/
def sb (x y : Int32) : Prop := ∀ i, i < 32 → bt x i = true → bt y i = true
theorem sb_rf (x : Int32) : sb x x := fun _ _ h => h
theorem sb_tr {x y z : Int32} (h1 : sb x y) (h2 : sb y z) : sb x z := fun i hi h => h2 i hi (h1 i hi h)
theorem sb_as {x y : Int32} (h1 : sb x y) (h2 : sb y x) : x = y := b_ext (fun i hi => by
  cases e : bt x i with
  | true => exact (h1 i hi e).symm
  | false => cases e2 : bt y i with
    | false => rfl
    | true => rw [h2 i hi e2] at e; cases e)
theorem sb_0 (x : Int32) : sb 0 x := fun i _ h => by rw [b_0] at h; cases h
theorem sub_iff (x y : Int32) : (x &&& (y ^^^ (-1))) = 0 ↔ sb x y := by
  constructor
  · intro h i hi hx
    have h1 : bt (x &&& (y ^^^ (-1))) i = false := by rw [h, b_0]
    rw [b_and, b_not _ hi, hx, Bool.true_and] at h1
    cases e : bt y i with
    | true => rfl
    | false => rw [e] at h1; cases h1
  · intro h
    apply b_ext
    intro i hi
    rw [b_and, b_not _ hi, b_0]
    cases e : bt x i with
    | false => rfl
    | true => rw [h i hi e]; rfl
theorem sb_andl (x y : Int32) : sb (x &&& y) x := fun i _ h => by rw [b_and, Bool.and_eq_true] at h; exact h.1
theorem sb_andr (x y : Int32) : sb (x &&& y) y := fun i _ h => by rw [b_and, Bool.and_eq_true] at h; exact h.2
theorem sb_and {x y z : Int32} (h1 : sb x y) (h2 : sb x z) : sb x (y &&& z) := fun i hi h => by rw [b_and, h1 i hi h, h2 i hi h]; rfl
theorem sb_orl (x y : Int32) : sb x (x ||| y) := fun i _ h => by rw [b_or, h]; rfl
theorem sb_orr (x y : Int32) : sb y (x ||| y) := fun i _ h => by rw [b_or, h, Bool.or_true]
theorem sb_or {x y z : Int32} (h1 : sb x z) (h2 : sb y z) : sb (x ||| y) z := fun i hi h => by
  rw [b_or, Bool.or_eq_true] at h
  rcases h with h | h
  · exact h1 i hi h
  · exact h2 i hi h
/-- x without the act a -/
def wo (x : Int32) (a : Nat) : Int32 := x &&& (one a ^^^ (-1))
theorem wo_def (x : Int32) (a : Nat) : x &&& ((1 <<< (nI a &&& 31)) ^^^ (-1)) = wo x a := rfl
theorem bt_wo (x : Int32) {a : Nat} (ha : a < 32) {i : Nat} (hi : i < 32) : bt (wo x a) i = (bt x i && !decide (i = a)) := by
  unfold wo
  rw [b_and, b_not _ hi, b_one ha hi]
theorem sb_wo (x : Int32) (a : Nat) : sb (wo x a) x := sb_andl _ _
theorem wo_mono {x y : Int32} (h : sb x y) {a : Nat} (ha : a < 32) : sb (wo x a) (wo y a) := fun i hi q => by
  rw [bt_wo _ ha hi, Bool.and_eq_true] at q
  rw [bt_wo _ ha hi, h i hi q.1, q.2]; rfl
theorem sb_in_wo {x y : Int32} (h : sb x y) {a : Nat} (ha : a < 32) (hn : bt x a = false) : sb x (wo y a) := fun i hi q => by
  rw [bt_wo _ ha hi, h i hi q]
  by_cases e : i = a
  · rw [e, hn] at q; cases q
  · simp [e]
theorem without_s (x : Int32) (a : Nat) : m_X3_without x (nI a) = some (wo x a) := rfl
theorem hp_mono {S : St} {a k : Nat} {x y : Int32} (h : sb x y) (hx : hp S a x k = true) : hp S a y k = true := by
  unfold hp at *
  exact decide_eq_true ((sub_iff _ _).mpr (sb_tr ((sub_iff _ _).mp (of_decide_eq_true hx)) h))
theorem hl_mono {S : St} {a : Nat} {x y : Int32} (h : sb x y) (hx : hl S a x = true) : hl S a y = true := by
  unfold hl at *
  rw [Bool.or_eq_true] at *
  rcases hx with q | q
  · exact Or.inl q
  · obtain ⟨i, h1, h2⟩ := anyb_iff.mp q
    exact Or.inr (anyb_t h1 (hp_mono h h2))
def SH (S : St) (n : Nat) (E y : Int32) : Prop := ∀ a, a < n → bt y a = true → bt E a = true ∨ hl S a y = true
theorem un_0 {S : St} {n : Nat} (hn : n ≤ 12) (E y : Int32) : un S n E y = 0 ↔ SH S n E y := by
  constructor
  · intro h a ha hy
    have h1 : bt (un S n E y) a = false := by rw [h, b_0]
    unfold un at h1
    rw [bt_mk _ (by omega) n (by omega), decide_eq_true ha, Bool.true_and, hy, Bool.true_and] at h1
    cases e1 : bt E a with
    | true => exact Or.inl rfl
    | false => cases e2 : hl S a y with
      | true => exact Or.inr rfl
      | false => rw [e1, e2] at h1; cases h1
  · intro h
    apply b_ext
    intro i hi
    unfold un
    rw [bt_mk _ hi n (by omega), b_0]
    by_cases q : i < n
    · rw [decide_eq_true q, Bool.true_and]
      cases e : bt y i with
      | false => rfl
      | true => rcases h i q e with g | g <;> simp [g]
    · rw [decide_eq_false q]; rfl
/-- a step: what isn't held up goes -/
def gs (S : St) (n : Nat) (E x : Int32) : Int32 := x &&& (un S n E x ^^^ (-1))
def itr (g : Int32 → Int32) : Nat → Int32 → Int32
  | 0, x => x
  | k + 1, x => itr g k (g x)
theorem itr_fix {g : Int32 → Int32} {x : Int32} (h : g x = x) : ∀ k, itr g k x = x
  | 0 => rfl
  | k + 1 => by rw [itr, h, itr_fix h k]
theorem itr_s (g : Int32 → Int32) : ∀ k x, itr g (k + 1) x = g (itr g k x)
  | 0, _ => rfl
  | k + 1, x => by rw [itr, itr_s g k (g x)]; rfl
def cn : Nat → Int32 → Nat
  | 0, _ => 0
  | n + 1, x => cn n x + (if bt x n = true then 1 else 0)
theorem cn_le : ∀ (n : Nat) (x : Int32), cn n x ≤ n
  | 0, _ => Nat.le_refl 0
  | n + 1, x => by rw [cn]; have := cn_le n x; split <;> omega
theorem cn_mono {x y : Int32} (h : sb x y) : ∀ n, n ≤ 32 → cn n x ≤ cn n y
  | 0, _ => Nat.le_refl 0
  | n + 1, hn => by
    rw [cn, cn]
    have := cn_mono h n (by omega)
    cases e : bt x n with
    | false => cases e2 : bt y n <;> simp <;> omega
    | true => rw [h n (by omega) e]; simp; omega
theorem cn_lt {x y : Int32} (h : sb x y) {a : Nat} (hx : bt x a = false) (hy : bt y a = true) : ∀ n, n ≤ 32 → a < n → cn n x < cn n y
  | 0, _, h0 => absurd h0 (Nat.not_lt_zero a)
  | n + 1, hn, ha => by
    rw [cn, cn]
    rcases Nat.lt_or_ge a n with q | q
    · have := cn_lt h hx hy n (by omega) q
      cases e : bt x n with
      | false => cases e2 : bt y n <;> simp <;> omega
      | true => rw [h n (by omega) e]; simp; omega
    · have e : a = n := by omega
      subst e
      have := cn_mono h a (by omega)
      rw [hx, hy]; simp; omega
theorem un_sb {S : St} {n : Nat} (hn : n ≤ 12) (E x : Int32) : sb (un S n E x) x := fun i hi h => by
  unfold un at h
  rw [bt_mk _ hi n (by omega)] at h
  simp only [Bool.and_eq_true] at h
  exact h.2.1.1
theorem gs_sb (S : St) (n : Nat) (E x : Int32) : sb (gs S n E x) x := sb_andl _ _
theorem gs_fix {S : St} {n : Nat} {E x : Int32} (h : un S n E x = 0) : gs S n E x = x := by
  unfold gs
  rw [h]
  apply b_ext
  intro i hi
  rw [b_and, b_not _ hi, b_0]
  cases bt x i <;> rfl
theorem nz_bit {x : Int32} (h : x ≠ 0) : ∃ i, i < 32 ∧ bt x i = true := by
  refine Classical.byContradiction (fun q => h (b_ext (fun i hi => ?_)))
  rw [b_0]
  cases e : bt x i with
  | false => rfl
  | true => exact absurd ⟨i, hi, e⟩ q
theorem gs_cn {S : St} {n : Nat} (hn : n ≤ 12) {E x : Int32} (h : un S n E x ≠ 0) : cn n (gs S n E x) < cn n x := by
  obtain ⟨i, hi, hb⟩ := nz_bit h
  have hin : i < n := by
    have h1 := hb
    unfold un at h1
    rw [bt_mk _ hi n (by omega)] at h1
    simp only [Bool.and_eq_true, decide_eq_true_eq] at h1
    exact h1.1
  refine cn_lt (gs_sb S n E x) (a := i) ?_ (un_sb hn E x i hi hb) n (by omega) hin
  unfold gs
  rw [b_and, b_not _ hi, hb]; simp
theorem itr_un {S : St} {n : Nat} (hn : n ≤ 12) (E : Int32) : ∀ k x, cn n x ≤ k → un S n E (itr (gs S n E) k x) = 0
  | 0, x, h => by
    refine Classical.byContradiction (fun q => ?_)
    have := gs_cn hn (x := itr (gs S n E) 0 x) q
    have e : itr (gs S n E) 0 x = x := rfl
    rw [e] at this
    omega
  | k + 1, x, h => by
    by_cases q : un S n E x = 0
    · rw [itr_fix (gs_fix q)]; exact q
    · rw [itr]
      exact itr_un hn E k _ (by have := gs_cn hn q; omega)
/-- THE MOST -/
def Mo (S : St) (n : Nat) (E x : Int32) : Int32 := itr (gs S n E) 12 x
theorem Mo_un {S : St} {n : Nat} (hn : n ≤ 12) (E x : Int32) : un S n E (Mo S n E x) = 0 := itr_un hn E 12 x (Nat.le_trans (cn_le n x) hn)
theorem Mo_SH {S : St} {n : Nat} (hn : n ≤ 12) (E x : Int32) : SH S n E (Mo S n E x) := (un_0 hn E _).mp (Mo_un hn E x)
theorem itr_sb (S : St) (n : Nat) (E : Int32) : ∀ k x, sb (itr (gs S n E) k x) x
  | 0, x => sb_rf x
  | k + 1, x => by rw [itr]; exact sb_tr (itr_sb S n E k _) (gs_sb S n E x)
theorem Mo_sb (S : St) (n : Nat) (E x : Int32) : sb (Mo S n E x) x := itr_sb S n E 12 x
theorem SH_gs {S : St} {n : Nat} (hn : n ≤ 12) {E x y : Int32} (h : SH S n E y) (hs : sb y x) : sb y (gs S n E x) := fun i hi hy => by
  unfold gs
  rw [b_and, b_not _ hi, hs i hi hy, Bool.true_and]
  unfold un
  rw [bt_mk _ hi n (by omega)]
  by_cases q : i < n
  · rcases h i q hy with g | g
    · rw [g]; simp
    · rw [hl_mono hs g]; simp
  · rw [decide_eq_false q]; rfl
theorem Mo_great {S : St} {n : Nat} (hn : n ≤ 12) {E x y : Int32} (h : SH S n E y) (hs : sb y x) : sb y (Mo S n E x) := by
  have key : ∀ k x, sb y x → sb y (itr (gs S n E) k x) := by
    intro k
    induction k with
    | zero => intro x h; exact h
    | succ k ih => intro x hx; rw [itr]; exact ih _ (SH_gs hn h hx)
  exact key 12 x hs
theorem Mo_mono {S : St} {n : Nat} (hn : n ≤ 12) {E x y : Int32} (h : sb x y) : sb (Mo S n E x) (Mo S n E y) := Mo_great hn (Mo_SH hn E x) (sb_tr (Mo_sb S n E x) h)
theorem Mo_monoE {S : St} {n : Nat} (hn : n ≤ 12) {E E' x : Int32} (h : sb E E') : sb (Mo S n E x) (Mo S n E' x) :=
  Mo_great hn (fun a ha hy => (Mo_SH hn E x a ha hy).imp (fun q => h a (by omega) q) id) (Mo_sb S n E x)
theorem Mo_eq {S : St} {n : Nat} (hn : n ≤ 12) {E x y : Int32} (h1 : sb y x) (h2 : sb (Mo S n E x) y) : Mo S n E y = Mo S n E x :=
  sb_as (Mo_mono hn h1) (Mo_great hn (Mo_SH hn E x) h2)
theorem Mo_idem {S : St} {n : Nat} (hn : n ≤ 12) (E x : Int32) : Mo S n E (Mo S n E x) = Mo S n E x := Mo_eq hn (Mo_sb S n E x) (sb_rf _)
theorem Mo_gs {S : St} {n : Nat} (hn : n ≤ 12) (E x : Int32) : Mo S n E (gs S n E x) = Mo S n E x := Mo_eq hn (gs_sb S n E x) (SH_gs hn (Mo_SH hn E x) (Mo_sb S n E x))
theorem Mo_fix {S : St} {n : Nat} {E x : Int32} (h : un S n E x = 0) : Mo S n E x = x := itr_fix (gs_fix h) 12
/-- without one: of what stands, or of what is sound, the same -/
theorem Mo_wo {S : St} {n : Nat} (hn : n ≤ 12) (E x : Int32) {a : Nat} (ha : a < 32) : Mo S n E (wo (Mo S n E x) a) = Mo S n E (wo x a) := by
  refine Mo_eq hn (wo_mono (Mo_sb S n E x) ha) ?_
  refine sb_in_wo ?_ ha ?_
  · exact Mo_mono hn (sb_wo x a)
  · cases e : bt (Mo S n E (wo x a)) a with
    | false => rfl
    | true =>
      have := Mo_sb S n E (wo x a) a ha e
      rw [bt_wo _ ha ha] at this
      simp at this
theorem Mo_wo0 {S : St} {n : Nat} (hn : n ≤ 12) (E x : Int32) {a : Nat} (ha : a < 32) (h : bt (Mo S n E x) a = false) : Mo S n E (wo x a) = Mo S n E x :=
  Mo_eq hn (sb_wo x a) (sb_in_wo (Mo_sb S n E x) ha h)
theorem most_loop {S : St} {n F : Nat} (hn : nA S n) (hT : nT S) (hF : 5000 ≤ F) (p E : Int32) : ∀ f r x, r ≤ 12 → 12 < r + f → m_X0_most_5 F S p E f x (nI r) = some (itr (gs S n E) (12 - r) x) := by
  intro f
  induction f with
  | zero => intro r x h1 h2; omega
  | succ f ih =>
    intro r x h1 h2
    rw [m_X0_most_5]
    rcases Nat.lt_or_ge r 12 with q | q
    · rw [if_neg (show ¬ (12 : Int32) ≤ nI r from le_f (n := 12) q (by omega)), unheld_s hn hT hF, bs, nm_d, nm_d, nI_1]
      by_cases h : un S n E x = 0
      · rw [if_pos h, itr_fix (gs_fix h)]
      · rw [if_neg h, ih (r + 1) _ (by omega) (by omega), show 12 - r = (12 - (r + 1)) + 1 by omega, itr]
        rfl
    · rw [if_pos (show (12 : Int32) ≤ nI r from le_t (n := 12) q (by omega)), show 12 - r = 0 by omega, itr]
theorem most_s {S : St} {n F : Nat} (hn : nA S n) (hT : nT S) (hF : 5000 ≤ F) (x E : Int32) : m_X0_most F S x E = some (Mo S n E x) := by
  unfold m_X0_most
  exact most_loop hn hT hF x E F 0 x (by omega) (by omega)
/-- THE LEAST -/
def he (S : St) (n : Nat) (x c : Int32) : Int32 := mk n (fun a => bt x a && hl S a c)
theorem heldUpOf_s {S : St} {n F : Nat} (hn : nA S n) (hT : nT S) (hF : 5000 ≤ F) (x c : Int32) : m_X0_heldUpOf F S x c = some (he S n x c) := by
  have h12 := hn.2
  refine mk_loop (m_X0_heldUpOf_5 F S x c) n _ (by omega) (fun f acc => ?_) (fun f acc i hi => ?_)
  · rw [m_X0_heldUpOf_5, hn.1, if_pos (le_t (Nat.le_refl n) (by omega))]
  · rw [m_X0_heldUpOf_5, hn.1, if_neg (le_f hi (by omega)), contains_s _ (by omega), bs, if_bi, isHeldUp_s hT hF (by omega), bs, if_bi]
    simp only [nm_d, nI_1, one_def]
    cases bt x i <;> cases hl S i c <;> simp [or_0]
def hs (S : St) (n : Nat) (x c : Int32) : Int32 := c ||| he S n x c
theorem least_loop {S : St} {n F : Nat} (hn : nA S n) (hT : nT S) (hF : 5000 ≤ F) (p E : Int32) : ∀ f r x, r ≤ 12 → 12 < r + f → m_X0_least_7 F S p E f x (nI r) = some (itr (hs S n p) (12 - r) x) := by
  intro f
  induction f with
  | zero => intro r x h1 h2; omega
  | succ f ih =>
    intro r x h1 h2
    rw [m_X0_least_7]
    rcases Nat.lt_or_ge r 12 with q | q
    · rw [if_neg (show ¬ (12 : Int32) ≤ nI r from le_f (n := 12) q (by omega)), heldUpOf_s hn hT hF, bs, nm_d, nm_d, nI_1]
      by_cases h : x ||| he S n p x = x
      · rw [if_pos h, itr_fix (show hs S n p x = x from h)]
      · rw [if_neg h, ih (r + 1) _ (by omega) (by omega), show 12 - r = (12 - (r + 1)) + 1 by omega, itr]
        rfl
    · rw [if_pos (show (12 : Int32) ≤ nI r from le_t (n := 12) q (by omega)), show 12 - r = 0 by omega, itr]
theorem least_s {S : St} {n F : Nat} (hn : nA S n) (hT : nT S) (hF : 5000 ≤ F) (x E : Int32) : m_X0_least F S x E = some (itr (hs S n x) 12 (x &&& E)) := by
  unfold m_X0_least
  rw [nm_d]
  exact least_loop hn hT hF x E F 0 _ (by omega) (by omega)
