/-! the mirrors of the methods: printed by gen.py out of the decode rows -/
def us (x y : Int32) : Int32 := (x.toUInt32 >>> (y.toUInt32 &&& Int32.toUInt32 31)).toInt32
def bz (v : Int32) : Bool := decide (v = 0 ∨ v = 1)
theorem bz_n {v : Int32} (h : bz v = true) : narrow .boolean (.int v) = .int v := by
  have h2 : v = 0 ∨ v = 1 := of_decide_eq_true h
  rcases h2 with h2 | h2 <;> rw [h2] <;> rfl
theorem ts_nil {x : Int32} : ∀ k, k < 0 → ¬ x = nI k := fun k h => absurd h (Nat.not_lt_zero k)
theorem ts_cons {x : Int32} {n : Nat} (h : ∀ k, k < n → ¬ x = nI k) (hn : ¬ x = nI n) : ∀ k, k < n + 1 → ¬ x = nI k := fun k hk => by
  rcases Nat.lt_succ_iff_lt_or_eq.mp hk with q | q
  · exact h k q
  · rw [q]; exact hn
theorem ts_out {x : Int32} {n : Nat} (hn : n < 2 ^ 31) (h : ∀ k, k < n → ¬ x = nI k) {hi : Int} (hh : hi = (n : Int) - 1) : x.toInt < 0 ∨ hi < x.toInt := by
  subst hh
  by_cases h0 : x < 0
  · exact Or.inl (by have := Int32.lt_iff_toInt_lt.mp h0; simpa using this)
  · obtain ⟨j, hj, e⟩ := nI_of h0
    right
    by_cases hjn : j < n
    · exact absurd e (h j hjn)
    · rw [e, nI_toInt hj]; omega
theorem no_none {α : Type} {r : α} {G : Prop} (h : none = some r) : G := by cases h
def m_X0_has (S : St) (p1 : Int32) : Option Int32 := if p1 < 0 then some 0 else if (S 1 0) ≤ p1 then some 0 else some 1
def m_X0_everyOne (S : St) : Option Int32 := some ((1 <<< ((S 1 0) &&& 31)) - 1)
def m_X0_hasAll (S : St) (p1 : Int32) : Option Int32 := (m_X0_everyOne S).bind (fun r1 => if (p1 &&& (r1 ^^^ (-1))) = 0 then some 1 else some 0)
def m_X0_named_4 (F : Nat) (S : St) (p1 : Int32) : Nat → Int32 → Int32 → Option Int32
  | 0, _, _ => none
  | n + 1, x2, x3 => gd (inb p1 12) (if (S 9 (ix p1)) ≤ x3 then (m_X0_everyOne S).bind (fun r3 => some (x2 &&& r3)) else gd (inb p1 12) (gd (inb x3 20) (nm (x2 ||| (S (19 + ix p1) (ix x3))) (fun v6 => nm (x3 + 1) (fun v7 => m_X0_named_4 F S p1 n v6 v7)))))
def m_X0_named (F : Nat) (S : St) (p1 : Int32) : Option Int32 := m_X0_named_4 F S p1 F 0 0
def m_X3_contains (p1 p2 : Int32) : Option Int32 := if ((p1 >>> (p2 &&& 31)) &&& 1) = 1 then some 1 else some 0
def m_X0_namedByAny_4 (F : Nat) (S : St) (p1 : Int32) : Nat → Int32 → Int32 → Option Int32
  | 0, _, _ => none
  | n + 1, x2, x3 => if (S 1 0) ≤ x3 then some x2 else (m_X3_contains p1 x3).bind (fun r2 => if r2 = 0 then nm (x3 + 1) (fun v4 => m_X0_namedByAny_4 F S p1 n x2 v4) else (m_X0_named F S x3).bind (fun r5 => nm (x2 ||| r5) (fun v6 => nm (x3 + 1) (fun v7 => m_X0_namedByAny_4 F S p1 n v6 v7))))
def m_X0_namedByAny (F : Nat) (S : St) (p1 : Int32) : Option Int32 := m_X0_namedByAny_4 F S p1 F 0 0
def m_X0_goodOnes_4 (F : Nat) (S : St) : Nat → Int32 → Int32 → Option Int32
  | 0, _, _ => none
  | n + 1, x1, x2 => if (S 1 0) ≤ x2 then some x1 else gd (inb x2 12) (nm (x1 ||| ((S 18 (ix x2)) <<< (x2 &&& 31))) (fun v3 => nm (x2 + 1) (fun v4 => m_X0_goodOnes_4 F S n v3 v4)))
def m_X0_goodOnes (F : Nat) (S : St) : Option Int32 := m_X0_goodOnes_4 F S F 0 0
def m_X0_isDone (S : St) (p1 p2 : Int32) : Option Int32 := gd (inb p1 12) (if p2 < (S 4 (ix p1)) then some 0 else some 1)
def m_X0_doneBy_4 (F : Nat) (S : St) (p1 : Int32) : Nat → Int32 → Int32 → Option Int32
  | 0, _, _ => none
  | n + 1, x2, x3 => if (S 1 0) ≤ x3 then some x2 else (m_X0_isDone S x3 p1).bind (fun r2 => if r2 = 0 then nm (x3 + 1) (fun v4 => m_X0_doneBy_4 F S p1 n x2 v4) else nm (x2 ||| (1 <<< (x3 &&& 31))) (fun v5 => nm (x3 + 1) (fun v6 => m_X0_doneBy_4 F S p1 n v5 v6)))
def m_X0_doneBy (F : Nat) (S : St) (p1 : Int32) : Option Int32 := m_X0_doneBy_4 F S p1 F 0 0
def m_X0_isHealed (S : St) (p1 p2 : Int32) : Option Int32 := gd (inb p1 12) (nm (S 17 (ix p1)) (fun v2 => if v2 = (-1) then some 0 else if p2 < v2 then some 0 else some 1))
def m_X0_isNought (S : St) (p1 p2 : Int32) : Option Int32 := gd (inb p1 12) (if (S 15 (ix p1)) = 1 then (m_X0_isHealed S p1 p2).bind (fun r3 => if r3 = 0 then some 1 else some 0) else some 0)
def m_X0_unhurtOn_4 (F : Nat) (S : St) (p1 : Int32) : Nat → Int32 → Int32 → Option Int32
  | 0, _, _ => none
  | n + 1, x2, x3 => if (S 1 0) ≤ x3 then some x2 else (m_X0_isDone S x3 p1).bind (fun r2 => if r2 = 0 then nm (x3 + 1) (fun v4 => m_X0_unhurtOn_4 F S p1 n x2 v4) else (m_X0_isNought S x3 p1).bind (fun r5 => if r5 = 0 then nm (x2 ||| (1 <<< (x3 &&& 31))) (fun v8 => nm (x3 + 1) (fun v9 => m_X0_unhurtOn_4 F S p1 n v8 v9)) else nm (x3 + 1) (fun v7 => m_X0_unhurtOn_4 F S p1 n x2 v7)))
def m_X0_unhurtOn (F : Nat) (S : St) (p1 : Int32) : Option Int32 := m_X0_unhurtOn_4 F S p1 F 0 0
def m_X0_lets_29 (S : St) (p1 p2 : Int32) (x3 : Int32) : Option Int32 := if x3 = 3 then gd (inb p1 12) (if p2 = (S 6 (ix p1)) then some 1 else some 0) else some 0
def m_X0_lets (S : St) (p1 p2 : Int32) : Option Int32 := gd (inb p1 12) (nm (S 15 (ix p1)) (fun v2 => if v2 = 4 then some 1 else if v2 = 2 then gd (inb p1 12) (if p2 = (S 5 (ix p1)) then some 1 else m_X0_lets_29 S p1 p2 v2) else m_X0_lets_29 S p1 p2 v2))
def m_X0_isInTime (S : St) (p1 p2 : Int32) : Option Int32 := (m_X0_isDone S p1 p2).bind (fun r1 => if r1 = 0 then some 0 else gd (inb p1 12) (gd (inb p1 12) (if (S 16 (ix p1)) < (p2 - (S 4 (ix p1))) then some 0 else (m_X0_isHealed S p1 p2).bind (fun r6 => if r6 = 0 then some 1 else some 0))))
def m_X0_wouldCount (S : St) (p1 p2 p3 : Int32) : Option Int32 := (m_X0_lets S p1 p2).bind (fun r1 => if r1 = 0 then some 0 else (m_X0_isInTime S p1 p3).bind (fun r3 => if r3 = 0 then some 0 else some 1))
def m_X0_askableOn_42 (F : Nat) (S : St) (p1 : Int32) (K4 : Int32 → Int32 → Option Int32) (x2 : Int32) (x3 : Int32) : Option Int32 := nm (x2 ||| (1 <<< (x3 &&& 31))) (fun v9 => nm (x3 + 1) (fun v10 => K4 v9 v10))
def m_X0_askableOn_4 (F : Nat) (S : St) (p1 : Int32) : Nat → Int32 → Int32 → Option Int32
  | 0, _, _ => none
  | n + 1, x2, x3 => if (S 1 0) ≤ x3 then some x2 else gd (inb x3 12) ((m_X0_wouldCount S x3 (S 5 (ix x3)) p1).bind (fun r3 => if r3 = 0 then gd (inb x3 12) ((m_X0_wouldCount S x3 (S 6 (ix x3)) p1).bind (fun r6 => if r6 = 0 then nm (x3 + 1) (fun v8 => m_X0_askableOn_4 F S p1 n x2 v8) else m_X0_askableOn_42 F S p1 (fun z1 z2 => m_X0_askableOn_4 F S p1 n z1 z2) x2 x3)) else m_X0_askableOn_42 F S p1 (fun z1 z2 => m_X0_askableOn_4 F S p1 n z1 z2) x2 x3))
def m_X0_askableOn (F : Nat) (S : St) (p1 : Int32) : Option Int32 := m_X0_askableOn_4 F S p1 F 0 0
def m_X0_isHeldUp_10 (F : Nat) (S : St) (p1 p2 : Int32) : Nat → Int32 → Int32 → Option Int32
  | 0, _, _ => none
  | n + 1, x3, x4 => if x3 ≤ x4 then if x3 = 0 then some 1 else some 0 else gd (inb p1 12) (gd (inb x4 20) (if ((S (19 + ix p1) (ix x4)) &&& (p2 ^^^ (-1))) = 0 then some 1 else nm (x4 + 1) (fun v8 => m_X0_isHeldUp_10 F S p1 p2 n x3 v8)))
def m_X0_isHeldUp (F : Nat) (S : St) (p1 p2 : Int32) : Option Int32 := gd (inb p1 12) (nm (S 9 (ix p1)) (fun v2 => m_X0_isHeldUp_10 F S p1 p2 F v2 0))
def m_X0_unheld_12 (F : Nat) (S : St) (p1 p2 : Int32) : Nat → Int32 → Int32 → Int32 → Option Int32
  | 0, _, _, _ => none
  | n + 1, x3, x4, x5 => if (S 1 0) ≤ x5 then some x4 else (m_X3_contains x3 x5).bind (fun r3 => if r3 = 0 then nm (x5 + 1) (fun v5 => m_X0_unheld_12 F S p1 p2 n x3 x4 v5) else (m_X0_isHeldUp F S x5 p1).bind (fun r6 => if r6 = 0 then nm (x4 ||| (1 <<< (x5 &&& 31))) (fun v9 => nm (x5 + 1) (fun v10 => m_X0_unheld_12 F S p1 p2 n x3 v9 v10)) else nm (x5 + 1) (fun v8 => m_X0_unheld_12 F S p1 p2 n x3 x4 v8)))
def m_X0_unheld (F : Nat) (S : St) (p1 p2 : Int32) : Option Int32 := nm (p1 &&& (p2 ^^^ (-1))) (fun v1 => m_X0_unheld_12 F S p1 p2 F v1 0 0)
def m_X0_most_5 (F : Nat) (S : St) (p1 p2 : Int32) : Nat → Int32 → Int32 → Option Int32
  | 0, _, _ => none
  | n + 1, x3, x4 => if 12 ≤ x4 then some x3 else (m_X0_unheld F S x3 p2).bind (fun r2 => if r2 = 0 then some x3 else nm (x3 &&& (r2 ^^^ (-1))) (fun v4 => nm (x4 + 1) (fun v5 => m_X0_most_5 F S p1 p2 n v4 v5)))
def m_X0_most (F : Nat) (S : St) (p1 p2 : Int32) : Option Int32 := m_X0_most_5 F S p1 p2 F p1 0
def m_X0_heldUpOf_5 (F : Nat) (S : St) (p1 p2 : Int32) : Nat → Int32 → Int32 → Option Int32
  | 0, _, _ => none
  | n + 1, x3, x4 => if (S 1 0) ≤ x4 then some x3 else (m_X3_contains p1 x4).bind (fun r2 => if r2 = 0 then nm (x4 + 1) (fun v4 => m_X0_heldUpOf_5 F S p1 p2 n x3 v4) else (m_X0_isHeldUp F S x4 p2).bind (fun r5 => if r5 = 0 then nm (x4 + 1) (fun v7 => m_X0_heldUpOf_5 F S p1 p2 n x3 v7) else nm (x3 ||| (1 <<< (x4 &&& 31))) (fun v8 => nm (x4 + 1) (fun v9 => m_X0_heldUpOf_5 F S p1 p2 n v8 v9))))
def m_X0_heldUpOf (F : Nat) (S : St) (p1 p2 : Int32) : Option Int32 := m_X0_heldUpOf_5 F S p1 p2 F 0 0
def m_X0_least_7 (F : Nat) (S : St) (p1 p2 : Int32) : Nat → Int32 → Int32 → Option Int32
  | 0, _, _ => none
  | n + 1, x3, x4 => if 12 ≤ x4 then some x3 else (m_X0_heldUpOf F S p1 x3).bind (fun r3 => nm (x3 ||| r3) (fun v4 => if v4 = x3 then some x3 else nm (x4 + 1) (fun v6 => m_X0_least_7 F S p1 p2 n v4 v6)))
def m_X0_least (F : Nat) (S : St) (p1 p2 : Int32) : Option Int32 := nm (p1 &&& p2) (fun v1 => m_X0_least_7 F S p1 p2 F v1 0)
def m_X0_gain_6 (F : Nat) (S : St) (p1 p2 p3 p4 : Int32) : Nat → Int32 → Int32 → Option Int32
  | 0, _, _ => none
  | n + 1, x5, x6 => if (S 1 0) ≤ x6 then some x5 else (m_X3_contains p1 x6).bind (fun r2 => if r2 = 0 then nm (x6 + 1) (fun v4 => m_X0_gain_6 F S p1 p2 p3 p4 n x5 v4) else gd (inb x6 12) (gd (inb x6 12) (gd (inb x6 12) (nm ((S 7 (ix x6)) + ((((S 7 (ix x6)) * p4) * (p2 - (S 4 (ix x6)))) / 100)) (fun v8 => gd (inb x6 12) (if (S 5 (ix x6)) = p3 then nm (x5 + v8) (fun v16 => nm (x6 + 1) (fun v17 => m_X0_gain_6 F S p1 p2 p3 p4 n v16 v17)) else gd (inb x6 12) (if (S 6 (ix x6)) = p3 then nm (x5 - v8) (fun v14 => nm (x6 + 1) (fun v15 => m_X0_gain_6 F S p1 p2 p3 p4 n v14 v15)) else nm (x6 + 1) (fun v13 => m_X0_gain_6 F S p1 p2 p3 p4 n x5 v13))))))))
def m_X0_gain (F : Nat) (S : St) (p1 p2 p3 p4 : Int32) : Option Int32 := m_X0_gain_6 F S p1 p2 p3 p4 F 0 0
def m_X1_isCounted (S : St) (p1 : Int32) : Option Int32 := gd (inb p1 12) (gd (inb p1 12) (gd (inb p1 12) ((m_X0_wouldCount S (S 11 (ix p1)) (S 12 (ix p1)) (S 13 (ix p1))).bind (fun r4 => gd (bz r4) (some r4)))))
def m_X1_struckBy_5 (F : Nat) (S : St) (p1 : Int32) : Nat → Int32 → Int32 → Option Int32
  | 0, _, _ => none
  | n + 1, x3, x4 => if (S 2 0) ≤ x4 then some x3 else gd (inb x4 12) (if p1 < (S 13 (ix x4)) then nm (x4 + 1) (fun v4 => m_X1_struckBy_5 F S p1 n x3 v4) else (m_X1_isCounted S x4).bind (fun r5 => if r5 = 0 then nm (x4 + 1) (fun v7 => m_X1_struckBy_5 F S p1 n x3 v7) else gd (inb x4 12) (nm (x3 ||| (1 <<< ((S 11 (ix x4)) &&& 31))) (fun v9 => nm (x4 + 1) (fun v10 => m_X1_struckBy_5 F S p1 n v9 v10)))))
def m_X1_struckBy (F : Nat) (S : St) (p1 : Int32) : Option Int32 := m_X1_struckBy_5 F S p1 F 0 0
def m_X2_isForLetter (p1 : Int32) : Option Int32 := if (p1 - p1 / 2 * 2) = 0 then some 1 else some 0
def m_X3_within (p1 p2 p3 : Int32) : Option Int32 := if p1 < p2 then some 0 else if p3 < p1 then some 0 else some 1
def m_X2_canStand (p1 p2 : Int32) : Option Int32 := (m_X2_isForLetter p2).bind (fun r1 => if r1 = 0 then if p1 = 43 then some 1 else if p1 = 124 then some 1 else some 0 else (m_X3_within p1 97 108).bind (fun r5 => gd (bz r5) (some r5)))
def m_X2_faultPlace_2 (F : Nat) (S : St) : Nat → Int32 → Option Int32
  | 0, _ => none
  | n + 1, x1 => if (S 3 0) ≤ x1 then (m_X2_isForLetter (S 3 0)).bind (fun r2 => if r2 = 0 then some (-6) else some (S 3 0)) else gd (inb x1 40) ((m_X2_canStand (S 14 (ix x1)) x1).bind (fun r5 => if r5 = 0 then some x1 else nm (x1 + 1) (fun v7 => m_X2_faultPlace_2 F S n v7)))
def m_X2_faultPlace (F : Nat) (S : St) : Option Int32 := m_X2_faultPlace_2 F S F 0
def m_J6_bitCount_0f7a4 (p1 : Int32) : Option Int32 := nm (p1 - ((us p1 1) &&& 1431655765)) (fun v1 => nm ((v1 &&& 858993459) + ((us v1 2) &&& 858993459)) (fun v2 => nm ((v2 + (us v2 4)) &&& 252645135) (fun v3 => nm (v3 + (us v3 8)) (fun v4 => nm (v4 + (us v4 16)) (fun v5 => some (v5 &&& 63))))))
def m_X3_isWho (p1 : Int32) : Option Int32 := (m_X3_within p1 0 3).bind (fun r1 => gd (bz r1) (some r1))
def m_X3_isDay (p1 : Int32) : Option Int32 := (m_X3_within p1 0 99).bind (fun r1 => gd (bz r1) (some r1))
def m_X3_fault (F : Nat) (S : St) : Option Int32 := (m_X2_faultPlace F S).bind (fun r1 => some r1)
def m_X3_counts (S : St) (p1 : Int32) : Option Int32 := if p1 < 0 then some (-1) else if p1 < (S 2 0) then (m_X1_isCounted S p1).bind (fun r3 => if r3 = 0 then some 0 else some 1) else some (-1)
def m_X3_soundOn (F : Nat) (S : St) (p1 : Int32) : Option Int32 := (m_X0_unhurtOn F S p1).bind (fun r1 => (m_X1_struckBy F S p1).bind (fun r2 => some (r1 &&& (r2 ^^^ (-1)))))
def m_X3_exemptBy (p1 p2 : Int32) : Option Int32 := if p1 = 1 then some p2 else some 0
def m_X3_exempt (F : Nat) (S : St) : Option Int32 := (m_X0_goodOnes F S).bind (fun r1 => (m_X3_exemptBy (S 0 0) r1).bind (fun r2 => some r2))
def m_X3_all (F : Nat) (S : St) (p1 p2 : Int32) : Option Int32 := (m_X3_isDay p1).bind (fun r1 => if r1 = 0 then some (-2) else (m_X3_within p2 0 2).bind (fun r3 => if r3 = 0 then some (-2) else (m_X3_soundOn F S p1).bind (fun r5 => if p2 = 0 then some r5 else if p2 = 1 then (m_X3_exempt F S).bind (fun r10 => (m_X0_most F S r5 r10).bind (fun r11 => some r11)) else (m_X3_exempt F S).bind (fun r8 => (m_X0_least F S r5 r8).bind (fun r9 => some r9)))))
def m_X3_why (F : Nat) (S : St) (p1 p2 : Int32) : Option Int32 := (m_X0_has S p1).bind (fun r1 => if r1 = 0 then some (-1) else (m_X3_isDay p2).bind (fun r3 => if r3 = 0 then some (-2) else (m_X0_isDone S p1 p2).bind (fun r5 => if r5 = 0 then some 1 else (m_X0_isNought S p1 p2).bind (fun r7 => if r7 = 0 then (m_X3_soundOn F S p2).bind (fun r9 => (m_X3_contains r9 p1).bind (fun r10 => if r10 = 0 then some 3 else (m_X3_exempt F S).bind (fun r12 => (m_X0_most F S r9 r12).bind (fun r13 => (m_X3_contains r13 p1).bind (fun r14 => if r14 = 0 then some 4 else some 0))))) else some 2))))
def m_X3_under_24 (F : Nat) (S : St) (p1 : Int32) : Nat → Int32 → Int32 → Option Int32
  | 0, _, _ => none
  | n + 1, x2, x3 => if 12 ≤ x3 then some x2 else (m_X0_namedByAny F S x2).bind (fun r5 => nm (x2 ||| r5) (fun v6 => if v6 = x2 then some x2 else nm (x3 + 1) (fun v8 => m_X3_under_24 F S p1 n v6 v8)))
def m_X3_under (F : Nat) (S : St) (p1 : Int32) : Option Int32 := (m_X0_has S p1).bind (fun r1 => if r1 = 0 then some (-1) else (m_X0_named F S p1).bind (fun r3 => m_X3_under_24 F S p1 F r3 0))
def m_X3_without (p1 p2 : Int32) : Option Int32 := some (p1 &&& ((1 <<< (p2 &&& 31)) ^^^ (-1)))
def m_X3_fallen (F : Nat) (S : St) (p1 p2 : Int32) : Option Int32 := (m_X3_exempt F S).bind (fun r1 => (m_X0_most F S p2 r1).bind (fun r2 => (m_X3_contains r2 p1).bind (fun r3 => if r3 = 0 then some 0 else (m_X3_without r2 p1).bind (fun r5 => (m_X0_most F S r5 r1).bind (fun r6 => some (r2 &&& (r6 ^^^ (-1))))))))
def m_X3_stepAt_48 (F : Nat) (S : St) (p1 p2 p3 : Int32) : Nat → Int32 → Int32 → Int32 → Int32 → Option Int32
  | 0, _, _, _, _ => none
  | n + 1, x4, x5, x6, x7 => if p3 ≤ x7 then if x6 = 0 then some (-6) else some x6 else nm (x5 &&& (x6 ^^^ (-1))) (fun v10 => (m_X0_unheld F S v10 x4).bind (fun r11 => nm (x7 + 1) (fun v12 => m_X3_stepAt_48 F S p1 p2 p3 n x4 v10 r11 v12)))
def m_X3_stepAt (F : Nat) (S : St) (p1 p2 p3 : Int32) : Option Int32 := (m_X3_exempt F S).bind (fun r1 => (m_X0_most F S p2 r1).bind (fun r2 => (m_X3_contains r2 p1).bind (fun r3 => if r3 = 0 then some (-6) else (m_X3_within p3 0 11).bind (fun r5 => if r5 = 0 then some (-6) else nm (1 <<< (p1 &&& 31)) (fun v7 => m_X3_stepAt_48 F S p1 p2 p3 F r1 r2 v7 0)))))
def m_X3_stepCount_2 (F : Nat) (S : St) (p1 p2 : Int32) : Nat → Int32 → Option Int32
  | 0, _ => none
  | n + 1, x3 => if 12 ≤ x3 then some x3 else (m_X3_stepAt F S p1 p2 x3).bind (fun r2 => if r2 = (-6) then some x3 else nm (x3 + 1) (fun v4 => m_X3_stepCount_2 F S p1 p2 n v4))
def m_X3_stepCount (F : Nat) (S : St) (p1 p2 : Int32) : Option Int32 := m_X3_stepCount_2 F S p1 p2 F 0
def m_X3_fall (F : Nat) (S : St) (p1 p2 p3 p4 : Int32) : Option Int32 := (m_X0_has S p1).bind (fun r1 => if r1 = 0 then some (-1) else (m_X3_isWho p2).bind (fun r3 => if r3 = 0 then some (-1) else (m_X3_isDay p3).bind (fun r5 => if r5 = 0 then some (-2) else (m_X0_wouldCount S p1 p2 p3).bind (fun r7 => if r7 = 0 then some (-5) else (m_X3_soundOn F S p3).bind (fun r9 => if p4 = (-2) then (m_X3_fallen F S p1 r9).bind (fun r14 => some r14) else if p4 = (-1) then (m_X3_stepCount F S p1 r9).bind (fun r13 => some r13) else (m_X3_stepAt F S p1 r9 p4).bind (fun r12 => some r12))))))
def m_X3_back (F : Nat) (S : St) (p1 p2 p3 p4 : Int32) : Option Int32 := (m_X0_has S p1).bind (fun r1 => if r1 = 0 then some (-1000000001) else (m_X3_isWho p2).bind (fun r3 => if r3 = 0 then some (-1000000001) else (m_X3_isWho p4).bind (fun r5 => if r5 = 0 then some (-1000000001) else (m_X3_isDay p3).bind (fun r7 => if r7 = 0 then some (-1000000002) else (m_X0_wouldCount S p1 p2 p3).bind (fun r9 => if r9 = 0 then some (-1000000005) else (m_X3_soundOn F S p3).bind (fun r11 => (m_X3_fallen F S p1 r11).bind (fun r12 => (m_X0_gain F S r12 p3 p4 (S 0 1)).bind (fun r13 => some r13))))))))
def m_X3_wiseWho_11 (F : Nat) (S : St) (p1 p2 p3 : Int32) : Nat → Int32 → Int32 → Option Int32
  | 0, _, _ => none
  | n + 1, x4, x5 => if 4 ≤ x5 then some (-6) else (m_X0_wouldCount S p1 x5 p2).bind (fun r3 => if r3 = 0 then nm (x5 + 1) (fun v5 => m_X3_wiseWho_11 F S p1 p2 p3 n x4 v5) else (m_X0_gain F S x4 p2 x5 (S 0 1)).bind (fun r6 => if r6 ≤ 0 then nm (x5 + 1) (fun v8 => m_X3_wiseWho_11 F S p1 p2 p3 n x4 v8) else some x5))
def m_X3_wiseWho (F : Nat) (S : St) (p1 p2 p3 : Int32) : Option Int32 := (m_X3_fallen F S p1 p3).bind (fun r1 => m_X3_wiseWho_11 F S p1 p2 p3 F r1 0)
def m_X3_wise (F : Nat) (S : St) (p1 p2 : Int32) : Option Int32 := (m_X0_has S p1).bind (fun r1 => if r1 = 0 then some (-1) else (m_X3_isDay p2).bind (fun r3 => if r3 = 0 then some (-2) else (m_X3_soundOn F S p2).bind (fun r5 => (m_X3_wiseWho F S p1 p2 r5).bind (fun r6 => some r6))))
def m_X3_firstWiseAct_2 (F : Nat) (S : St) (p1 p2 : Int32) : Nat → Int32 → Option Int32
  | 0, _ => none
  | n + 1, x3 => if (S 1 0) ≤ x3 then some (-6) else (m_X3_wiseWho F S x3 p1 p2).bind (fun r2 => if r2 = (-6) then nm (x3 + 1) (fun v4 => m_X3_firstWiseAct_2 F S p1 p2 n v4) else some x3)
def m_X3_firstWiseAct (F : Nat) (S : St) (p1 p2 : Int32) : Option Int32 := m_X3_firstWiseAct_2 F S p1 p2 F 0
def m_X3_rest_66 (F : Nat) (S : St) (p1 p2 : Int32) (x3 : Int32) (x4 : Int32) : Option Int32 := if p2 = 0 then some x4 else (m_X3_exempt F S).bind (fun r12 => (m_X0_most F S x3 r12).bind (fun r13 => some r13))
def m_X3_rest_28 (F : Nat) (S : St) (p1 p2 : Int32) : Nat → Int32 → Int32 → Option Int32
  | 0, _, _ => none
  | n + 1, x3, x4 => if 12 ≤ x4 then m_X3_rest_66 F S p1 p2 x3 x4 else (m_X3_firstWiseAct F S p1 x3).bind (fun r7 => if r7 = (-6) then m_X3_rest_66 F S p1 p2 x3 x4 else (m_X3_without x3 r7).bind (fun r9 => nm (x4 + 1) (fun v10 => m_X3_rest_28 F S p1 p2 n r9 v10)))
def m_X3_rest (F : Nat) (S : St) (p1 p2 : Int32) : Option Int32 := (m_X3_isDay p1).bind (fun r1 => if r1 = 0 then some (-2) else (m_X3_within p2 0 1).bind (fun r3 => if r3 = 0 then some (-2) else (m_X3_soundOn F S p1).bind (fun r5 => m_X3_rest_28 F S p1 p2 F r5 0)))
def m_X3_allStand (F : Nat) (S : St) (p1 p2 p3 : Int32) : Option Int32 := (m_X0_most F S p2 p3).bind (fun r1 => if (p1 &&& (r1 ^^^ (-1))) = 0 then some 1 else some 0)
def m_X3_indispensable_6 (F : Nat) (S : St) (p1 p2 p3 p4 : Int32) : Nat → Int32 → Int32 → Option Int32
  | 0, _, _ => none
  | n + 1, x5, x6 => if (S 1 0) ≤ x6 then some x5 else (m_X3_contains p3 x6).bind (fun r2 => if r2 = 0 then nm (x6 + 1) (fun v4 => m_X3_indispensable_6 F S p1 p2 p3 p4 n x5 v4) else (m_X3_without p2 x6).bind (fun r5 => (m_X3_allStand F S p1 r5 p4).bind (fun r6 => if r6 = 0 then nm (x5 ||| (1 <<< (x6 &&& 31))) (fun v9 => nm (x6 + 1) (fun v10 => m_X3_indispensable_6 F S p1 p2 p3 p4 n v9 v10)) else nm (x6 + 1) (fun v8 => m_X3_indispensable_6 F S p1 p2 p3 p4 n x5 v8))))
def m_X3_indispensable (F : Nat) (S : St) (p1 p2 p3 p4 : Int32) : Option Int32 := m_X3_indispensable_6 F S p1 p2 p3 p4 F 0 0
def m_X3_fewestHealed_141 (F : Nat) (S : St) (p1 p2 : Int32) (K88 : Int32 → Int32 → Int32 → Int32 → Int32 → Int32 → Int32 → Option Int32) (x3 : Int32) (x4 : Int32) (x7 : Int32) (x8 : Int32) (x9 : Int32) (x10 : Int32) (x11 : Int32) : Option Int32 := nm ((x10 - x9) &&& x9) (fun v18 => if v18 = 0 then some x7 else nm (x11 + 1) (fun v20 => K88 x3 x4 x7 x8 x9 v18 v20))
def m_X3_fewestHealed_88 (F : Nat) (S : St) (p1 p2 : Int32) : Nat → Int32 → Int32 → Int32 → Int32 → Int32 → Int32 → Int32 → Option Int32
  | 0, _, _, _, _, _, _, _ => none
  | n + 1, x3, x4, x7, x8, x9, x10, x11 => if 4096 ≤ x11 then some x7 else if x7 = x8 then some x7 else nm (x8 ||| x10) (fun v12 => (m_J6_bitCount_0f7a4 v12).bind (fun r13 => (m_J6_bitCount_0f7a4 x7).bind (fun r14 => if r14 ≤ r13 then m_X3_fewestHealed_141 F S p1 p2 (fun z1 z2 z3 z4 z5 z6 z7 => m_X3_fewestHealed_88 F S p1 p2 n z1 z2 z3 z4 z5 z6 z7) x3 x4 x7 x8 x9 x10 x11 else (m_X3_allStand F S p1 (x3 ||| v12) x4).bind (fun r16 => if r16 = 0 then m_X3_fewestHealed_141 F S p1 p2 (fun z1 z2 z3 z4 z5 z6 z7 => m_X3_fewestHealed_88 F S p1 p2 n z1 z2 z3 z4 z5 z6 z7) x3 x4 x7 x8 x9 x10 x11 else m_X3_fewestHealed_141 F S p1 p2 (fun z1 z2 z3 z4 z5 z6 z7 => m_X3_fewestHealed_88 F S p1 p2 n z1 z2 z3 z4 z5 z6 z7) x3 x4 v12 x8 x9 x10 x11))))
def m_X3_fewestHealed (F : Nat) (S : St) (p1 p2 : Int32) : Option Int32 := (m_X3_soundOn F S p2).bind (fun r1 => (m_X3_exempt F S).bind (fun r2 => (m_X0_doneBy F S p2).bind (fun r3 => nm (r3 &&& (r1 ^^^ (-1))) (fun v4 => (m_X0_most F S (r1 ||| v4) r2).bind (fun r5 => if (p1 &&& (r5 ^^^ (-1))) = 0 then nm (v4 &&& r5) (fun v7 => (m_X3_indispensable F S p1 r5 v7 r2).bind (fun r8 => nm (v7 &&& (r8 ^^^ (-1))) (fun v9 => m_X3_fewestHealed_88 F S p1 p2 F r1 r2 v7 r8 v9 0 0))) else some (-6))))))
def m_X3_heal (F : Nat) (S : St) (p1 p2 p3 : Int32) : Option Int32 := (m_X0_hasAll S p1).bind (fun r1 => if r1 = 0 then some (-2) else (m_X3_isDay p2).bind (fun r3 => if r3 = 0 then some (-2) else (m_X3_within p3 0 1).bind (fun r5 => if r5 = 0 then some (-2) else (m_X3_fewestHealed F S p1 p2).bind (fun r7 => if r7 = (-6) then some (-5) else if p3 = 0 then some r7 else (m_J6_bitCount_0f7a4 r7).bind (fun r10 => some r10)))))
def m_X3_pillar_49 (F : Nat) (S : St) (p1 p2 : Int32) : Nat → Int32 → Int32 → Int32 → Int32 → Int32 → Option Int32
  | 0, _, _, _, _, _ => none
  | n + 1, x3, x4, x5, x6, x7 => if (S 1 0) ≤ x7 then if p2 = 0 then some x5 else some x6 else (m_X3_contains x4 x7).bind (fun r10 => if r10 = 0 then nm (x7 + 1) (fun v12 => m_X3_pillar_49 F S p1 p2 n x3 x4 x5 x6 v12) else (m_X3_fallen F S x7 x3).bind (fun r13 => (m_J6_bitCount_0f7a4 r13).bind (fun r14 => nm (r14 - 1) (fun v15 => if x5 = (-6) then nm (x7 + 1) (fun v17 => m_X3_pillar_49 F S p1 p2 n x3 x4 x7 v15 v17) else if v15 ≤ x6 then nm (x7 + 1) (fun v19 => m_X3_pillar_49 F S p1 p2 n x3 x4 x5 x6 v19) else nm (x7 + 1) (fun v20 => m_X3_pillar_49 F S p1 p2 n x3 x4 x7 v15 v20)))))
def m_X3_pillar (F : Nat) (S : St) (p1 p2 : Int32) : Option Int32 := (m_X3_isDay p1).bind (fun r1 => if r1 = 0 then some (-2) else (m_X3_within p2 0 1).bind (fun r3 => if r3 = 0 then some (-2) else (m_X3_soundOn F S p1).bind (fun r5 => (m_X3_exempt F S).bind (fun r6 => (m_X0_most F S r5 r6).bind (fun r7 => m_X3_pillar_49 F S p1 p2 F r5 r7 (-6) 0 0)))))
def m_X3_hangs (F : Nat) (S : St) (p1 p2 p3 : Int32) : Option Int32 := (m_X0_has S p1).bind (fun r1 => if r1 = 0 then some (-1) else (m_X3_isDay p2).bind (fun r3 => if r3 = 0 then some (-2) else (m_X0_hasAll S p3).bind (fun r5 => if r5 = 0 then some (-2) else (m_X3_soundOn F S p2).bind (fun r7 => (m_X0_goodOnes F S).bind (fun r8 => (m_X3_exemptBy (S 0 0) (r8 &&& (p3 ^^^ (-1)))).bind (fun r9 => (m_X0_most F S r7 r9).bind (fun r10 => (m_X3_contains r10 p1).bind (fun r11 => if r11 = 0 then (m_X3_exemptBy (S 0 0) (r8 ||| p3)).bind (fun r13 => (m_X0_most F S r7 r13).bind (fun r14 => (m_X3_contains r14 p1).bind (fun r15 => if r15 = 0 then some 0 else some 1))) else some 2))))))))
def m_X3_withstands_32 (F : Nat) (S : St) (p1 p2 p3 : Int32) : Nat → Int32 → Int32 → Int32 → Option Int32
  | 0, _, _, _ => none
  | n + 1, x4, x5, x6 => if (S 1 0) ≤ x6 then some 1 else (m_X3_contains (p3 &&& x5) x6).bind (fun r6 => if r6 = 0 then nm (x6 + 1) (fun v8 => m_X3_withstands_32 F S p1 p2 p3 n x4 x5 v8) else (m_X3_without x5 x6).bind (fun r9 => (m_X0_most F S r9 x4).bind (fun r10 => (m_X3_contains r10 p1).bind (fun r11 => if r11 = 0 then some 0 else nm (x6 + 1) (fun v13 => m_X3_withstands_32 F S p1 p2 p3 n x4 x5 v13)))))
def m_X3_withstands (F : Nat) (S : St) (p1 p2 p3 : Int32) : Option Int32 := (m_X3_exempt F S).bind (fun r1 => (m_X0_most F S p2 r1).bind (fun r2 => (m_X3_contains r2 p1).bind (fun r3 => if r3 = 0 then some 0 else m_X3_withstands_32 F S p1 p2 p3 F r1 r2 0)))
def m_X3_safe_104 (F : Nat) (S : St) (p1 : Int32) (K25 : Int32 → Int32 → Int32 → Int32 → Option Int32) (x5 : Int32) (x6 : Int32) (x7 : Int32) : Option Int32 := nm (x5 + (-1 : Int32)) (fun v13 => K25 x5 x6 x7 v13)
def m_X3_safe_82 (F : Nat) (S : St) (p1 : Int32) (K25 : Int32 → Int32 → Int32 → Int32 → Option Int32) (x2 : Int32) (x5 : Int32) (x6 : Int32) (x7 : Int32) (t0 : Int32) : Option Int32 := if t0 = 0 then (m_X3_withstands F S p1 x6 x7).bind (fun r11 => if r11 = 0 then some x2 else m_X3_safe_104 F S p1 K25 x5 x6 x7) else m_X3_safe_104 F S p1 K25 x5 x6 x7
def m_X3_safe_81 (F : Nat) (S : St) (p1 : Int32) (K25 : Int32 → Int32 → Int32 → Int32 → Option Int32) (x2 : Int32) (x5 : Int32) (x6 : Int32) (x7 : Int32) : Option Int32 := m_X3_safe_82 F S p1 K25 x2 x5 x6 x7 0
def m_X3_safe_25 (F : Nat) (S : St) (p1 : Int32) : Nat → Int32 → Int32 → Int32 → Int32 → Option Int32
  | 0, _, _, _, _ => none
  | n + 1, x2, x3, x4, x5 => gd (inb p1 12) (if x5 < (S 4 (ix p1)) then some x2 else (m_X3_soundOn F S x5).bind (fun r5 => (m_X0_askableOn F S x5).bind (fun r6 => if x2 = (-6) then m_X3_safe_81 F S p1 (fun z1 z2 z3 z4 => m_X3_safe_25 F S p1 n z1 z2 z3 z4) x2 x5 r5 r6 else if r5 = x3 then if r6 = x4 then m_X3_safe_82 F S p1 (fun z1 z2 z3 z4 => m_X3_safe_25 F S p1 n z1 z2 z3 z4) x2 x5 r5 r6 1 else m_X3_safe_81 F S p1 (fun z1 z2 z3 z4 => m_X3_safe_25 F S p1 n z1 z2 z3 z4) x2 x5 r5 r6 else m_X3_safe_81 F S p1 (fun z1 z2 z3 z4 => m_X3_safe_25 F S p1 n z1 z2 z3 z4) x2 x5 r5 r6)))
def m_X3_safe (F : Nat) (S : St) (p1 : Int32) : Option Int32 := (m_X0_has S p1).bind (fun r1 => if r1 = 0 then some (-1) else m_X3_safe_25 F S p1 F (-6) 0 0 99)
def m_X3_beside (F : Nat) (S : St) (p1 : Int32) : Option Int32 := (m_X3_isDay p1).bind (fun r1 => if r1 = 0 then some (-2) else (m_X3_soundOn F S p1).bind (fun r3 => (m_X0_goodOnes F S).bind (fun r4 => (m_X3_exemptBy 0 r4).bind (fun r5 => (m_X0_most F S r3 r5).bind (fun r6 => (m_X3_exemptBy 1 r4).bind (fun r7 => (m_X0_most F S r3 r7).bind (fun r8 => some (r6 ^^^ r8))))))))
def m_X3_told (S : St) (p1 : Int32) : Option Int32 := (m_X3_within p1 10 21).bind (fun r1 => if r1 = 0 then if p1 = 0 then some (S 1 0) else if p1 = 1 then some (S 2 0) else if p1 = 2 then some (S 3 0) else if p1 = 3 then some (S 0 0) else if p1 = 4 then some (S 0 1) else some (-2) else gd (inb (p1 - 10) 12) (some (S 9 (ix (p1 - 10)))))
def m_X4_in (p1 p2 p3 : Int64) : Option Int32 := if (lg_cmp p1 p2) < 0 then some 0 else if 0 < (lg_cmp p1 p3) then some 0 else some 1
def m_X4_ones_4 (F : Nat) (p1 : Int32) : Nat → Int32 → Int32 → Option Int32
  | 0, _, _ => none
  | n + 1, x1, x2 => if 12 ≤ x2 then some x1 else nm (x1 + ((p1 >>> (x2 &&& 31)) &&& 1)) (fun v2 => nm (x2 + 1) (fun v3 => m_X4_ones_4 F p1 n v2 v3))
def m_X4_ones (F : Nat) (p1 : Int32) : Option Int32 := m_X4_ones_4 F p1 F 0 0
def m_X4_isDay (p1 : Int32) : Option Int32 := (m_X4_in (Int32.toInt64 p1) 0 99).bind (fun r1 => gd (bz r1) (some r1))
def m_X4_isWho (p1 : Int32) : Option Int32 := (m_X4_in (Int32.toInt64 p1) 0 3).bind (fun r1 => gd (bz r1) (some r1))
def m_X4_isAct (S : St) (p1 : Int32) : Option Int32 := (m_X4_in (Int32.toInt64 p1) 0 (Int32.toInt64 ((S 0 1) - 1))).bind (fun r1 => gd (bz r1) (some r1))
def m_X4_fault_54 (F : Nat) (S : St) (K2 : Int32 → Option Int32) (x1 : Int32) (t0 : Int32) : Option Int32 := if t0 = 0 then some x1 else nm (x1 + 1) (fun v10 => K2 v10)
def m_X4_fault_49 (F : Nat) (S : St) (K2 : Int32 → Option Int32) (x1 : Int32) : Option Int32 := m_X4_fault_54 F S K2 x1 1
def m_X4_fault_2 (F : Nat) (S : St) : Nat → Int32 → Option Int32
  | 0, _ => none
  | n + 1, x1 => if (S 0 4) ≤ x1 then if ((S 0 4) - (S 0 4) / 2 * 2) = 1 then some (-6) else some (S 0 4) else gd (inb x1 40) (nm (S 10 (ix x1)) (fun v4 => if (x1 - x1 / 2 * 2) = 0 then (m_X4_in (Int32.toInt64 v4) 97 108).bind (fun r8 => m_X4_fault_54 F S (fun z1 => m_X4_fault_2 F S n z1) x1 r8) else if v4 = 43 then m_X4_fault_49 F S (fun z1 => m_X4_fault_2 F S n z1) x1 else if v4 = 124 then m_X4_fault_49 F S (fun z1 => m_X4_fault_2 F S n z1) x1 else m_X4_fault_54 F S (fun z1 => m_X4_fault_2 F S n z1) x1 0))
def m_X4_fault (F : Nat) (S : St) : Option Int32 := m_X4_fault_2 F S F 0
def m_X4_isHeld_38 (F : Nat) (S : St) (p1 p2 : Int32) : Nat → Int32 → Int32 → Option Int32
  | 0, _, _ => none
  | n + 1, x3, x4 => gd (inb p1 12) (if (S 9 (ix p1)) ≤ x4 then gd (bz x3) (some x3) else if x3 = 0 then gd (inb ((20 * p1) + x4) 240) (if ((S 8 (ix ((20 * p1) + x4))) &&& (p2 ^^^ (-1))) = 0 then nm (x4 + 1) (fun v13 => m_X4_isHeld_38 F S p1 p2 n 1 v13) else nm (x4 + 1) (fun v12 => m_X4_isHeld_38 F S p1 p2 n 0 v12)) else nm (x4 + 1) (fun v9 => m_X4_isHeld_38 F S p1 p2 n 1 v9))
def m_X4_isHeld (F : Nat) (S : St) (p1 p2 : Int32) : Option Int32 := gd (inb p1 12) (if (S 9 (ix p1)) = 0 then m_X4_isHeld_38 F S p1 p2 F 1 0 else if (S 0 2) = 1 then if (((S 0 0) >>> (p1 &&& 31)) &&& 1) = 1 then m_X4_isHeld_38 F S p1 p2 F 1 0 else m_X4_isHeld_38 F S p1 p2 F 0 0 else m_X4_isHeld_38 F S p1 p2 F 0 0)
def m_X4_isHealed (S : St) (p1 p2 : Int32) : Option Int32 := if (((S 0 6) >>> (p1 &&& 31)) &&& 1) = 1 then some 1 else gd (inb p1 12) (if (S 7 (ix p1)) < 0 then some 0 else gd (inb p1 12) (if p2 < (S 7 (ix p1)) then some 0 else some 1))
def m_X4_wouldCount_51 (S : St) (p1 p2 p3 : Int32) (t0 : Int32) : Option Int32 := if t0 = 0 then some 0 else gd (inb p1 12) (gd (inb p1 12) (gd (inb p1 12) ((m_X4_in (Int32.toInt64 p3) (Int32.toInt64 (S 1 (ix p1))) (Int32.toInt64 ((S 1 (ix p1)) + (S 6 (ix p1))))).bind (fun r14 => if r14 = 0 then some 0 else (m_X4_isHealed S p1 p3).bind (fun r16 => if r16 = 0 then some 1 else some 0)))))
def m_X4_wouldCount_46 (S : St) (p1 p2 p3 : Int32) : Option Int32 := m_X4_wouldCount_51 S p1 p2 p3 1
def m_X4_wouldCount_50 (S : St) (p1 p2 p3 : Int32) : Option Int32 := m_X4_wouldCount_51 S p1 p2 p3 0
def m_X4_wouldCount_30 (S : St) (p1 p2 p3 : Int32) (x4 : Int32) : Option Int32 := if x4 = 3 then gd (inb p1 12) (if (S 3 (ix p1)) = p2 then m_X4_wouldCount_46 S p1 p2 p3 else m_X4_wouldCount_50 S p1 p2 p3) else m_X4_wouldCount_50 S p1 p2 p3
def m_X4_wouldCount (S : St) (p1 p2 p3 : Int32) : Option Int32 := gd (inb p1 12) (nm (S 5 (ix p1)) (fun v2 => if v2 = 4 then m_X4_wouldCount_46 S p1 p2 p3 else if v2 = 2 then gd (inb p1 12) (if (S 2 (ix p1)) = p2 then m_X4_wouldCount_46 S p1 p2 p3 else m_X4_wouldCount_30 S p1 p2 p3 v2) else m_X4_wouldCount_30 S p1 p2 p3 v2))
def m_X4_counts (S : St) (p1 : Int32) : Option Int32 := (m_X4_in (Int32.toInt64 p1) 0 (Int32.toInt64 ((S 0 5) - 1))).bind (fun r1 => if r1 = 0 then some (-1) else gd (inb p1 12) (gd (inb p1 12) (gd (inb p1 12) ((m_X4_wouldCount S (S 11 (ix p1)) (S 12 (ix p1)) (S 13 (ix p1))).bind (fun r6 => if r6 = 0 then some 0 else some 1)))))
def m_X4_isAsked_21 (F : Nat) (S : St) (p1 p2 : Int32) : Nat → Int32 → Int32 → Option Int32
  | 0, _, _ => none
  | n + 1, x3, x4 => if (S 0 5) ≤ x4 then gd (bz x3) (some x3) else if x3 = 0 then gd (inb x4 12) (if (S 11 (ix x4)) = p1 then gd (inb x4 12) (if p2 < (S 13 (ix x4)) then nm (x4 + 1) (fun v11 => m_X4_isAsked_21 F S p1 p2 n 0 v11) else gd (inb x4 12) (gd (inb x4 12) ((m_X4_wouldCount S p1 (S 12 (ix x4)) (S 13 (ix x4))).bind (fun r14 => if r14 = 0 then nm (x4 + 1) (fun v16 => m_X4_isAsked_21 F S p1 p2 n 0 v16) else nm (x4 + 1) (fun v17 => m_X4_isAsked_21 F S p1 p2 n 1 v17))))) else nm (x4 + 1) (fun v8 => m_X4_isAsked_21 F S p1 p2 n 0 v8)) else nm (x4 + 1) (fun v5 => m_X4_isAsked_21 F S p1 p2 n 1 v5)
def m_X4_isAsked (F : Nat) (S : St) (p1 p2 : Int32) : Option Int32 := if (((S 0 7) >>> (p1 &&& 31)) &&& 1) = 1 then m_X4_isAsked_21 F S p1 p2 F 1 0 else m_X4_isAsked_21 F S p1 p2 F 0 0
def m_X4_isSound_29 (F : Nat) (S : St) (p1 p2 : Int32) : Option Int32 := (m_X4_isAsked F S p1 p2).bind (fun r7 => if r7 = 0 then some 1 else some 0)
def m_X4_isSound (F : Nat) (S : St) (p1 p2 : Int32) : Option Int32 := gd (inb p1 12) (if p2 < (S 1 (ix p1)) then some 0 else gd (inb p1 12) (if (S 5 (ix p1)) = 1 then (m_X4_isHealed S p1 p2).bind (fun r5 => if r5 = 0 then some 0 else m_X4_isSound_29 F S p1 p2) else m_X4_isSound_29 F S p1 p2))
def m_X4_soundOf_4 (F : Nat) (S : St) (p1 : Int32) : Nat → Int32 → Int32 → Option Int32
  | 0, _, _ => none
  | n + 1, x2, x3 => if (S 0 1) ≤ x3 then some x2 else (m_X4_isSound F S x3 p1).bind (fun r2 => if r2 = 0 then nm (x2 ||| 0) (fun v4 => nm (x3 + 1) (fun v5 => m_X4_soundOf_4 F S p1 n v4 v5)) else nm (x2 ||| (1 <<< (x3 &&& 31))) (fun v6 => nm (x3 + 1) (fun v7 => m_X4_soundOf_4 F S p1 n v6 v7)))
def m_X4_soundOf (F : Nat) (S : St) (p1 : Int32) : Option Int32 := m_X4_soundOf_4 F S p1 F 0 0
def m_X4_loose_4 (F : Nat) (S : St) (p1 : Int32) : Nat → Int32 → Int32 → Option Int32
  | 0, _, _ => none
  | n + 1, x2, x3 => if (S 0 1) ≤ x3 then some x2 else if ((p1 >>> (x3 &&& 31)) &&& 1) = 1 then (m_X4_isHeld F S x3 p1).bind (fun r5 => if r5 = 0 then nm (x2 ||| (1 <<< (x3 &&& 31))) (fun v9 => nm (x3 + 1) (fun v10 => m_X4_loose_4 F S p1 n v9 v10)) else nm (x2 ||| 0) (fun v7 => nm (x3 + 1) (fun v8 => m_X4_loose_4 F S p1 n v7 v8))) else nm (x2 ||| 0) (fun v3 => nm (x3 + 1) (fun v4 => m_X4_loose_4 F S p1 n v3 v4))
def m_X4_loose (F : Nat) (S : St) (p1 : Int32) : Option Int32 := m_X4_loose_4 F S p1 F 0 0
def m_X4_mostOf_8 (F : Nat) (S : St) (p1 : Int32) : Nat → Int32 → Int32 → Option Int32
  | 0, _, _ => none
  | n + 1, x2, x3 => if x3 = 0 then some x2 else nm (x2 &&& (x3 ^^^ (-1))) (fun v3 => (m_X4_loose F S v3).bind (fun r4 => m_X4_mostOf_8 F S p1 n v3 r4))
def m_X4_mostOf (F : Nat) (S : St) (p1 : Int32) : Option Int32 := (m_X4_loose F S p1).bind (fun r1 => m_X4_mostOf_8 F S p1 F p1 r1)
def m_X4_leastOf_14 (F : Nat) (S : St) (p1 : Int32) (K4 : Int32 → Int32 → Option Int32) : Nat → Int32 → Int32 → Int32 → Option Int32
  | 0, _, _, _ => none
  | n + 1, x2, x3, x4 => if (S 0 1) ≤ x4 then K4 x2 x3 else if ((p1 >>> (x4 &&& 31)) &&& 1) = 1 then (m_X4_isHeld F S x4 x3).bind (fun r6 => if r6 = 0 then nm (x2 ||| 0) (fun v8 => nm (x4 + 1) (fun v9 => m_X4_leastOf_14 F S p1 K4 n v8 x3 v9)) else nm (x2 ||| (1 <<< (x4 &&& 31))) (fun v10 => nm (x4 + 1) (fun v11 => m_X4_leastOf_14 F S p1 K4 n v10 x3 v11))) else nm (x2 ||| 0) (fun v4 => nm (x4 + 1) (fun v5 => m_X4_leastOf_14 F S p1 K4 n v4 x3 v5))
def m_X4_leastOf_4 (F : Nat) (S : St) (p1 : Int32) : Nat → Int32 → Int32 → Option Int32
  | 0, _, _ => none
  | n + 1, x2, x3 => if x3 = x2 then some x2 else m_X4_leastOf_14 F S p1 (fun z1 z2 => m_X4_leastOf_4 F S p1 n z1 z2) F x2 x2 0
def m_X4_leastOf (F : Nat) (S : St) (p1 : Int32) : Option Int32 := m_X4_leastOf_4 F S p1 F 0 (-1)
def m_X4_standing (F : Nat) (S : St) (p1 : Int32) : Option Int32 := (m_X4_soundOf F S p1).bind (fun r1 => (m_X4_mostOf F S r1).bind (fun r2 => some r2))
def m_X4_all (F : Nat) (S : St) (p1 p2 : Int32) : Option Int32 := (m_X4_isDay p1).bind (fun r1 => if r1 = 0 then some (-2) else (m_X4_in (Int32.toInt64 p2) 0 2).bind (fun r3 => if r3 = 0 then some (-2) else (m_X4_soundOf F S p1).bind (fun r5 => if p2 = 0 then some r5 else if p2 = 1 then (m_X4_mostOf F S r5).bind (fun r9 => some r9) else (m_X4_leastOf F S r5).bind (fun r8 => some r8))))
def m_X4_why_70 (F : Nat) (S : St) (p1 p2 : Int32) : Option Int32 := (m_X4_isAsked F S p1 p2).bind (fun r13 => if r13 = 0 then some 4 else some 3)
def m_X4_why (F : Nat) (S : St) (p1 p2 : Int32) : Option Int32 := (m_X4_isAct S p1).bind (fun r1 => if r1 = 0 then some (-1) else (m_X4_isDay p2).bind (fun r3 => if r3 = 0 then some (-2) else (m_X4_standing F S p2).bind (fun r5 => if ((r5 >>> (p1 &&& 31)) &&& 1) = 1 then some 0 else gd (inb p1 12) (if (S 1 (ix p1)) ≤ p2 then gd (inb p1 12) (if (S 5 (ix p1)) = 1 then (m_X4_isHealed S p1 p2).bind (fun r11 => if r11 = 0 then some 2 else m_X4_why_70 F S p1 p2) else m_X4_why_70 F S p1 p2) else some 1))))
def m_X4_namedBy_4 (F : Nat) (S : St) (p1 : Int32) : Nat → Int32 → Int32 → Option Int32
  | 0, _, _ => none
  | n + 1, x2, x3 => gd (inb p1 12) (if (S 9 (ix p1)) ≤ x3 then some (x2 &&& ((1 <<< ((S 0 1) &&& 31)) - 1)) else gd (inb ((20 * p1) + x3) 240) (nm (x2 ||| (S 8 (ix ((20 * p1) + x3)))) (fun v4 => nm (x3 + 1) (fun v5 => m_X4_namedBy_4 F S p1 n v4 v5))))
def m_X4_namedBy (F : Nat) (S : St) (p1 : Int32) : Option Int32 := m_X4_namedBy_4 F S p1 F 0 0
def m_X4_under_28 (F : Nat) (S : St) (p1 : Int32) (K18 : Int32 → Int32 → Option Int32) : Nat → Int32 → Int32 → Int32 → Option Int32
  | 0, _, _, _ => none
  | n + 1, x2, x3, x4 => if (S 0 1) ≤ x4 then K18 x2 x3 else if ((x3 >>> (x4 &&& 31)) &&& 1) = 1 then (m_X4_namedBy F S x4).bind (fun r9 => nm (x2 ||| r9) (fun v10 => nm (x4 + 1) (fun v11 => m_X4_under_28 F S p1 K18 n v10 x3 v11))) else nm (x2 ||| 0) (fun v7 => nm (x4 + 1) (fun v8 => m_X4_under_28 F S p1 K18 n v7 x3 v8))
def m_X4_under_18 (F : Nat) (S : St) (p1 : Int32) : Nat → Int32 → Int32 → Option Int32
  | 0, _, _ => none
  | n + 1, x2, x3 => if x3 = x2 then some x2 else m_X4_under_28 F S p1 (fun z1 z2 => m_X4_under_18 F S p1 n z1 z2) F x2 x2 0
def m_X4_under (F : Nat) (S : St) (p1 : Int32) : Option Int32 := (m_X4_isAct S p1).bind (fun r1 => if r1 = 0 then some (-1) else (m_X4_namedBy F S p1).bind (fun r3 => m_X4_under_18 F S p1 F r3 0))
def m_X4_fallOf (F : Nat) (S : St) (p1 p2 : Int32) : Option Int32 := (m_X4_soundOf F S p2).bind (fun r1 => (m_X4_mostOf F S r1).bind (fun r2 => (m_X4_mostOf F S (r1 &&& ((1 <<< (p1 &&& 31)) ^^^ (-1)))).bind (fun r3 => some (r2 &&& (r3 ^^^ (-1))))))
def m_X4_fall_72 (F : Nat) (S : St) (p1 p2 p3 p4 : Int32) : Nat → Int32 → Int32 → Int32 → Option Int32
  | 0, _, _, _ => none
  | n + 1, x5, x6, x7 => if x6 = 0 then if p4 = (-1) then some x7 else some (-6) else if x7 = p4 then some x6 else nm (x7 + 1) (fun v16 => nm (x5 &&& (x6 ^^^ (-1))) (fun v17 => (m_X4_loose F S v17).bind (fun r18 => m_X4_fall_72 F S p1 p2 p3 p4 n v17 r18 v16)))
def m_X4_fall (F : Nat) (S : St) (p1 p2 p3 p4 : Int32) : Option Int32 := (m_X4_isAct S p1).bind (fun r1 => if r1 = 0 then some (-1) else (m_X4_isWho p2).bind (fun r3 => if r3 = 0 then some (-1) else (m_X4_isDay p3).bind (fun r5 => if r5 = 0 then some (-2) else (m_X4_wouldCount S p1 p2 p3).bind (fun r7 => if r7 = 0 then some (-5) else (m_X4_standing F S p3).bind (fun r9 => nm (r9 &&& (1 <<< (p1 &&& 31))) (fun v10 => if p4 = (-2) then (m_X4_fallOf F S p1 p3).bind (fun r12 => some r12) else m_X4_fall_72 F S p1 p2 p3 p4 F r9 v10 0))))))
def m_X4_backOf_14 (F : Nat) (S : St) (p1 p2 p3 : Int32) : Nat → Int32 → Int32 → Int32 → Option Int32
  | 0, _, _, _ => none
  | n + 1, x4, x5, x6 => if (S 0 1) ≤ x6 then some x5 else if ((x4 >>> (x6 &&& 31)) &&& 1) = 1 then gd (inb x6 12) (gd (inb x6 12) (gd (inb x6 12) (nm ((S 4 (ix x6)) + ((((S 4 (ix x6)) * (S 0 3)) * (p2 - (S 1 (ix x6)))) / 100)) (fun v8 => gd (inb x6 12) (if (S 2 (ix x6)) = p3 then nm (x5 + v8) (fun v17 => nm (x6 + 1) (fun v18 => m_X4_backOf_14 F S p1 p2 p3 n x4 v17 v18)) else gd (inb x6 12) (if (S 3 (ix x6)) = p3 then nm (x5 + (-v8)) (fun v15 => nm (x6 + 1) (fun v16 => m_X4_backOf_14 F S p1 p2 p3 n x4 v15 v16)) else nm (x5 + 0) (fun v13 => nm (x6 + 1) (fun v14 => m_X4_backOf_14 F S p1 p2 p3 n x4 v13 v14)))))))) else nm (x6 + 1) (fun v4 => m_X4_backOf_14 F S p1 p2 p3 n x4 x5 v4)
def m_X4_backOf (F : Nat) (S : St) (p1 p2 p3 : Int32) : Option Int32 := (m_X4_fallOf F S p1 p2).bind (fun r1 => m_X4_backOf_14 F S p1 p2 p3 F r1 0 0)
def m_X4_back (F : Nat) (S : St) (p1 p2 p3 p4 : Int32) : Option Int32 := (m_X4_isAct S p1).bind (fun r1 => if r1 = 0 then some (-1000000001) else (m_X4_isWho p2).bind (fun r3 => if r3 = 0 then some (-1000000001) else (m_X4_isWho p4).bind (fun r5 => if r5 = 0 then some (-1000000001) else (m_X4_isDay p3).bind (fun r7 => if r7 = 0 then some (-1000000002) else (m_X4_wouldCount S p1 p2 p3).bind (fun r9 => if r9 = 0 then some (-1000000005) else (m_X4_backOf F S p1 p3 p4).bind (fun r11 => some r11))))))
def m_X4_wiseOf_2 (F : Nat) (S : St) (p1 p2 : Int32) : Nat → Int32 → Option Int32
  | 0, _ => none
  | n + 1, x3 => if 4 ≤ x3 then some (-6) else (m_X4_wouldCount S p1 x3 p2).bind (fun r2 => if r2 = 0 then nm (x3 + 1) (fun v4 => m_X4_wiseOf_2 F S p1 p2 n v4) else (m_X4_backOf F S p1 p2 x3).bind (fun r5 => if r5 ≤ 0 then nm (x3 + 1) (fun v7 => m_X4_wiseOf_2 F S p1 p2 n v7) else some x3))
def m_X4_wiseOf (F : Nat) (S : St) (p1 p2 : Int32) : Option Int32 := m_X4_wiseOf_2 F S p1 p2 F 0
def m_X4_wise (F : Nat) (S : St) (p1 p2 : Int32) : Option Int32 := (m_X4_isAct S p1).bind (fun r1 => if r1 = 0 then some (-1) else (m_X4_isDay p2).bind (fun r3 => if r3 = 0 then some (-2) else (m_X4_wiseOf F S p1 p2).bind (fun r5 => some r5)))
def m_X4_isSet (S : St) (p1 : Int32) : Option Int32 := (m_X4_in (Int32.toInt64 p1) 0 (Int32.toInt64 ((1 <<< ((S 0 1) &&& 31)) - 1))).bind (fun r1 => gd (bz r1) (some r1))
def m_X4_pillar_43 (F : Nat) (S : St) (p1 p2 : Int32) : Nat → Int32 → Int32 → Int32 → Int32 → Int32 → Option Int32
  | 0, _, _, _, _, _ => none
  | n + 1, x3, x4, x5, x6, x7 => if (S 0 1) ≤ x7 then if p2 = 0 then some x5 else some x6 else if ((x4 >>> (x7 &&& 31)) &&& 1) = 1 then (m_X4_mostOf F S (x3 &&& ((1 <<< (x7 &&& 31)) ^^^ (-1)))).bind (fun r11 => (m_X4_ones F (x4 &&& (r11 ^^^ (-1)))).bind (fun r12 => nm (r12 - 1) (fun v13 => if x5 < 0 then nm (x7 + 1) (fun v15 => m_X4_pillar_43 F S p1 p2 n x3 x4 x7 v13 v15) else if v13 ≤ x6 then nm (x7 + 1) (fun v17 => m_X4_pillar_43 F S p1 p2 n x3 x4 x5 x6 v17) else nm (x7 + 1) (fun v18 => m_X4_pillar_43 F S p1 p2 n x3 x4 x7 v13 v18)))) else nm (x7 + 1) (fun v10 => m_X4_pillar_43 F S p1 p2 n x3 x4 x5 x6 v10)
def m_X4_pillar (F : Nat) (S : St) (p1 p2 : Int32) : Option Int32 := (m_X4_isDay p1).bind (fun r1 => if r1 = 0 then some (-2) else (m_X4_in (Int32.toInt64 p2) 0 1).bind (fun r3 => if r3 = 0 then some (-2) else (m_X4_soundOf F S p1).bind (fun r5 => (m_X4_mostOf F S r5).bind (fun r6 => m_X4_pillar_43 F S p1 p2 F r5 r6 (-6) 0 0))))
def m_X4_isSafeOn_49 (F : Nat) (S : St) (p1 p2 : Int32) (K29 : Int32 → Int32 → Int32 → Option Int32) : Nat → Int32 → Int32 → Int32 → Int32 → Option Int32
  | 0, _, _, _, _ => none
  | n + 1, x3, x5, x6, x7 => if 4 ≤ x7 then if x6 = 0 then nm (x5 + 1) (fun v10 => K29 x3 1 v10) else (m_X4_mostOf F S (x3 &&& ((1 <<< (x5 &&& 31)) ^^^ (-1)))).bind (fun r11 => if ((r11 >>> (p1 &&& 31)) &&& 1) = 1 then nm (x5 + 1) (fun v14 => K29 x3 1 v14) else nm (x5 + 1) (fun v13 => K29 x3 0 v13)) else if x6 = 0 then (m_X4_wouldCount S x5 x7 p2).bind (fun r17 => if r17 = 0 then nm (x7 + 1) (fun v19 => m_X4_isSafeOn_49 F S p1 p2 K29 n x3 x5 0 v19) else nm (x7 + 1) (fun v20 => m_X4_isSafeOn_49 F S p1 p2 K29 n x3 x5 1 v20)) else nm (x7 + 1) (fun v16 => m_X4_isSafeOn_49 F S p1 p2 K29 n x3 x5 1 v16)
def m_X4_isSafeOn_29 (F : Nat) (S : St) (p1 p2 : Int32) : Nat → Int32 → Int32 → Int32 → Option Int32
  | 0, _, _, _ => none
  | n + 1, x3, x4, x5 => if (S 0 1) ≤ x5 then gd (bz x4) (some x4) else if x4 = 0 then gd (bz x4) (some x4) else m_X4_isSafeOn_49 F S p1 p2 (fun z1 z2 z3 => m_X4_isSafeOn_29 F S p1 p2 n z1 z2 z3) F x3 x5 0 0
def m_X4_isSafeOn (F : Nat) (S : St) (p1 p2 : Int32) : Option Int32 := (m_X4_soundOf F S p2).bind (fun r1 => (m_X4_mostOf F S r1).bind (fun r2 => if ((r2 >>> (p1 &&& 31)) &&& 1) = 1 then m_X4_isSafeOn_29 F S p1 p2 F r1 1 0 else m_X4_isSafeOn_29 F S p1 p2 F r1 0 0))
def m_X4_safe_40 (F : Nat) (S : St) (p1 : Int32) (x2 : Int32) : Option Int32 := if x2 ≤ 99 then some x2 else some (-6)
def m_X4_safe_13 (F : Nat) (S : St) (p1 : Int32) : Nat → Int32 → Option Int32
  | 0, _ => none
  | n + 1, x2 => gd (inb p1 12) (if x2 ≤ (S 1 (ix p1)) then m_X4_safe_40 F S p1 x2 else (m_X4_isSafeOn F S p1 (x2 - 1)).bind (fun r5 => if r5 = 0 then m_X4_safe_40 F S p1 x2 else nm (x2 + (-1 : Int32)) (fun v7 => m_X4_safe_13 F S p1 n v7)))
def m_X4_safe (F : Nat) (S : St) (p1 : Int32) : Option Int32 := (m_X4_isAct S p1).bind (fun r1 => if r1 = 0 then some (-1) else m_X4_safe_13 F S p1 F 100)
def m_X4_told (S : St) (p1 : Int32) : Option Int32 := (m_X4_in (Int32.toInt64 p1) 10 21).bind (fun r1 => if r1 = 0 then if p1 = 0 then some (S 0 1) else if p1 = 1 then some (S 0 5) else if p1 = 2 then some (S 0 4) else if p1 = 3 then some (S 0 2) else if p1 = 4 then some (S 0 3) else some (-2) else (m_X4_isAct S (p1 - 10)).bind (fun r8 => if r8 = 0 then some 0 else gd (inb (p1 - 10) 12) (some (S 9 (ix (p1 - 10))))))
