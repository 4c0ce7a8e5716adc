theorem zq_ti {n : Nat} (h : n < 2147483648) : (nI n).toInt = (n : Int) := by
  show (Int32.ofNat n).toInt = _
  exact Int32.toInt_ofNat_of_lt (by simpa using h)
theorem zq_inj {m n : Nat} (hm : m < 2147483648) (hn : n < 2147483648) : nI m = nI n ↔ m = n := by
  constructor
  · intro h
    have := congrArg Int32.toInt h
    rw [zq_ti hm, zq_ti hn] at this
    omega
  · rintro rfl; rfl
theorem zq_lt {m n : Nat} (hm : m < 2147483648) (hn : n < 2147483648) : nI m < nI n ↔ m < n := by
  rw [Int32.lt_iff_toInt_lt, zq_ti hm, zq_ti hn]; omega
theorem zq_le {m n : Nat} (hm : m < 2147483648) (hn : n < 2147483648) : nI m ≤ nI n ↔ m ≤ n := by
  rw [Int32.le_iff_toInt_le, zq_ti hm, zq_ti hn]; omega
theorem zq_nn {m : Nat} (hm : m < 2147483648) : ¬ nI m < 0 := by
  rw [Int32.lt_iff_toInt_lt, zq_ti hm]; show ¬ (m : Int) < (0 : Int32).toInt; have : (0 : Int32).toInt = 0 := rfl; omega
theorem zq_n1 {m : Nat} (hm : m < 2147483648) : ¬ nI m = -1 := by
  intro h
  have := congrArg Int32.toInt h
  rw [zq_ti hm] at this
  have e : (-1 : Int32).toInt = -1 := rfl
  omega
theorem zq_cl {m : Nat} (hm : m < 2147483648) : (nI m).toNatClampNeg = m := by
  show (nI m).toInt.toNat = m
  rw [zq_ti hm]; rfl
theorem zq_add (m n : Nat) : nI m + nI n = nI (m + n) := by
  show Int32.ofNat m + Int32.ofNat n = Int32.ofNat (m + n)
  exact (Int32.ofNat_add m n).symm
theorem zq_by : ∀ c : Nat, c < 256 → zt_letter (sb_b c) = zt_letter (nI c) ∧ zt_digit (sb_b c) = zt_digit (nI c) ∧ decide (sb_b c = 45) = decide (nI c = 45) ∧ decide (sb_b c = 32) = decide (nI c = 32) ∧ decide (sb_b c = 10) = decide (nI c = 10) ∧ decide (sb_b c = 40) = decide (nI c = 40) ∧ decide (sb_b c = 41) = decide (nI c = 41) := by decide +kernel
theorem zq_l : ∀ c : Nat, c < 256 → zt_letter (nI c) = true → sb_b c = nI c ∧ 97 ≤ c ∧ c ≤ 122 ∧ (nI c - 97 + 1).toInt64 = Int64.ofNat (c - 96) := by decide +kernel
theorem zq_d : ∀ c : Nat, c < 256 → zt_digit (nI c) = true → sb_b c = nI c ∧ 48 ≤ c ∧ c ≤ 57 ∧ (nI c - 48).toInt64 = Int64.ofNat (c - 48) := by decide +kernel
theorem zq_j : ∀ c : Nat, c < 256 → zt_joined (nI c) = true → ¬ nI c = 40 ∧ ¬ nI c = 41 := by decide +kernel
section
variable {tx : Nat → Nat} {size : Nat}
theorem zq_skip (hb : ∀ k, k < size → tx k < 256) : ∀ (n k : Nat), k + n = size → zl_zm_n1 tx n k = zt_skipF tx size n k := by
  intro n
  induction n with
  | zero => intro k _; rfl
  | succ n ih =>
    intro k hk
    have hc := zq_by (tx k) (hb k (by omega))
    have e : zt_at tx size k = nI (tx k) := if_pos (by omega)
    rw [zl_zm_n1, zt_skipF, e, zt_blank]
    have h32 : sb_b (tx k) = 32 ↔ nI (tx k) = 32 := by simpa using hc.2.2.2.1
    have h10 : sb_b (tx k) = 10 ↔ nI (tx k) = 10 := by simpa using hc.2.2.2.2.1
    by_cases h1 : nI (tx k) = 32
    · rw [if_pos (h32.2 h1), if_pos h1, if_pos rfl]; exact ih _ (by omega)
    · rw [if_neg (fun h => h1 (h32.1 h)), if_neg h1]
      by_cases h2 : nI (tx k) = 10
      · rw [if_pos (h10.2 h2), if_pos h2, if_pos rfl]; exact ih _ (by omega)
      · rw [if_neg (fun h => h2 (h10.1 h)), if_neg h2, if_neg (by decide)]
theorem zq_isRun (hb : ∀ k, k < size → tx k < 256) {k : Nat} (hk : k < size) : zm_isRun tx size k = zt_joined (nI (tx k)) := by
  have hc := zq_by (tx k) (hb k hk)
  have h45 : sb_b (tx k) = 45 ↔ nI (tx k) = 45 := by simpa using hc.2.2.1
  rw [zm_isRun, zt_joined, if_neg (by omega), hc.1, hc.2.1]
  simp only [h45]
theorem zq_run (hb : ∀ k, k < size → tx k < 256) : ∀ (n k : Nat), k + n = size → zl_zm_n2 tx size n k = zt_runF tx size n k := by
  intro n
  induction n with
  | zero => intro k _; rfl
  | succ n ih =>
    intro k hk
    have e : zt_at tx size k = nI (tx k) := if_pos (by omega)
    rw [zl_zm_n2, zt_runF, e, zq_isRun hb (by omega), ih (k + 1) (by omega)]
end
theorem zq_rnF (tx : Nat → Nat) : ∀ (n : Nat) (a : Int64) (k : Nat), (zl_zm_rnl tx n false a k).1 = false := by
  intro n
  induction n with
  | zero => intro a k; rfl
  | succ n ih => intro a k; rw [zl_zm_rnl, if_neg (by decide)]; exact ih _ _
def zq_fold (tx : Nat → Nat) : Nat → Nat → Nat → Nat
  | 0, _, a => a
  | n + 1, k, a => zq_fold tx n (k + 1) (a * 32 + (tx k - 96))
theorem zq_nmF {tx : Nat → Nat} {size : Nat} (hb : ∀ k, k < size → tx k < 256) : ∀ (n k : Nat) (a : Nat), k + n ≤ size → 
    (∃ b : Int64, zt_nmF tx size n k (Int64.ofNat a) = (true, b) ∧ zl_zm_rnl tx n true (Int64.ofNat a) k = (true, b, k + n) ∧ b = Int64.ofNat (zq_fold tx n k a) ∧ ∀ j, k ≤ j → j < k + n → 97 ≤ tx j ∧ tx j ≤ 122) ∨
    ((zt_nmF tx size n k (Int64.ofNat a)).1 = false ∧ (zl_zm_rnl tx n true (Int64.ofNat a) k).1 = false) := by
  intro n
  induction n with
  | zero => intro k a _; exact Or.inl ⟨_, rfl, rfl, rfl, fun j h1 h2 => by omega⟩
  | succ n ih =>
    intro k a hk
    have hc := zq_by (tx k) (hb k (by omega))
    have e : zt_at tx size k = nI (tx k) := if_pos (by omega)
    rw [zl_zm_rnl, zt_nmF, e, if_pos rfl, hc.1]
    by_cases hl : zt_letter (nI (tx k)) = true
    · obtain ⟨l1, l2, l3, l4⟩ := zq_l (tx k) (hb k (by omega)) hl
      have ea : (32 * Int64.ofNat a) + ((sb_b (tx k) - 97) + 1).toInt64 = Int64.ofNat (a * 32 + (tx k - 96)) := by
        rw [l1, l4, Int64.ofNat_add, Int64.ofNat_mul, Int64.mul_comm]; rfl
      have eb : Int64.ofNat a * 32 + (nI (tx k) - 97 + 1).toInt64 = Int64.ofNat (a * 32 + (tx k - 96)) := by
        rw [l4, Int64.ofNat_add, Int64.ofNat_mul]; rfl
      rw [if_pos hl, if_pos hl, ea, eb]
      rcases ih (k + 1) (a * 32 + (tx k - 96)) (by omega) with ⟨b, h1, h2, h3, h4⟩ | ⟨h1, h2⟩
      · refine Or.inl ⟨b, h1, ?_, h3, ?_⟩
        · rw [h2]; congr 2; omega
        · intro j hj1 hj2
          by_cases hj : j = k
          · subst hj; exact ⟨l2, l3⟩
          · exact h4 j (by omega) (by omega)
      · exact Or.inr ⟨h1, h2⟩
    · rw [if_neg hl, if_neg hl]
      exact Or.inr ⟨rfl, zq_rnF _ _ _ _⟩
theorem zq_rmF (tx : Nat → Nat) : ∀ (n : Nat) (a : Int64) (k : Nat), (zl_zm_rml tx n false a k).1 = false := by
  intro n
  induction n with
  | zero => intro a k; rfl
  | succ n ih => intro a k; rw [zl_zm_rml, if_neg (by decide)]; split <;> exact ih _ _
theorem zq_t64 {n : Nat} (h : n < 9223372036854775808) : (Int64.ofNat n).toInt = (n : Int) := Int64.toInt_ofNat_of_lt (by simpa using h)
theorem zq_cmp {x y : Nat} (hx : x < 9223372036854775808) (hy : y < 9223372036854775808) : (lg_cmp (Int64.ofNat x) (Int64.ofNat y) ≤ 0) ↔ x ≤ y := by
  rw [lg_cmp]
  have e : (Int64.ofNat x > Int64.ofNat y) ↔ y < x := by
    show Int64.ofNat y < Int64.ofNat x ↔ _
    rw [Int64.lt_iff_toInt_lt, zq_t64 hx, zq_t64 hy]; omega
  by_cases h : y < x
  · rw [if_pos (e.2 h)]; constructor
    · intro h; exact absurd h (by decide)
    · intro h; omega
  · rw [if_neg (fun g => h (e.1 g))]
    split
    · exact ⟨fun _ => by omega, fun _ => by decide⟩
    · exact ⟨fun _ => by omega, fun _ => by decide⟩
theorem zq_le64 {x y : Nat} (hx : x < 9223372036854775808) (hy : y < 9223372036854775808) : (Int64.ofNat x ≤ Int64.ofNat y) ↔ x ≤ y := by
  rw [Int64.le_iff_toInt_le, zq_t64 hx, zq_t64 hy]; omega
theorem zq_c11 {a : Nat} (h : a ≤ 1000000000000) : lg_cmp (Int64.ofNat a) 99999999999 ≤ 0 ↔ a ≤ 99999999999 := zq_cmp (y := 99999999999) (by omega) (by omega)
theorem zq_rmB (tx : Nat → Nat) {size : Nat} (hb : ∀ k, k < size → tx k < 256) : ∀ (n : Nat) (a : Nat) (k : Nat), k + n ≤ size → a ≤ 1000000000000 → (zl_zm_rml tx n true (Int64.ofNat a) k).1 = false ∨ ∃ b : Nat, a ≤ b ∧ b ≤ 1000000000000 ∧ (zl_zm_rml tx n true (Int64.ofNat a) k).2.1 = Int64.ofNat b := by
  intro n
  induction n with
  | zero => intro a k _ ha; exact Or.inr ⟨a, Nat.le_refl _, ha, rfl⟩
  | succ n ih =>
    intro a k hk ha
    have hc := zq_by (tx k) (hb k (by omega))
    rw [zl_zm_rml, if_pos rfl, hc.2.1]
    by_cases hd : zt_digit (nI (tx k)) = true
    · rw [if_pos hd]
      obtain ⟨l1, l2, l3, l4⟩ := zq_d (tx k) (hb k (by omega)) hd
      by_cases h : a ≤ 99999999999
      · rw [if_pos ((zq_c11 (by omega)).2 h)]
        have ea : (10 * Int64.ofNat a) + (sb_b (tx k) - 48).toInt64 = Int64.ofNat (10 * a + (tx k - 48)) := by
          rw [l1, l4, Int64.ofNat_add, Int64.ofNat_mul]; rfl
        rw [ea]
        rcases ih (10 * a + (tx k - 48)) (k + 1) (by omega) (by omega) with h | ⟨b, h1, h2, h3⟩
        · exact Or.inl h
        · exact Or.inr ⟨b, by omega, h2, h3⟩
      · rw [if_neg (fun g => h ((zq_c11 (by omega)).1 g))]
        exact ih a (k + 1) (by omega) ha
    · rw [if_neg hd]; left
      split <;> exact zq_rmF _ _ _ _
theorem zq_nbF {tx : Nat → Nat} {size : Nat} (hb : ∀ k, k < size → tx k < 256) {most : Nat} (hm : most ≤ 2147483648) : ∀ (n k : Nat) (a : Nat), k + n ≤ size → a ≤ most →
    (∃ b : Nat, b ≤ most ∧ zt_nbF tx size (Int64.ofNat most) n k (Int64.ofNat a) = (true, Int64.ofNat b) ∧ zl_zm_rml tx n true (Int64.ofNat a) k = (true, Int64.ofNat b, k + n)) ∨
    ((zt_nbF tx size (Int64.ofNat most) n k (Int64.ofNat a)).1 = false ∧ ((zl_zm_rml tx n true (Int64.ofNat a) k).1 = false ∨ ∃ b : Nat, most < b ∧ b ≤ 1000000000000 ∧ (zl_zm_rml tx n true (Int64.ofNat a) k).2.1 = Int64.ofNat b)) := by
  intro n
  induction n with
  | zero => intro k a _ ha; exact Or.inl ⟨a, ha, rfl, rfl⟩
  | succ n ih =>
    intro k a hk ha
    have hc := zq_by (tx k) (hb k (by omega))
    have e : zt_at tx size k = nI (tx k) := if_pos (by omega)
    rw [zl_zm_rml, zt_nbF, e, if_pos rfl, hc.2.1]
    by_cases hd : zt_digit (nI (tx k)) = true
    · obtain ⟨l1, l2, l3, l4⟩ := zq_d (tx k) (hb k (by omega)) hd
      rw [if_pos hd, if_pos hd, if_pos ((zq_c11 (by omega)).2 (by omega))]
      have ea : (10 * Int64.ofNat a) + (sb_b (tx k) - 48).toInt64 = Int64.ofNat (10 * a + (tx k - 48)) := by
        rw [l1, l4, Int64.ofNat_add, Int64.ofNat_mul]; rfl
      have eb : Int64.ofNat a * 10 + (nI (tx k) - 48).toInt64 = Int64.ofNat (10 * a + (tx k - 48)) := by
        rw [l4, Int64.ofNat_add, Int64.ofNat_mul, Int64.mul_comm]; rfl
      rw [ea, eb]
      by_cases hl : 10 * a + (tx k - 48) ≤ most
      · rw [if_pos ((zq_le64 (by omega) (by omega)).2 hl)]
        rcases ih (k + 1) (10 * a + (tx k - 48)) (by omega) hl with ⟨b, h1, h2, h3⟩ | ⟨h1, h2⟩
        · refine Or.inl ⟨b, h1, h2, ?_⟩
          rw [h3]; congr 2; omega
        · exact Or.inr ⟨h1, h2⟩
      · rw [if_neg (fun g => hl ((zq_le64 (by omega) (by omega)).1 g))]
        refine Or.inr ⟨rfl, ?_⟩
        rcases zq_rmB tx hb n (10 * a + (tx k - 48)) (k + 1) (by omega) (by omega) with h | ⟨b, h1, h2, h3⟩
        · exact Or.inl h
        · exact Or.inr ⟨b, by omega, h2, h3⟩
    · rw [if_neg hd, if_neg hd]
      refine Or.inr ⟨rfl, Or.inl ?_⟩
      split <;> exact zq_rmF _ _ _ _
theorem zq_cL {x y : Int64} : lg_cmp x y < 0 ↔ x.toInt < y.toInt := by
  rw [lg_cmp]
  have e1 : (x > y) ↔ y.toInt < x.toInt := Int64.lt_iff_toInt_lt
  by_cases h : x > y
  · rw [if_pos h]; have := e1.1 h
    exact ⟨fun g => absurd g (by decide), fun g => by omega⟩
  · rw [if_neg h]
    by_cases h2 : x = y
    · rw [if_pos h2]; subst h2
      exact ⟨fun g => absurd g (by decide), fun g => by omega⟩
    · rw [if_neg h2]
      refine ⟨fun _ => ?_, fun _ => by decide⟩
      have h3 : ¬ y.toInt < x.toInt := fun g => h (e1.2 g)
      have h4 : x.toInt ≠ y.toInt := fun g => h2 (Int64.toInt_inj.1 g)
      omega
theorem zq_cE {x y : Int64} : lg_cmp x y ≤ 0 ↔ x.toInt ≤ y.toInt := by
  rw [lg_cmp]
  have e1 : (x > y) ↔ y.toInt < x.toInt := Int64.lt_iff_toInt_lt
  by_cases h : x > y
  · rw [if_pos h]; have := e1.1 h
    exact ⟨fun g => absurd g (by decide), fun g => by omega⟩
  · rw [if_neg h]
    have h3 : ¬ y.toInt < x.toInt := fun g => h (e1.2 g)
    split <;> exact ⟨fun _ => by omega, fun _ => by decide⟩
theorem zq_neg {b : Nat} (h : b ≤ 1000000000000) : (-(Int64.ofNat b)).toInt = -(b : Int) := by
  rw [Int64.toInt_neg, zq_t64 (by omega)]
  apply Int.bmod_eq_of_le <;> omega
theorem zq_w1 (plc : Int32) (k : Nat) : (zm_wrong 0 plc 1 k).1 = 1 ∧ (zm_wrong 0 plc 1 k).2 = nI k := by
  rw [zm_wrong, if_pos rfl]; exact ⟨rfl, rfl⟩
theorem zq_most (neg : Bool) : zt_most neg = Int64.ofNat (if neg = true then 2147483648 else 2147483647) := by cases neg <;> rfl
theorem zq_num {tx : Nat → Nat} {size : Nat} (hb : ∀ k, k < size → tx k < 256) {pp att : Nat} (h1 : att < pp) (h2 : pp ≤ size) (plc vl : Int32) :
    ((zt_nb tx size pp att (decide (nI (tx att) = 45)) vl).1 = true ∧ zm_readNumber tx 0 plc pp att = (0, plc, 3, (zt_nb tx size pp att (decide (nI (tx att) = 45)) vl).2)) ∨
    ((zt_nb tx size pp att (decide (nI (tx att) = 45)) vl).1 = false ∧ (zm_readNumber tx 0 plc pp att).1 = 1 ∧ (zm_readNumber tx 0 plc pp att).2.1 = nI att) := by
  have hc := zq_by (tx att) (hb att (by omega))
  have h45 : sb_b (tx att) = 45 ↔ nI (tx att) = 45 := by simpa using hc.2.2.1
  have hw := zq_w1 plc att
  rw [zm_readNumber, zt_nb, zq_most]
  by_cases hn : nI (tx att) = 45
  · rw [if_pos (h45.2 hn), decide_eq_true hn]
    simp only [zt_from, if_true]
    by_cases hp : pp ≤ att + 1
    · have en : pp - (att + 1) = 0 := by omega
      rw [if_pos hp, if_neg (by omega : ¬ att + 1 ≤ att), en]
      refine Or.inr ⟨?_, ?_⟩
      · show decide (att + 1 < pp) = false
        exact decide_eq_false (by omega)
      · rw [if_neg (by rw [zq_rmF]; decide)]; exact hw
    · rw [if_neg hp, if_neg (by omega : ¬ att + 1 ≤ att)]
      rcases zq_nbF hb (most := 2147483648) (by omega) (pp - (att + 1)) (att + 1) 0 (by omega) (by omega) with ⟨b, q1, q2, q3⟩ | ⟨q1, q2⟩
      · have q2 : zt_nbF tx size (Int64.ofNat 2147483648) (pp - (att + 1)) (att + 1) 0 = (true, Int64.ofNat b) := q2
        have q3 : zl_zm_rml tx (pp - (att + 1)) true 0 (att + 1) = (true, Int64.ofNat b, att + 1 + (pp - (att + 1))) := q3
        rw [q2, q3]
        have hg := zq_neg (b := b) (by omega)
        have m1 : (-2147483648 : Int64).toInt = -2147483648 := rfl
        have m2 : (2147483647 : Int64).toInt = 2147483647 := rfl
        rw [if_pos rfl, if_neg (by rw [zq_cL, hg, m1]; omega), if_pos (by rw [zq_cE, hg, m2]; omega)]
        refine Or.inl ⟨?_, rfl⟩
        show decide (att + 1 < pp) = true
        exact decide_eq_true (by omega)
      · have q1 : (zt_nbF tx size (Int64.ofNat 2147483648) (pp - (att + 1)) (att + 1) 0).1 = false := q1
        refine Or.inr ⟨?_, ?_⟩
        · generalize zt_nbF tx size (Int64.ofNat 2147483648) (pp - (att + 1)) (att + 1) 0 = u at q1
          obtain ⟨u1, u2⟩ := u
          cases u1
          · rfl
          · simp at q1
        · change ((zl_zm_rml tx (pp - (att + 1)) true 0 (att + 1)).1 = false ∨ ∃ b : Nat, 2147483648 < b ∧ b ≤ 1000000000000 ∧ (zl_zm_rml tx (pp - (att + 1)) true 0 (att + 1)).2.1 = Int64.ofNat b) at q2
          rcases q2 with q2 | ⟨b, q3, q4, q5⟩
          · rw [if_neg (by rw [q2]; decide)]; exact hw
          · by_cases ht : (zl_zm_rml tx (pp - (att + 1)) true 0 (att + 1)).1 = true
            · rw [if_pos ht, q5, if_pos (by rw [zq_cL, zq_neg q4]; have m1 : (-2147483648 : Int64).toInt = -2147483648 := rfl; rw [m1]; omega)]; exact hw
            · rw [if_neg ht]; exact hw
  · rw [if_neg (fun g => hn (h45.1 g)), decide_eq_false hn]
    simp only [zt_from, if_false, Bool.false_eq_true]
    rw [if_neg (by omega : ¬ pp ≤ att), if_pos (Nat.le_refl att)]
    rcases zq_nbF hb (most := 2147483647) (by omega) (pp - att) att 0 (by omega) (by omega) with ⟨b, q1, q2, q3⟩ | ⟨q1, q2⟩
    · have q2 : zt_nbF tx size (Int64.ofNat 2147483647) (pp - att) att 0 = (true, Int64.ofNat b) := q2
      have q3 : zl_zm_rml tx (pp - att) true 0 att = (true, Int64.ofNat b, att + (pp - att)) := q3
      rw [q2, q3]
      have hg := zq_t64 (n := b) (by omega)
      have m1 : (-2147483648 : Int64).toInt = -2147483648 := rfl
      have m2 : (2147483647 : Int64).toInt = 2147483647 := rfl
      rw [if_pos rfl, if_neg (by rw [zq_cL, hg, m1]; omega), if_pos (by rw [zq_cE, hg, m2]; omega)]
      refine Or.inl ⟨?_, rfl⟩
      show decide (att < pp) = true
      exact decide_eq_true (by omega)
    · have q1 : (zt_nbF tx size (Int64.ofNat 2147483647) (pp - att) att 0).1 = false := q1
      refine Or.inr ⟨?_, ?_⟩
      · generalize zt_nbF tx size (Int64.ofNat 2147483647) (pp - att) att 0 = u at q1
        obtain ⟨u1, u2⟩ := u
        cases u1
        · rfl
        · simp at q1
      · change ((zl_zm_rml tx (pp - att) true 0 att).1 = false ∨ ∃ b : Nat, 2147483647 < b ∧ b ≤ 1000000000000 ∧ (zl_zm_rml tx (pp - att) true 0 att).2.1 = Int64.ofNat b) at q2
        rcases q2 with q2 | ⟨b, q3, q4, q5⟩
        · rw [if_neg (by rw [q2]; decide)]; exact hw
        · by_cases ht : (zl_zm_rml tx (pp - att) true 0 att).1 = true
          · have m1 : (-2147483648 : Int64).toInt = -2147483648 := rfl
            have m2 : (2147483647 : Int64).toInt = 2147483647 := rfl
            have hg := zq_t64 (n := b) (by omega)
            rw [if_pos ht, q5, if_neg (by rw [zq_cL, hg, m1]; omega), if_neg (by rw [zq_cE, hg, m2]; omega)]; exact hw
          · rw [if_neg ht]; exact hw
theorem zq_name {tx : Nat → Nat} {size : Nat} (hb : ∀ k, k < size → tx k < 256) {pp att : Nat} (h1 : att < pp) (h2 : pp ≤ size) (plc : Int32) (nm : Int64) (wd : Int32) :
    (∃ b : Int64, zt_nm tx size pp att nm wd = (true, b, zt_word b) ∧ zm_readName tx 0 plc pp att = (0, plc, 2, b) ∧ pp - att ≤ 12 ∧ b = Int64.ofNat (zq_fold tx (pp - att) att 0) ∧ ∀ j, att ≤ j → j < pp → 97 ≤ tx j ∧ tx j ≤ 122) ∨
    ((zt_nm tx size pp att nm wd).1 = false ∧ (zm_readName tx 0 plc pp att).1 = 1 ∧ (zm_readName tx 0 plc pp att).2.1 = nI att) := by
  have hw := zq_w1 plc att
  rw [zm_readName, zt_nm]
  by_cases h12 : pp - att ≤ 12
  · rw [if_pos h12, if_neg (by omega : ¬ 12 < pp - att)]
    rcases zq_nmF hb (pp - att) att 0 (by omega) with ⟨b, q1, q2, q3, q4⟩ | ⟨q1, q2⟩
    · have q1 : zt_nmF tx size (pp - att) att 0 = (true, b) := q1
      have q2 : zl_zm_rnl tx (pp - att) true 0 att = (true, b, att + (pp - att)) := q2
      rw [q1, q2, if_pos rfl]
      exact Or.inl ⟨b, rfl, rfl, h12, q3, fun j g1 g2 => q4 j g1 (by omega)⟩
    · have q1 : (zt_nmF tx size (pp - att) att 0).1 = false := q1
      have q2 : (zl_zm_rnl tx (pp - att) true 0 att).1 = false := q2
      rw [if_neg (by rw [q2]; decide)]
      refine Or.inr ⟨?_, hw⟩
      generalize zt_nmF tx size (pp - att) att 0 = u at q1
      obtain ⟨u1, u2⟩ := u
      cases u1
      · rfl
      · simp at q1
  · rw [if_neg h12, if_pos (by omega : 12 < pp - att), if_neg (by rw [zq_rnF]; decide)]
    exact Or.inr ⟨rfl, hw⟩
def zq_nm (tx : Nat → Nat) (att pp : Nat) (name : Int64) : Prop := att < pp ∧ pp - att ≤ 12 ∧ name = Int64.ofNat (zq_fold tx (pp - att) att 0) ∧ ∀ j, att ≤ j → j < pp → 97 ≤ tx j ∧ tx j ≤ 122
def zq_tk (tx : Nat → Nat) (size pp0 : Nat) (plc0 : Int32) (c : Int32 × Nat × Nat × Int64 × Int32 × Int32) (r : Int32 × Int32 × Nat × Int32 × Nat × Int64 × Int32) : Prop :=
  pp0 ≤ c.2.2.1 ∧ r.2.2.2.2.1 = c.2.2.1 ∧ r.2.2.1 ≤ size ∧ c.2.2.1 ≤ size ∧
  ((c.1 = 1 ∧ r.1 = 1 ∧ r.2.1 = nI c.2.2.1) ∨
   (r.1 = 0 ∧ r.2.1 = plc0 ∧
    ((c.1 = 0 ∧ r.2.2.2.1 = 4 ∧ c.2.2.1 = size ∧ r.2.2.1 = size) ∨
     (r.2.2.1 = c.2.1 ∧ c.2.2.1 < c.2.1 ∧
      ((c.1 = 2 ∧ r.2.2.2.1 = 0) ∨ (c.1 = 3 ∧ r.2.2.2.1 = 1) ∨
       (c.1 = 4 ∧ r.2.2.2.1 = 2 ∧ r.2.2.2.2.2.1 = c.2.2.2.1 ∧ c.2.2.2.2.1 = zt_word c.2.2.2.1 ∧ zq_nm tx c.2.2.1 c.2.1 c.2.2.2.1) ∨
       (c.1 = 5 ∧ r.2.2.2.1 = 3 ∧ r.2.2.2.2.2.2 = c.2.2.2.2.2))))))
theorem zq_next {tx : Nat → Nat} {size : Nat} (hb : ∀ k, k < size → tx k < 256) {pp : Nat} (hp : pp ≤ size) (plc tok val wd vl : Int32) (spl nm : Int64) :
    zq_tk tx size pp plc (zt_tok tx size pp nm wd vl) (zm_next tx size 0 plc pp tok spl val) := by
  have es := zq_skip hb (size - pp) pp (by omega)
  have hs := zt_skipF_le tx size (size - pp) pp
  rw [zm_next, zt_tok, es]
  change zq_tk tx size pp plc (if zt_at tx size (zt_skipF tx size (size - pp) pp) = -1 then (0, zt_skipF tx size (size - pp) pp, zt_skipF tx size (size - pp) pp, nm, wd, vl)
  else if zt_joined (zt_at tx size (zt_skipF tx size (size - pp) pp)) = true then ((zt_sj tx size (zt_skipF tx size (size - pp) pp) (zt_at tx size (zt_skipF tx size (size - pp) pp)) nm wd vl).1, (zt_sj tx size (zt_skipF tx size (size - pp) pp) (zt_at tx size (zt_skipF tx size (size - pp) pp)) nm wd vl).2.1, zt_skipF tx size (size - pp) pp, (zt_sj tx size (zt_skipF tx size (size - pp) pp) (zt_at tx size (zt_skipF tx size (size - pp) pp)) nm wd vl).2.2)
  else (if zt_at tx size (zt_skipF tx size (size - pp) pp) = 40 then 2 else if zt_at tx size (zt_skipF tx size (size - pp) pp) = 41 then 3 else 1, zt_skipF tx size (size - pp) pp + 1, zt_skipF tx size (size - pp) pp, nm, wd, vl)) _
  generalize zt_skipF tx size (size - pp) pp = k at *
  by_cases hk : k = size
  · have ea : zt_at tx size k = -1 := if_neg (by omega)
    rw [if_pos hk, if_pos ea]
    exact ⟨hs.1, rfl, by show k ≤ size; omega, by show k ≤ size; omega, Or.inr ⟨rfl, rfl, Or.inl ⟨rfl, rfl, hk, hk⟩⟩⟩
  · have hlt : k < size := by omega
    have h256 := hb k hlt
    have ea : zt_at tx size k = nI (tx k) := if_pos hlt
    have hc := zq_by (tx k) h256
    have h40 : sb_b (tx k) = 40 ↔ nI (tx k) = 40 := by simpa using hc.2.2.2.2.2.1
    have h41 : sb_b (tx k) = 41 ↔ nI (tx k) = 41 := by simpa using hc.2.2.2.2.2.2
    rw [if_neg hk, ea, if_neg (zq_n1 (by omega)), zq_run hb (size - k) k (by omega)]
    by_cases hj : zt_joined (nI (tx k)) = true
    · have hjn := zq_j (tx k) h256 hj
      have hr : k < zt_runF tx size (size - k) k := by
        obtain ⟨n, hn⟩ : ∃ n, size - k = n + 1 := ⟨size - k - 1, by omega⟩
        rw [hn, zt_runF, ea, if_pos hj]
        have := zt_runF_le tx size n (k + 1)
        omega
      have hr2 := (zt_runF_le tx size (size - k) k).2
      rw [if_pos hj, if_neg (fun g => hjn.1 (h40.1 g)), if_neg (fun g => hjn.2 (h41.1 g)), if_neg (by omega), hc.1]
      unfold zt_sj
      change zq_tk tx size pp plc ((if zt_letter (nI (tx k)) = true then (if (zt_nm tx size (zt_runF tx size (size - k) k) k nm wd).1 = true then 4 else 1, zt_runF tx size (size - k) k, (zt_nm tx size (zt_runF tx size (size - k) k) k nm wd).2.1, (zt_nm tx size (zt_runF tx size (size - k) k) k nm wd).2.2, vl)
  else (if (zt_nb tx size (zt_runF tx size (size - k) k) k (decide (nI (tx k) = 45)) vl).1 = true then 5 else 1, zt_runF tx size (size - k) k, nm, wd, (zt_nb tx size (zt_runF tx size (size - k) k) k (decide (nI (tx k) = 45)) vl).2)).1, (if zt_letter (nI (tx k)) = true then (if (zt_nm tx size (zt_runF tx size (size - k) k) k nm wd).1 = true then 4 else 1, zt_runF tx size (size - k) k, (zt_nm tx size (zt_runF tx size (size - k) k) k nm wd).2.1, (zt_nm tx size (zt_runF tx size (size - k) k) k nm wd).2.2, vl)
  else (if (zt_nb tx size (zt_runF tx size (size - k) k) k (decide (nI (tx k) = 45)) vl).1 = true then (5 : Int32) else 1, zt_runF tx size (size - k) k, nm, wd, (zt_nb tx size (zt_runF tx size (size - k) k) k (decide (nI (tx k) = 45)) vl).2)).2.1, k, (if zt_letter (nI (tx k)) = true then (if (zt_nm tx size (zt_runF tx size (size - k) k) k nm wd).1 = true then 4 else 1, zt_runF tx size (size - k) k, (zt_nm tx size (zt_runF tx size (size - k) k) k nm wd).2.1, (zt_nm tx size (zt_runF tx size (size - k) k) k nm wd).2.2, vl)
  else (if (zt_nb tx size (zt_runF tx size (size - k) k) k (decide (nI (tx k) = 45)) vl).1 = true then (5 : Int32) else 1, zt_runF tx size (size - k) k, nm, wd, (zt_nb tx size (zt_runF tx size (size - k) k) k (decide (nI (tx k) = 45)) vl).2)).2.2) _
      generalize zt_runF tx size (size - k) k = p' at *
      by_cases hl : zt_letter (nI (tx k)) = true
      · rw [if_pos hl, if_pos hl]
        rcases zq_name hb hr (by omega) plc nm wd with ⟨b, q1, q2, q3, q4, q5⟩ | ⟨q1, q2, q3⟩
        · rw [q1, q2]
          exact ⟨hs.1, rfl, by show p' ≤ size; omega, by show k ≤ size; omega, Or.inr ⟨rfl, rfl, Or.inr ⟨rfl, hr, Or.inr (Or.inr (Or.inl ⟨rfl, rfl, rfl, rfl, hr, q3, q4, q5⟩))⟩⟩⟩
        · rw [q1]
          exact ⟨hs.1, rfl, by show p' ≤ size; omega, by show k ≤ size; omega, Or.inl ⟨rfl, q2, q3⟩⟩
      · rw [if_neg hl, if_neg hl]
        rcases zq_num hb hr (by omega) plc vl with ⟨q1, q2⟩ | ⟨q1, q2, q3⟩
        · rw [q2, q1]
          exact ⟨hs.1, rfl, by show p' ≤ size; omega, by show k ≤ size; omega, Or.inr ⟨rfl, rfl, Or.inr ⟨rfl, hr, Or.inr (Or.inr (Or.inr ⟨rfl, rfl, rfl⟩))⟩⟩⟩
        · rw [q1]
          exact ⟨hs.1, rfl, by show p' ≤ size; omega, by show k ≤ size; omega, Or.inl ⟨rfl, q2, q3⟩⟩
    · rw [if_neg hj]
      have hr : zt_runF tx size (size - k) k = k := by
        obtain ⟨n, hn⟩ : ∃ n, size - k = n + 1 := ⟨size - k - 1, by omega⟩
        rw [hn, zt_runF, ea, if_neg hj]
      by_cases e40 : nI (tx k) = 40
      · rw [if_pos (h40.2 e40), if_pos (h40.2 e40), if_pos e40]
        exact ⟨hs.1, rfl, by show k + 1 ≤ size; omega, by show k ≤ size; omega, Or.inr ⟨rfl, rfl, Or.inr ⟨rfl, Nat.lt_succ_self k, Or.inl ⟨rfl, rfl⟩⟩⟩⟩
      · rw [if_neg (fun g => e40 (h40.1 g)), if_neg e40]
        by_cases e41 : nI (tx k) = 41
        · rw [if_pos (h41.2 e41), if_neg (fun g => e40 (h40.1 g)), if_pos e41]
          exact ⟨hs.1, rfl, by show k + 1 ≤ size; omega, by show k ≤ size; omega, Or.inr ⟨rfl, rfl, Or.inr ⟨rfl, Nat.lt_succ_self k, Or.inr (Or.inl ⟨rfl, rfl⟩)⟩⟩⟩
        · rw [if_neg (fun g => e41 (h41.1 g)), if_neg e41, if_pos hr]
          exact ⟨hs.1, rfl, by rw [hr]; show k ≤ size; omega, by show k ≤ size; omega, Or.inl ⟨rfl, (zq_w1 plc k).1, (zq_w1 plc k).2⟩⟩
def zq_C (tx : Nat → Nat) : Nat → Nat → List Nat
  | 0, _ => []
  | n + 1, k => tx k :: zq_C tx n (k + 1)
def zq_F (l : List Nat) : Nat := l.foldl (fun a c => a * 32 + (c - 96)) 0
theorem zq_fold_C (tx : Nat → Nat) : ∀ n k a : Nat, zq_fold tx n k a = (zq_C tx n k).foldl (fun a c => a * 32 + (c - 96)) a := by
  intro n
  induction n with
  | zero => intro k a; rfl
  | succ n ih => intro k a; rw [zq_fold, zq_C, List.foldl_cons]; exact ih _ _
def zq_g : List Nat → Nat
  | [] => 0
  | c :: l => zq_g l * 32 + (c - 96)
theorem zq_F_g (l : List Nat) : zq_F l = zq_g l.reverse := by
  rw [zq_F, List.foldl_eq_foldr_reverse]
  generalize l.reverse = m
  induction m with
  | nil => rfl
  | cons c m ih => rw [List.foldr_cons, ih]; rfl
theorem zq_g_inj : ∀ l m : List Nat, (∀ c ∈ l, 97 ≤ c ∧ c ≤ 122) → (∀ c ∈ m, 97 ≤ c ∧ c ≤ 122) → zq_g l = zq_g m → l = m := by
  intro l
  induction l with
  | nil =>
    intro m _ hm h
    cases m with
    | nil => rfl
    | cons c m => have := hm c (by simp); simp only [zq_g] at h; omega
  | cons c l ih =>
    intro m hl hm h
    cases m with
    | nil => have := hl c (by simp); simp only [zq_g] at h; omega
    | cons d m =>
      have h1 := hl c (by simp)
      have h2 := hm d (by simp)
      simp only [zq_g] at h
      have e : c = d := by omega
      have e2 : zq_g l = zq_g m := by omega
      rw [e, ih m (fun x hx => hl x (by simp [hx])) (fun x hx => hm x (by simp [hx])) e2]
theorem zq_F_inj {l m : List Nat} (h1 : ∀ c ∈ l, 97 ≤ c ∧ c ≤ 122) (h2 : ∀ c ∈ m, 97 ≤ c ∧ c ≤ 122) (h : zq_F l = zq_F m) : l = m := by
  rw [zq_F_g, zq_F_g] at h
  have := zq_g_inj _ _ (fun c hc => h1 c (by simpa using hc)) (fun c hc => h2 c (by simpa using hc)) h
  simpa using this
theorem zq_g_lt : ∀ l : List Nat, (∀ c ∈ l, 97 ≤ c ∧ c ≤ 122) → zq_g l < 32 ^ l.length := by
  intro l
  induction l with
  | nil => intro _; decide
  | cons c l ih =>
    intro h
    have h1 := h c (by simp)
    have := ih (fun x hx => h x (by simp [hx]))
    rw [zq_g, List.length_cons, Nat.pow_succ]
    omega
theorem zq_C_len (tx : Nat → Nat) : ∀ n k : Nat, (zq_C tx n k).length = n := by
  intro n
  induction n with
  | zero => intro k; rfl
  | succ n ih => intro k; rw [zq_C, List.length_cons, ih]
theorem zq_C_mem (tx : Nat → Nat) (P : Nat → Prop) : ∀ n k : Nat, (∀ j, k ≤ j → j < k + n → P (tx j)) → ∀ c ∈ zq_C tx n k, P c := by
  intro n
  induction n with
  | zero => intro k _ c hc; cases hc
  | succ n ih =>
    intro k h c hc
    rw [zq_C] at hc
    rcases List.mem_cons.1 hc with rfl | hc
    · exact h k (by omega) (by omega)
    · exact ih (k + 1) (fun j a b => h j (by omega) (by omega)) c hc
theorem zq_C_eq (tx : Nat → Nat) : ∀ (n k : Nat) (w : List Nat), zq_C tx n k = w ↔ (n = w.length ∧ ∀ j, j < n → tx (k + j) = w.getD j 0) := by
  intro n
  induction n with
  | zero =>
    intro k w
    rw [zq_C]
    constructor
    · rintro rfl; exact ⟨rfl, fun j h => by omega⟩
    · rintro ⟨h, -⟩; exact (List.length_eq_zero_iff.1 h.symm).symm
  | succ n ih =>
    intro k w
    rw [zq_C]
    cases w with
    | nil => simp
    | cons c w =>
      rw [List.cons.injEq, ih (k + 1) w]
      constructor
      · rintro ⟨h1, h2, h3⟩
        refine ⟨by simp [h2], ?_⟩
        intro j hj
        cases j with
        | zero => simpa using h1
        | succ j => have := h3 j (by omega); rw [show k + (j + 1) = k + 1 + j from by omega, this]; simp
      · rintro ⟨h1, h2⟩
        refine ⟨by simpa using h2 0 (by omega), by simpa using h1, ?_⟩
        intro j hj
        have := h2 (j + 1) (by omega)
        rw [show k + 1 + j = k + (j + 1) from by omega, this]; simp
theorem zq_isl (tx : Nat → Nat) (att i : Nat) : ∀ (n : Nat) (b : Bool) (k : Nat), (zl_zm_isl tx att i n b k).1 = true ↔ (b = true ∧ ∀ j, j < n → sb_b (tx (att + (k + j))) = zs_ch i (k + j)) := by
  intro n
  induction n with
  | zero => intro b k; exact ⟨fun h => ⟨h, fun j g => by omega⟩, fun h => h.1⟩
  | succ n ih =>
    intro b k
    rw [zl_zm_isl]
    by_cases hb : b = true
    · rw [if_pos hb]
      by_cases he : sb_b (tx (att + k)) = zs_ch i k
      · rw [if_pos he, ih]
        constructor
        · rintro ⟨-, h⟩
          refine ⟨hb, fun j hj => ?_⟩
          cases j with
          | zero => simpa using he
          | succ j => have := h j (by omega); rw [show k + (j + 1) = k + 1 + j from by omega]; exact this
        · rintro ⟨-, h⟩
          refine ⟨rfl, fun j hj => ?_⟩
          have := h (j + 1) (by omega); rw [show k + (j + 1) = k + 1 + j from by omega] at this; exact this
      · rw [if_neg he, ih]
        exact ⟨fun h => absurd h.1 (by decide), fun h => absurd (by simpa using h.2 0 (by omega)) he⟩
    · rw [if_neg hb, ih]
      exact ⟨fun h => absurd h.1 (by decide), fun h => absurd h.1 hb⟩
def zq_ws : List (List Nat) := [[102, 117, 110], [99, 104, 103], [105, 110, 116], [108, 105, 115, 116], [105, 109, 111, 100], [108, 109, 111, 100], [97, 100, 100], [115, 117, 98], [109, 117, 108], [100, 105, 118], [114, 101, 109], [108, 101, 115, 115], [115, 97, 109, 101], [105, 102], [108, 101, 116], [99, 97, 115, 101], [99, 111, 110, 115], [99, 97, 108, 108], [109, 101, 109, 111], [114, 101, 97, 100], [119, 114, 105, 116, 101], [106, 117, 109, 112], [110, 105, 108]]
def zq_wj : List Nat := [0, 1, 21, 22, 16, 17, 3, 4, 5, 6, 7, 8, 9, 10, 11, 12, 13, 14, 15, 18, 19, 20, 2]
theorem zq_wtab : ∀ i : Nat, i < 23 → (zq_ws.getD i []).length = zz_sl.getD (11 + i) 0 ∧ (∀ j : Nat, j < (zq_ws.getD i []).length → zs_ch (11 + i) j = nI ((zq_ws.getD i []).getD j 0)) ∧ (∀ c ∈ zq_ws.getD i [], 97 ≤ c ∧ c ≤ 122) ∧ zz_wd.getD (zq_wj.getD i 0) 0 = Int64.ofNat (zq_F (zq_ws.getD i [])) ∧ zq_F (zq_ws.getD i []) < 1152921504606846976 ∧ zq_wj.getD i 0 < 23 := by decide +kernel
theorem zq_wfu (n : Int64) : ∀ (l : List Int64) (i j : Nat), i + l.length ≤ 1000 → j < 1000 → zt_wf n i l = nI j → i ≤ j ∧ j - i < l.length ∧ l.getD (j - i) 0 = n := by
  intro l
  induction l with
  | nil => intro i j _ hj h; exact absurd h.symm (zq_n1 (by omega))
  | cons x l ih =>
    intro i j hl hj h
    rw [List.length_cons] at hl
    rw [zt_wf] at h
    by_cases hx : x = n
    · rw [if_pos hx] at h
      have := (zq_inj (by omega) (by omega)).1 h
      subst this
      refine ⟨Nat.le_refl _, by simp, ?_⟩
      simp [hx]
    · rw [if_neg hx] at h
      obtain ⟨h1, h2, h3⟩ := ih (i + 1) j (by omega) hj h
      refine ⟨by omega, by rw [List.length_cons]; omega, ?_⟩
      rw [show j - i = (j - (i + 1)) + 1 from by omega]
      simpa using h3
theorem zq_wfr (n : Int64) : ∀ (l : List Int64) (i : Nat), zt_wf n i l = -1 ∨ ∃ j, j < i + l.length ∧ zt_wf n i l = nI j := by
  intro l
  induction l with
  | nil => intro i; exact Or.inl rfl
  | cons x l ih =>
    intro i
    rw [zt_wf]
    split
    · exact Or.inr ⟨i, by simp, rfl⟩
    · rcases ih (i + 1) with h | ⟨j, h1, h2⟩
      · exact Or.inl h
      · exact Or.inr ⟨j, by rw [List.length_cons]; omega, h2⟩
theorem zq_wdr (n : Int64) : zt_word n = -1 ∨ ∃ j, j < 23 ∧ zt_word n = nI j := by
  rcases zq_wfr n zz_wd 0 with h | ⟨j, h1, h2⟩
  · exact Or.inl h
  · exact Or.inr ⟨j, by simpa [zz_wd] using h1, h2⟩
theorem zq_wdt : ∀ j : Nat, j < 23 → zt_word (zz_wd.getD j 0) = nI j := by decide +kernel
theorem zq_wde {n : Int64} {j : Nat} (hj : j < 23) : zt_word n = nI j ↔ n = zz_wd.getD j 0 := by
  constructor
  · intro h
    have := zq_wfu n zz_wd 0 j (by decide) (by omega) h
    simpa using this.2.2.symm
  · rintro rfl; exact zq_wdt j hj
theorem zq_mem {l : List Nat} {j : Nat} (h : j < l.length) : l.getD j 0 ∈ l := by
  rw [List.getD_eq_getElem?_getD, List.getElem?_eq_getElem h]; exact List.getElem_mem _
theorem zq_is {tx : Nat → Nat} {att pp : Nat} {name : Int64} (h : zq_nm tx att pp name) {i : Nat} (hi : i < 23) : zm_is tx pp 2 att (11 + i) = decide (zt_word name = nI (zq_wj.getD i 0)) := by
  obtain ⟨h1, h2, h3, h4⟩ := h
  obtain ⟨t1, t2, t3, t4, t5, t6⟩ := zq_wtab i hi
  have hC : ∀ c ∈ zq_C tx (pp - att) att, 97 ≤ c ∧ c ≤ 122 := zq_C_mem tx (fun c => 97 ≤ c ∧ c ≤ 122) _ _ (fun j a b => h4 j a (by omega))
  have hlt : zq_F (zq_C tx (pp - att) att) < 1152921504606846976 := by
    rw [zq_F_g]
    have := zq_g_lt (zq_C tx (pp - att) att).reverse (fun c hc => hC c (by simpa using hc))
    rw [List.length_reverse, zq_C_len] at this
    have h32 : 32 ^ (pp - att) ≤ 32 ^ 12 := Nat.pow_le_pow_right (by decide) h2
    have e : 32 ^ 12 = 1152921504606846976 := by decide
    omega
  rw [zq_fold_C] at h3
  change name = Int64.ofNat (zq_F (zq_C tx (pp - att) att)) at h3
  have e1 : (zt_word name = nI (zq_wj.getD i 0)) ↔ zq_C tx (pp - att) att = zq_ws.getD i [] := by
    rw [zq_wde t6, t4, h3]
    constructor
    · intro g
      have g2 := congrArg Int64.toInt g
      rw [zq_t64 (by omega), zq_t64 (by omega)] at g2
      exact zq_F_inj hC t3 (by omega)
    · intro g; rw [← g]
  rw [zm_is, if_pos rfl, Bool.eq_iff_iff, decide_eq_true_iff, e1, zq_C_eq, t1]
  by_cases hl : pp - att = zz_sl.getD (11 + i) 0
  · rw [if_pos hl, zq_isl]
    constructor
    · rintro ⟨-, g⟩
      refine ⟨hl, fun j hj => ?_⟩
      have q := h4 (att + j) (by omega) (by omega)
      have g1 := g j (by omega)
      rw [Nat.zero_add, t2 j (by omega), (zq_l (tx (att + j)) (by omega) ?_).1] at g1
      · have hm := t3 ((zq_ws.getD i []).getD j 0) (zq_mem (by omega))
        exact (zq_inj (by omega) (by omega)).1 g1
      · have : ∀ c : Nat, c < 123 → 97 ≤ c → zt_letter (nI c) = true := by decide +kernel
        exact this _ (by omega) (by omega)
    · rintro ⟨-, g⟩
      refine ⟨rfl, fun j hj => ?_⟩
      have q := h4 (att + j) (by omega) (by omega)
      rw [Nat.zero_add, t2 j (by omega), ← g j (by omega)]
      refine (zq_l (tx (att + j)) (by omega) ?_).1
      have : ∀ c : Nat, c < 123 → 97 ≤ c → zt_letter (nI c) = true := by decide +kernel
      exact this _ (by omega) (by omega)
  · rw [if_neg hl]
    exact ⟨fun g => absurd g (by decide), fun g => absurd g.1 hl⟩
theorem zq_is0 {tx : Nat → Nat} {att pp : Nat} {tok : Int32} (h : ¬ tok = 2) (i : Nat) : zm_is tx pp tok att i = false := if_neg h
theorem zq_ask {tx : Nat → Nat} {att pp : Nat} {name : Int64} (h : zq_nm tx att pp name) :
    zm_type tx pp 2 att = zp_typeHere 4 (zt_word name) ∧ zm_stableKind tx pp 2 att = zp_kindOfE 4 (zt_word name) ∧ zm_changeableKind tx pp 2 att = zp_kindOfC 4 (zt_word name) ∧
    zm_isOwn tx pp 2 att = zp_isFreeName 4 (zt_word name) ∧ zm_is tx pp 2 att 33 = decide (zt_word name = 2) ∧ zm_is tx pp 2 att 11 = decide (zt_word name = 0) ∧ zm_is tx pp 2 att 12 = decide (zt_word name = 1) := by
  have e11 := zq_is h (i := 0) (by decide)
  have e12 := zq_is h (i := 1) (by decide)
  have e13 := zq_is h (i := 2) (by decide)
  have e14 := zq_is h (i := 3) (by decide)
  have e15 := zq_is h (i := 4) (by decide)
  have e16 := zq_is h (i := 5) (by decide)
  have e17 := zq_is h (i := 6) (by decide)
  have e18 := zq_is h (i := 7) (by decide)
  have e19 := zq_is h (i := 8) (by decide)
  have e20 := zq_is h (i := 9) (by decide)
  have e21 := zq_is h (i := 10) (by decide)
  have e22 := zq_is h (i := 11) (by decide)
  have e23 := zq_is h (i := 12) (by decide)
  have e24 := zq_is h (i := 13) (by decide)
  have e25 := zq_is h (i := 14) (by decide)
  have e26 := zq_is h (i := 15) (by decide)
  have e27 := zq_is h (i := 16) (by decide)
  have e28 := zq_is h (i := 17) (by decide)
  have e29 := zq_is h (i := 18) (by decide)
  have e30 := zq_is h (i := 19) (by decide)
  have e31 := zq_is h (i := 20) (by decide)
  have e32 := zq_is h (i := 21) (by decide)
  have e33 := zq_is h (i := 22) (by decide)
  have hr := zq_wdr name
  generalize zt_word name = w at *
  simp only [Nat.reduceAdd] at e11 e12 e13 e14 e15 e16 e17 e18 e19 e20 e21 e22 e23 e24 e25 e26 e27 e28 e29 e30 e31 e32 e33
  simp only [zm_type, zm_stableKind, zm_operation, zm_changeableKind, zm_isOwn, e11, e12, e13, e14, e15, e16, e17, e18, e19, e20, e21, e22, e23, e24, e25, e26, e27, e28, e29, e30, e31, e32, e33]
  clear e11 e12 e13 e14 e15 e16 e17 e18 e19 e20 e21 e22 e23 e24 e25 e26 e27 e28 e29 e30 e31 e32 e33 h
  rcases hr with rfl | ⟨j, hj, rfl⟩
  · decide +kernel
  · revert j; decide +kernel
theorem zq_ask0 {tx : Nat → Nat} {att pp : Nat} {tok token word : Int32} (h : ¬ tok = 2) (h4 : ¬ token = 4) :
    zm_type tx pp tok att = zp_typeHere token word ∧ zm_stableKind tx pp tok att = zp_kindOfE token word ∧ zm_changeableKind tx pp tok att = zp_kindOfC token word ∧
    zm_isOwn tx pp tok att = zp_isFreeName token word ∧ zm_is tx pp tok att 33 = decide (zp_wordHere token word = 2) ∧ zm_is tx pp tok att 11 = decide (zp_wordHere token word = 0) ∧ zm_is tx pp tok att 12 = decide (zp_wordHere token word = 1) := by
  simp only [zm_type, zm_stableKind, zm_operation, zm_changeableKind, zm_isOwn, zp_typeHere, zp_kindOfE, zp_kindOfC, zp_isFreeName, zp_wordHere, if_neg h4, if_neg h, zq_is0 h]
  decide
