theorem zq_of {x : Int32} (h : ¬ x < 0) : ∃ n, n < 2147483648 ∧ x = nI n := by
  refine ⟨x.toNatClampNeg, ?_, ?_⟩
  · have := x.toInt_lt
    show x.toInt.toNat < _
    omega
  · apply Int32.toInt_inj.1
    have h1 : 0 ≤ x.toInt := by
      rw [Int32.lt_iff_toInt_lt] at h
      have e : (0 : Int32).toInt = 0 := rfl
      omega
    have h2 := x.toInt_lt
    rw [zq_ti]
    · show x.toInt = (x.toInt.toNat : Int)
      omega
    · show x.toInt.toNat < _
      omega
section
variable {dr nr : Nat} {dnum : Nat → Nat → Int32} {dnam : Nat → Nat → Int64} {nnum : Nat → Nat → Int32} {nnam : Nat → Nat → Int64} {aChg aTyp aPar aFst aTpl : Nat → Int32} {aTit aPnm : Nat → Int64} {aPty : Nat → Int32} {aKnd aPrn aPlc aNpl aSpl aVar aVal : Nat → Int32} {aNam aSec : Nat → Int64}
theorem zq_rn {w rows : Nat} {num : Nat → Nat → Int32} {row col : Int32} (hw : w ≤ 20) (hr : rows < 100000) : zr_num w rows num row col = if row < 0 then -1 else if nI rows ≤ row then -1 else if col < 0 then -1 else if nI w ≤ col then -1 else num row.toNatClampNeg col.toNatClampNeg := rfl
theorem zq_g_definition (hd : dr ≤ 64) (h : zq_D dr dnum dnam aChg aTyp aPar aFst aTpl aTit aPnm aPty) (d w : Int32) : zm_definition dr aChg aTyp aPar aFst aTpl d w = (zx_definition dr dnum d w, 0) := by
  rw [zm_definition, zx_definition, zm_isDefinition, zr_num]
  by_cases h0 : d < 0
  · rw [if_pos h0, if_pos h0, if_neg Bool.false_ne_true, ite_self]
  · obtain ⟨n, hn, rfl⟩ := zq_of h0
    rw [if_neg h0, if_neg h0]
    by_cases h1 : nI dr ≤ nI n
    · rw [if_pos h1, if_pos h1, if_neg Bool.false_ne_true, ite_self]
    · have hlt : n < dr := by
        by_cases g : n < dr
        · exact g
        · exact absurd ((zq_le (by omega) hn).2 (by omega)) h1
      obtain ⟨⟨q, q1, q2, q3, q4, q5, q6, q7, q8, q9⟩, k1, k3⟩ := h n hlt
      rw [if_neg h1, if_neg h1, if_pos rfl, zq_cl hn]
      by_cases hw : w < 0
      · have e : ∀ c : Nat, c < 5 → ¬ w = nI c := by
          intro c hc g; rw [g] at hw; exact absurd hw (zq_nn (by omega))
        rw [if_neg (show ¬ w = 0 from e 0 (by omega)), if_neg (show ¬ w = 1 from e 1 (by omega)), if_neg (show ¬ w = 2 from e 2 (by omega)), if_neg (show ¬ w = 3 from e 3 (by omega)), if_neg (show ¬ w = 4 from e 4 (by omega)), if_pos hw, ite_self]
      · obtain ⟨m, hm, rfl⟩ := zq_of hw
        rw [if_neg hw, zq_cl hm]
        by_cases h4 : m ≤ 4
        · rw [if_pos (show nI m ≤ 4 from (zq_le (n := 4) hm (by omega)).2 h4), if_neg (show ¬ nI 13 ≤ nI m from fun g => by have := (zq_le (by omega) hm).1 g; omega)]
          have : m = 0 ∨ m = 1 ∨ m = 2 ∨ m = 3 ∨ m = 4 := by omega
          rcases this with rfl | rfl | rfl | rfl | rfl
          · rw [q2]; rfl
          · rw [k1]; rfl
          · rw [q4, ← q5]; rfl
          · rw [k3]; rfl
          · rw [q6]; rfl
        · rw [if_neg (show ¬ nI m ≤ 4 from fun g => h4 ((zq_le (n := 4) hm (by omega)).1 g))]
          have e : ∀ c : Nat, c < 5 → ¬ nI m = nI c := by
            intro c hc g; have := (zq_inj hm (by omega)).1 g; omega
          rw [if_neg (show ¬ nI m = 0 from e 0 (by omega)), if_neg (show ¬ nI m = 1 from e 1 (by omega)), if_neg (show ¬ nI m = 2 from e 2 (by omega)), if_neg (show ¬ nI m = 3 from e 3 (by omega)), if_neg (show ¬ nI m = 4 from e 4 (by omega))]
theorem zq_mul8 (d : Nat) : (8 : Int32) * nI d = nI (8 * d) := by
  show Int32.ofNat 8 * Int32.ofNat d = Int32.ofNat (8 * d)
  exact (Int32.ofNat_mul 8 d).symm
theorem zq_g_title (hd : dr ≤ 64) (h : zq_D dr dnum dnam aChg aTyp aPar aFst aTpl aTit aPnm aPty) (d i : Int32) : zm_title dr aPar aTit aPnm d i = (zx_title dr dnam d i, 0) := by
  rw [zm_title, zx_title, zm_isDefinition, zr_nam]
  by_cases h0 : d < 0
  · rw [if_pos h0, if_pos h0, if_neg Bool.false_ne_true, ite_self, ite_self]
  · obtain ⟨n, hn, rfl⟩ := zq_of h0
    rw [if_neg h0, if_neg h0]
    by_cases h1 : nI dr ≤ nI n
    · rw [if_pos h1, if_pos h1, if_neg Bool.false_ne_true, ite_self, ite_self]
    · have hlt : n < dr := by
        by_cases g : n < dr
        · exact g
        · exact absurd ((zq_le (by omega) hn).2 (by omega)) h1
      obtain ⟨⟨q, q1, q2, q3, q4, q5, q6, q7, q8, q9⟩, k1, k3⟩ := h n hlt
      rw [if_neg h1, if_neg h1, if_pos rfl, zq_cl hn, q5]
      by_cases hi1 : i < -1
      · rw [if_pos hi1, if_pos hi1]
      · rw [if_neg hi1, if_neg hi1]
        by_cases hi : i < 0
        · have e : i = -1 := by
            rw [Int32.lt_iff_toInt_lt] at hi hi1
            have e1 : (-1 : Int32).toInt = -1 := rfl
            have e0 : (0 : Int32).toInt = 0 := rfl
            exact Int32.toInt_inj.1 (by omega)
          subst e
          rw [if_pos (show (-1 : Int32) < nI q from by rw [Int32.lt_iff_toInt_lt, zq_ti (by omega)]; have e1 : (-1 : Int32).toInt = -1 := rfl; omega), if_neg (show ¬ (0 : Int32) ≤ -1 by decide), if_pos (show (-1 : Int32) < 8 by decide), if_neg (show ¬ (-1 : Int32) + 1 < 0 by decide), if_neg (show ¬ nI 9 ≤ (-1 : Int32) + 1 by decide), ← q7]
          rfl
        · obtain ⟨m, hm, rfl⟩ := zq_of hi
          have e1 : nI m + 1 = nI (m + 1) := zq_add m 1
          rw [if_pos (show (0 : Int32) ≤ nI m from (zq_le (m := 0) (by omega) hm).2 (by omega)), zq_mul8, zq_add]
          by_cases hm8 : m < 8
          · rw [if_pos (show nI m < 8 from (zq_lt (n := 8) hm (by omega)).2 hm8), e1, if_neg (show ¬ nI (m + 1) < 0 from zq_nn (by omega)), if_neg (show ¬ nI 9 ≤ nI (m + 1) from fun g => by have := (zq_le (m := 9) (by omega) (by omega)).1 g; omega), zq_cl (show m + 1 < 2147483648 by omega), zq_cl (show 8 * n + m < 2147483648 by omega)]
            by_cases hmq : m < q
            · rw [if_pos ((zq_lt hm (by omega)).2 hmq), ← (q8 m hmq).1, Nat.add_comm]
            · rw [if_neg (fun g => hmq ((zq_lt hm (by omega)).1 g)), Nat.add_comm m 1, (q9 m (by omega) hm8).1]
          · rw [if_neg (show ¬ nI m < 8 from fun g => hm8 ((zq_lt (n := 8) hm (by omega)).1 g)), if_neg (fun g => by have := (zq_lt hm (by omega)).1 g; omega)]
theorem zq_g_parameter (hd : dr ≤ 64) (h : zq_D dr dnum dnam aChg aTyp aPar aFst aTpl aTit aPnm aPty) (d i : Int32) : zm_parameter dr aPar aPty d i = (zx_parameter dr dnum d i, 0) := by
  rw [zm_parameter, zx_parameter, zm_isDefinition, zr_num]
  by_cases h0 : d < 0
  · rw [if_pos h0, if_pos h0, if_neg Bool.false_ne_true, ite_self, ite_self]
  · obtain ⟨n, hn, rfl⟩ := zq_of h0
    rw [if_neg h0, if_neg h0]
    by_cases h1 : nI dr ≤ nI n
    · rw [if_pos h1, if_pos h1, if_neg Bool.false_ne_true, ite_self, ite_self]
    · have hlt : n < dr := by
        by_cases g : n < dr
        · exact g
        · exact absurd ((zq_le (by omega) hn).2 (by omega)) h1
      obtain ⟨⟨q, q1, q2, q3, q4, q5, q6, q7, q8, q9⟩, k1, k3⟩ := h n hlt
      rw [if_neg h1, if_neg h1, if_pos rfl, zq_cl hn, q5]
      by_cases hi : i < 0
      · rw [if_pos hi, if_pos hi]
      · obtain ⟨m, hm, rfl⟩ := zq_of hi
        have e1 : nI m + 5 = nI (m + 5) := zq_add m 5
        rw [if_neg hi, if_neg hi, zq_mul8, zq_add]
        by_cases hm8 : m < 8
        · rw [if_pos (show nI m < 8 from (zq_lt (n := 8) hm (by omega)).2 hm8), e1, if_neg (show ¬ nI (m + 5) < 0 from zq_nn (by omega)), if_neg (show ¬ nI 13 ≤ nI (m + 5) from fun g => by have := (zq_le (m := 13) (by omega) (by omega)).1 g; omega), zq_cl (show m + 5 < 2147483648 by omega), zq_cl (show 8 * n + m < 2147483648 by omega)]
          by_cases hmq : m < q
          · rw [if_neg (fun g => by have := (zq_le (by omega) hm).1 g; omega), ← (q8 m hmq).2, Nat.add_comm]
          · rw [if_pos ((zq_le (by omega) hm).2 (by omega)), Nat.add_comm m 5, (q9 m (by omega) hm8).2]
        · rw [if_neg (show ¬ nI m < 8 from fun g => hm8 ((zq_lt (n := 8) hm (by omega)).1 g)), if_pos ((zq_le (by omega) hm).2 (by omega))]
theorem zq_g_name (hr : nr ≤ 8192) (h : zq_N nr nnum nnam aKnd aPrn aPlc aNpl aSpl aVar aVal aNam aSec) (k i : Int32) : zm_name nr aNam aSec k i = (zx_name nr nnam k i, 0) := by
  rw [zm_name, zx_name, zr_nam]
  by_cases h0 : k < 0
  · rw [if_pos h0, if_pos h0]
  · obtain ⟨n, hn, rfl⟩ := zq_of h0
    rw [if_neg h0, if_neg h0]
    by_cases h1 : nI nr ≤ nI n
    · rw [if_pos h1, if_pos h1]
    · have hlt : n < nr := by
        by_cases g : n < nr
        · exact g
        · exact absurd ((zq_le (by omega) hn).2 (by omega)) h1
      obtain ⟨d0, d3, d4, d5, d6, d7, d8, e0, e1⟩ := h n hlt
      rw [if_neg h1, if_neg h1, zq_cl hn]
      by_cases hi : i < 0
      · rw [if_pos hi, if_pos hi]
      · obtain ⟨m, hm, rfl⟩ := zq_of hi
        rw [if_neg hi, if_neg hi, zq_cl hm]
        by_cases h2 : m ≤ 1
        · rw [if_pos (show nI m ≤ 1 from (zq_le (n := 1) hm (by omega)).2 h2), if_neg (show ¬ nI 2 ≤ nI m from fun g => by have := (zq_le (m := 2) (by omega) hm).1 g; omega)]
          have : m = 0 ∨ m = 1 := by omega
          rcases this with rfl | rfl
          · rw [e0]; rfl
          · rw [e1]; rfl
        · rw [if_neg (show ¬ nI m ≤ 1 from fun g => h2 ((zq_le (n := 1) hm (by omega)).1 g)), if_pos ((zq_le (m := 2) (by omega) hm).2 (by omega))]
theorem zq_g_number (hr : nr ≤ 8192) (h : zq_N nr nnum nnam aKnd aPrn aPlc aNpl aSpl aVar aVal aNam aSec) (k : Int32) : zm_number nr aVal k = (zx_number nr nnum k, 0) := by
  rw [zm_number, zx_number, zr_num, zr_num]
  by_cases h0 : k < 0
  · rw [if_pos h0, if_pos h0, if_neg (by decide)]
  · obtain ⟨n, hn, rfl⟩ := zq_of h0
    rw [if_neg h0, if_neg h0, if_neg h0]
    by_cases h1 : nI nr ≤ nI n
    · rw [if_pos h1, if_neg (show ¬ (-1 : Int32) = 0 by decide), if_neg (show ¬ nI n < nI nr from fun g => by have := (zq_lt hn (by omega)).1 g; have := (zq_le (by omega) hn).1 h1; omega)]
    · have hlt : n < nr := by
        by_cases g : n < nr
        · exact g
        · exact absurd ((zq_le (by omega) hn).2 (by omega)) h1
      obtain ⟨d0, d3, d4, d5, d6, d7, d8, e0, e1⟩ := h n hlt
      rw [if_neg h1, if_neg h1, if_pos ((zq_lt hn (by omega)).2 hlt), zq_cl hn, d8]
      show (if aKnd n = 0 then nnum n 8 else 0, (0 : Int32)) = (if nnum n 0 = 0 then nnum n 8 else 0, 0)
      rw [d0]
theorem zq_wil {aPrn : Nat → Int32} {k : Nat} (once : Bool) : ∀ (z n j : Nat) (cnt : Nat), z ≤ n → (∀ i, j ≤ i → i < j + z → nI k ≤ nnum i 4 ∧ nnum i 4 = aPrn i) → (z < n → aPrn (j + z) < nI k) → (zl_zm_wil aPrn k once n (nI cnt) j).1 = nI (cnt + if once = true then zq_cn nnum k j z else z) := by
  intro z
  induction z with
  | zero =>
    intro n j cnt hz hi hend
    cases n with
    | zero => cases once <;> rfl
    | succ n =>
      rw [zl_zm_wil, if_pos (by simpa using hend (by omega))]
      cases once <;> rfl
  | succ z ih =>
    intro n j cnt hz hi hend
    obtain ⟨n, rfl⟩ : ∃ m, n = m + 1 := ⟨n - 1, by omega⟩
    obtain ⟨a1, a2⟩ := hi j (by omega) (by omega)
    have hge : ¬ aPrn j < nI k := by
      rw [← a2, Int32.not_lt]; exact a1
    have h1 := fun c => ih n (j + 1) c (by omega) (fun i x y => hi i (by omega) (by omega)) (fun g => by rw [show j + 1 + z = j + (z + 1) from by omega]; exact hend (by omega))
    rw [zl_zm_wil, if_neg hge]
    cases once
    · rw [if_neg Bool.false_ne_true, show nI cnt + 1 = nI (cnt + 1) from zq_add cnt 1, h1]
      simp only [Bool.false_eq_true, if_false]
      congr 1; omega
    · rw [if_pos rfl, zq_cn, a2]
      by_cases e : aPrn j = nI k
      · rw [if_pos e, if_pos e, show nI cnt + 1 = nI (cnt + 1) from zq_add cnt 1, h1]
        simp only [if_true]
        congr 1; omega
      · rw [if_neg e, if_neg e, show nI cnt + 0 = nI cnt from zq_add cnt 0, h1]
        simp only [if_true]
        congr 1; omega
theorem zq_g_node (hr : nr ≤ 8192) (h : zq_N nr nnum nnam aKnd aPrn aPlc aNpl aSpl aVar aVal aNam aSec) (hZ : zq_Z nr nnum (-1) []) (k w : Int32) : zm_node nr aKnd aPrn aPlc aNpl aSpl aVar k w = (zx_node nr nnum k w, 0) := by
  rw [zm_node, zx_node, zr_num]
  by_cases h0 : k < 0
  · rw [if_pos h0, if_pos h0, ite_self]
  · obtain ⟨n, hn, rfl⟩ := zq_of h0
    rw [if_neg h0, if_neg h0]
    by_cases h1 : nI nr ≤ nI n
    · rw [if_pos h1, ite_self, if_neg (fun g => by have := (zq_lt hn (by omega)).1 g; have := (zq_le (by omega) hn).1 h1; omega)]
    · have hlt : n < nr := by
        by_cases g : n < nr
        · exact g
        · exact absurd ((zq_le (by omega) hn).2 (by omega)) h1
      obtain ⟨d0, d3, d4, d5, d6, d7, d8, e0, e1⟩ := h n hlt
      obtain ⟨z, z1, z2, z3, z4, z5⟩ := hZ.2.2 n hlt
      obtain ⟨-, g2, g3, g4⟩ : ¬ n ∈ [] ∧ nnum n 2 = nI z ∧ (n + z < nr → nnum (n + z) 4 < nI n) ∧ (n + z = nr → (-1 : Int32) < nI n) := by
        rcases z5 with ⟨g, -⟩ | g
        · cases g
        · exact g
      have hwi : ∀ once : Bool, zm_within nr aPrn n once = nI (if once = true then zq_cn nnum n (n + 1) (z - 1) else z - 1) := by
        intro once
        have := zq_wil (nnum := nnum) (aPrn := aPrn) (k := n) once (z - 1) (nr - (n + 1)) (n + 1) 0 (by omega) (fun i a b => ⟨z4 i (by omega) (by omega), (h i (by omega)).2.2.1⟩) (fun g => by
          rw [show n + 1 + (z - 1) = n + z from by omega, ← (h (n + z) (by omega)).2.2.1]
          exact g3 (by omega))
        rw [zm_within]
        rw [Nat.zero_add] at this
        exact this
      rw [if_neg h1, if_pos ((zq_lt hn (by omega)).2 hlt), zq_cl hn]
      by_cases hw : w < 0
      · have e : ∀ c : Nat, c < 8 → ¬ w = nI c := by
          intro c hc g; rw [g] at hw; exact absurd hw (zq_nn (by omega))
        rw [if_neg (show ¬ w = 0 from e 0 (by omega)), if_neg (show ¬ w = 1 from e 1 (by omega)), if_neg (show ¬ w = 2 from e 2 (by omega)), if_neg (show ¬ w = 3 from e 3 (by omega)), if_neg (show ¬ w = 4 from e 4 (by omega)), if_neg (show ¬ w = 5 from e 5 (by omega)), if_neg (show ¬ w = 6 from e 6 (by omega)), if_neg (show ¬ w = 7 from e 7 (by omega)), if_pos hw, ite_self]
      · obtain ⟨m, hm, rfl⟩ := zq_of hw
        rw [if_neg hw, zq_cl hm]
        by_cases h4 : m ≤ 7
        · rw [if_pos (show nI m ≤ 7 from (zq_le (n := 7) hm (by omega)).2 h4), if_neg (show ¬ nI 10 ≤ nI m from fun g => by have := (zq_le (by omega) hm).1 g; omega)]
          have : m = 0 ∨ m = 1 ∨ m = 2 ∨ m = 3 ∨ m = 4 ∨ m = 5 ∨ m = 6 ∨ m = 7 := by omega
          rcases this with rfl | rfl | rfl | rfl | rfl | rfl | rfl | rfl
          · rw [d0]; rfl
          · rw [z3, hwi true]; rfl
          · rw [g2, hwi false, show z = 1 + (z - 1) from by omega, ← zq_add, Nat.add_sub_cancel_left]; rfl
          · rw [d3]; rfl
          · rw [d4]; rfl
          · rw [d5]; rfl
          · rw [d6]; rfl
          · rw [d7]; rfl
        · rw [if_neg (show ¬ nI m ≤ 7 from fun g => h4 ((zq_le (n := 7) hm (by omega)).1 g))]
          have e : ∀ c : Nat, c < 8 → ¬ nI m = nI c := by
            intro c hc g; have := (zq_inj hm (by omega)).1 g; omega
          rw [if_neg (show ¬ nI m = 0 from e 0 (by omega)), if_neg (show ¬ nI m = 1 from e 1 (by omega)), if_neg (show ¬ nI m = 2 from e 2 (by omega)), if_neg (show ¬ nI m = 3 from e 3 (by omega)), if_neg (show ¬ nI m = 4 from e 4 (by omega)), if_neg (show ¬ nI m = 5 from e 5 (by omega)), if_neg (show ¬ nI m = 6 from e 6 (by omega)), if_neg (show ¬ nI m = 7 from e 7 (by omega))]
end
theorem zq_tokp (tx : Nat → Nat) (len next : Nat) (nm : Int64) (wd vl : Int32) : next ≤ (zt_tok tx len next nm wd vl).2.2.1 ∧ (¬ (zt_tok tx len next nm wd vl).1 = 0 → (zt_tok tx len next nm wd vl).2.2.1 < len) ∧ (¬ (zt_tok tx len next nm wd vl).1 = 0 → (zt_tok tx len next nm wd vl).2.2.1 < (zt_tok tx len next nm wd vl).2.1) := by
  have hs : next ≤ zt_skip tx len next := (zt_skipF_le tx len (len - next) next).1
  rw [zt_tok]
  by_cases h : zt_at tx len (zt_skip tx len next) = -1
  · rw [if_pos h]
    exact ⟨hs, fun g => absurd rfl g, fun g => absurd rfl g⟩
  · rw [if_neg h]
    have hlt : zt_skip tx len next < len := by
      by_cases g : zt_skip tx len next < len
      · exact g
      · exact absurd (if_neg g) h
    by_cases hj : zt_joined (zt_at tx len (zt_skip tx len next)) = true
    · rw [if_pos hj]
      refine ⟨hs, fun _ => hlt, fun _ => ?_⟩
      show zt_skip tx len next < (zt_sj tx len (zt_skip tx len next) (zt_at tx len (zt_skip tx len next)) nm wd vl).2.1
      have hr : zt_skip tx len next < zt_run tx len (zt_skip tx len next) := by
        show zt_skip tx len next < zt_runF tx len (len - zt_skip tx len next) (zt_skip tx len next)
        obtain ⟨n, hn⟩ : ∃ n, len - zt_skip tx len next = n + 1 := ⟨len - zt_skip tx len next - 1, by omega⟩
        rw [hn, zt_runF, if_pos hj]
        have := zt_runF_le tx len n (zt_skip tx len next + 1)
        omega
      rw [zt_sj]
      split <;> exact hr
    · rw [if_neg hj]
      exact ⟨hs, fun _ => hlt, fun _ => Nat.lt_succ_self _⟩
def zq_stop (c : zp_L) : Prop := ¬ c.2.2.2.2.2.2.2.2.2.2.2.2.2.2.1 = 0 ∨ c.2.1 = 0
theorem zq_stop_run {tx : Nat → Nat} {len : Nat} {c : zp_L} (h : zq_stop c) (n : Nat) : zp_run tx len n c = c := by
  obtain ⟨next, token, place, name, word, value, dr, dc, dnum, dnam, nr, nc, nnum, nnam, fault, stage, latest, op, wa⟩ := c
  exact zq_stop0 _ _ _ _ _ _ _ _ _ _ _ _ _ _ _ _ _ _ _ _ _ h n
theorem zq_stops (tx : Nat → Nat) (len : Nat) : ∀ (n : Nat) (next : Nat) (token : Int32) (place : Nat) (name : Int64) (word value : Int32) (dr dc : Nat) (dnum : Nat → Nat → Int32) (dnam : Nat → Nat → Int64) (nr nc : Nat) (nnum : Nat → Nat → Int32) (nnam : Nat → Nat → Int64) (fault stage latest op wa : Int32), (¬ token = 0 → place < len ∧ place < next) → len - place ≤ n →
    zq_stop (zp_run tx len n (next, token, place, name, word, value, dr, dc, dnum, dnam, nr, nc, nnum, nnam, fault, stage, latest, op, wa)) := by
  intro n
  induction n with
  | zero =>
    intro next token place name word value dr dc dnum dnam nr nc nnum nnam fault stage latest op wa h hn
    by_cases ht : token = 0
    · exact Or.inr ht
    · have := h ht; omega
  | succ n ih =>
    intro next token place name word value dr dc dnum dnam nr nc nnum nnam fault stage latest op wa h hn
    by_cases hf : fault = 0
    · by_cases ht : token = 0
      · rw [zq_stop_run (Or.inr ht)]; exact Or.inr ht
      · rw [zp_run, if_pos hf, if_neg ht]
        have hp := h ht
        have tp := zq_tokp tx len next name word value
        rw [zp_iter]
        by_cases h1 : token = 1
        · rw [if_pos h1, zq_stop_run (Or.inl (show ¬ (1 : Int32) = 0 by decide))]; exact Or.inl (show ¬ (1 : Int32) = 0 by decide)
        · rw [if_neg h1]
          have go : ∀ (dr dc : Nat) (dnum : Nat → Nat → Int32) (dnam : Nat → Nat → Int64) (nr nc : Nat) (nnum : Nat → Nat → Int32) (nnam : Nat → Nat → Int64) (stage latest op wa : Int32), zq_stop (zp_run tx len n ((zt_tok tx len next name word value).2.1, (zt_tok tx len next name word value).1, (zt_tok tx len next name word value).2.2.1, (zt_tok tx len next name word value).2.2.2.1, (zt_tok tx len next name word value).2.2.2.2.1, (zt_tok tx len next name word value).2.2.2.2.2, dr, dc, dnum, dnam, nr, nc, nnum, nnam, fault, stage, latest, op, wa)) := by
            intro dr dc dnum dnam nr nc nnum nnam stage latest op wa
            refine ih _ _ _ _ _ _ _ _ _ _ _ _ _ _ _ _ _ _ _ (fun g => ⟨tp.2.1 g, tp.2.2 g⟩) ?_
            have := tp.1
            omega
          have no : ∀ (next : Nat) (token : Int32) (place : Nat) (name : Int64) (word value : Int32) (dr dc : Nat) (dnum : Nat → Nat → Int32) (dnam : Nat → Nat → Int64) (nr nc : Nat) (nnum : Nat → Nat → Int32) (nnam : Nat → Nat → Int64) (stage latest op wa : Int32), zq_stop (zp_run tx len n (next, token, place, name, word, value, dr, dc, dnum, dnam, nr, nc, nnum, nnam, 2, stage, latest, op, wa)) := by
            intro next token place name word value dr dc dnum dnam nr nc nnum nnam stage latest op wa
            rw [zq_stop_run (Or.inl (show ¬ (2 : Int32) = 0 by decide))]; exact Or.inl (show ¬ (2 : Int32) = 0 by decide)
          by_cases h12 : stage = 12
          · rw [if_pos h12]
            by_cases hb : (zp_takesStep token place name word value dr dnum nr nc nnum nnam stage latest op).1 = true
            · rw [if_pos hb]; exact go _ _ _ _ _ _ _ _ _ _ _ _
            · rw [if_neg hb]; exact no _ _ _ _ _ _ _ _ _ _ _ _ _ _ _ _ _ _
          · rw [if_neg h12]
            by_cases hb : (zp_takesOutside token place name word value dr dc dnum dnam nr nc nnum nnam stage latest op wa).1 = true
            · rw [if_pos hb]; exact go _ _ _ _ _ _ _ _ _ _ _ _
            · rw [if_neg hb]; exact no _ _ _ _ _ _ _ _ _ _ _ _ _ _ _ _ _ _
    · rw [zq_stop_run (Or.inl hf)]; exact Or.inl hf
theorem zq_FIN {tx : Nat → Nat} {len : Nat} {c0 c : zp_L} (h0 : zq_stop (zp_run tx len len c0)) (hg : zq_go tx len c0 c) (hc : zq_stop c) : zp_run tx len len c0 = c := by
  obtain ⟨n, hn⟩ := hg
  have h1 : zp_run tx len (n + len) c0 = c := by rw [zq_run_add, hn, zq_stop_run hc]
  have h2 : zp_run tx len (len + n) c0 = zp_run tx len len c0 := by rw [zq_run_add, zq_stop_run h0]
  rw [← h2, Nat.add_comm, h1]
def zq_c0 (tx : Nat → Nat) (len : Nat) (name : Int64) (word value : Int32) (dc : Nat) (dnum : Nat → Nat → Int32) (dnam : Nat → Nat → Int64) (nc : Nat) (nnum : Nat → Nat → Int32) (nnam : Nat → Nat → Int64) (wa : Int32) : zp_L :=
  ((zt_tok tx len 0 name word value).2.1, (zt_tok tx len 0 name word value).1, (zt_tok tx len 0 name word value).2.2.1, (zt_tok tx len 0 name word value).2.2.2.1, (zt_tok tx len 0 name word value).2.2.2.2.1, (zt_tok tx len 0 name word value).2.2.2.2.2, 0, dc, dnum, dnam, 0, nc, nnum, nnam, 0, 0, -1, -1, wa)
theorem zq_FIN0 (tx : Nat → Nat) (len : Nat) (name : Int64) (word value : Int32) (dc : Nat) (dnum : Nat → Nat → Int32) (dnam : Nat → Nat → Int64) (nc : Nat) (nnum : Nat → Nat → Int32) (nnam : Nat → Nat → Int64) (wa : Int32) : zp_FIN tx len name word value dc dnum dnam nc nnum nnam wa = zp_run tx len len (zq_c0 tx len name word value dc dnum dnam nc nnum nnam wa) := rfl
theorem zq_stop_c0 (tx : Nat → Nat) (len : Nat) (name : Int64) (word value : Int32) (dc : Nat) (dnum : Nat → Nat → Int32) (dnam : Nat → Nat → Int64) (nc : Nat) (nnum : Nat → Nat → Int32) (nnam : Nat → Nat → Int64) (wa : Int32) : zq_stop (zp_run tx len len (zq_c0 tx len name word value dc dnum dnam nc nnum nnam wa)) := by
  have tp := zq_tokp tx len 0 name word value
  exact zq_stops tx len len _ _ _ _ _ _ _ _ _ _ _ _ _ _ _ _ _ _ _ (fun g => ⟨tp.2.1 g, tp.2.2 g⟩) (by omega)
theorem zq_finQ {tx : Nat → Nat} {len : Nat} {c0 : zp_L} (h0 : zq_stop (zp_run tx len len c0)) {f : Int32} {p : Nat} (h : zq_end tx len c0 f p) (fp : Int32) :
    zp_fin (zp_run tx len len c0).2.2.1 (zp_run tx len len c0).2.2.2.2.2.2.1 (zp_run tx len len c0).2.2.2.2.2.2.2.2.2.2.1 (zp_run tx len len c0).2.2.2.2.2.2.2.2.2.2.2.2.2.2.1 fp (zp_run tx len len c0).2.2.2.2.2.2.2.2.2.2.2.2.2.2.2.1 = (f, nI p, 0, 0) := by
  obtain ⟨a1, a2, a3, a4, a5, a6, a7, a8, a9, b1, b2, b3, b4, b5, b6, b7, b8, b9, g, k⟩ := h
  rcases k with ⟨k1, k2⟩ | ⟨k1, k2, k3, k4⟩
  · have hf : ¬ b5 = 0 := by rw [k1]; rcases k2 with rfl | rfl <;> decide
    rw [zq_FIN h0 g (Or.inl hf)]
    show zp_fin p a6 b1 b5 fp b6 = _
    rw [zp_fin, if_neg hf, if_neg hf, k1]
  · rw [zq_FIN h0 g (Or.inr k2)]
    show zp_fin p a6 b1 b5 fp b6 = _
    rw [zp_fin, if_pos k1, if_neg k3, k4]
theorem zq_finT {tx : Nat → Nat} {len : Nat} {c0 : zp_L} (h0 : zq_stop (zp_run tx len len c0)) {next place : Nat} {name : Int64} {word value : Int32} {dr dc : Nat} {dnum : Nat → Nat → Int32} {dnam : Nat → Nat → Int64} {nr nc : Nat} {nnum : Nat → Nat → Int32} {nnam : Nat → Nat → Int64} {latest op wa : Int32}
    (h : zq_go tx len c0 (next, 0, place, name, word, value, dr, dc, dnum, dnam, nr, nc, nnum, nnam, 0, 0, latest, op, wa)) (fp : Int32) :
    zp_run tx len len c0 = (next, 0, place, name, word, value, dr, dc, dnum, dnam, nr, nc, nnum, nnam, 0, 0, latest, op, wa) ∧ zp_fin place dr nr 0 fp 0 = (0, fp, dr, nr) :=
  ⟨zq_FIN h0 h (Or.inr rfl), rfl⟩
section
variable {tx : Nat → Nat} {size : Nat}
variable {c0 : zp_L} {dnum : Nat → Nat → Int32} {dnam : Nat → Nat → Int64} {nr : Nat} {nnum : Nat → Nat → Int32} {nnam : Nat → Nat → Int64} {pp : Nat} {flt plc tok : Int32} {att : Nat} {spl : Int64} {val : Int32} {d q : Nat} {aChg aPar aTpl aTyp aFst : Nat → Int32} {aTit aPnm : Nat → Int64} {aPty : Nat → Int32}
theorem zq_L0 (hb : ∀ k, k < size → tx k < 256) {latest plc0 tokx : Int32} {ppx : Nat} {splx : Int64} {valx : Int32} (hd : d ≤ 64) (h : zq_CO tx size c0 0 d latest dnum dnam nr nnum nnam ppx) (hu : (flt, plc, pp, tok, att, spl, val) = zm_next tx size 0 plc0 ppx tokx splx valx) :
    (flt = 1 ∧ zq_Q tx size c0 flt plc) ∨
    (flt = 0 ∧ plc = plc0 ∧ tok = 4 ∧ ∃ (next : Nat) (name : Int64) (word value : Int32) (dc nc : Nat) (wa : Int32), zq_go tx size c0 (next, 0, size, name, word, value, d, dc, dnum, dnam, nr, nc, nnum, nnam, 0, 0, latest, -1, wa)) ∨
    (flt = 0 ∧ plc = plc0 ∧ ¬ tok = 4 ∧ ppx < pp ∧ pp ≤ size ∧ att ≤ size ∧
      ((¬ (tok = 0 ∧ d < 64) ∧ zq_end tx size c0 2 att) ∨
       (tok = 0 ∧ d < 64 ∧ zq_CO tx size c0 1 (d + 1) (nI d) (zr_up (zr_new dnum d (-1)) d 2 0) (zr_new dnam d 0) nr nnum nnam pp))) := by
  obtain ⟨q1, q2, q3⟩ := zq_Cn hb h (by decide) hu
  rcases q3 with ⟨rfl, hq⟩ | ⟨rfl, rfl, rfl, rfl, he, ow, ty, i1, i2, next, name, word, value, dc, nc, wa, hg⟩ | ⟨rfl, rfl, h41, hlt, token, name, word, value, dc, nc, wa, t3, t2, ow, sp, ty, i1, i2, hto⟩
  · exact Or.inl ⟨rfl, hq⟩
  · exact Or.inr (Or.inl ⟨rfl, rfl, rfl, next, name, word, value, dc, nc, wa, hg⟩)
  · refine Or.inr (Or.inr ⟨rfl, rfl, h41, hlt, q1, q2, ?_⟩)
    by_cases hd2 : d < 64
    · have h64 : ¬ (64 : Int32) ≤ nI d := fun g => by have := (zq_le (m := 64) (by omega) (by omega)).1 g; omega
      by_cases g : token = 2
      · have e : zr_set 13 (d + 1) (zr_new dnum d (-1)) (nI d) 2 0 = zr_up (zr_new dnum d (-1)) d 2 0 := zq_s13 (c := 2) (by omega) (by omega) (by omega) _ _
        have := hto true (d + 1) (zr_cap d dc) (zr_up (zr_new dnum d (-1)) d 2 0) (zr_new dnam d 0) nr nc nnum nnam 1 (nI d) (by simp [zp_takesOutside, zp_beginsDefinition, zp_passes, g, h64, e])
        exact Or.inr ⟨t2.1 g, hd2, this.1 rfl⟩
      · have := hto false d dc dnum dnam nr nc nnum nnam 0 latest (by simp [zp_takesOutside, zp_beginsDefinition, zp_passes, g, h64])
        exact Or.inl ⟨fun k => g (t2.2 k.1), this.2 rfl⟩
    · have h64 : (64 : Int32) ≤ nI d := (zq_le (m := 64) (by omega) (by omega)).2 (by omega)
      have := hto false d dc dnum dnam nr nc nnum nnam 0 latest (by simp [zp_takesOutside, zp_beginsDefinition, h64])
      exact Or.inl ⟨fun k => hd2 k.2, this.2 rfl⟩
theorem zq_H0 {e : Int32} (he : e = 0 ∨ e = 1) : zq_Dp (zr_up (zr_up (zr_up (zr_new dnum d (-1)) d 2 0) d 0 e) d 4 (nI att)) (zr_up (zr_new dnam d 0) d 0 spl) (upd aChg d e) (upd aPar d 0) (upd aTpl d (nI att)) (vp_updL aTit d spl) aPnm aPty d 0 := by
  refine ⟨by omega, ?_, ?_, ?_, zq_u_eq, ?_, ?_, fun i hi => by omega, fun i _ hi => ⟨?_, ?_⟩⟩
  · rw [zq_up_nc (by decide), zq_up_eq, zq_u_eq]
  · rw [zq_u_eq]; exact he
  · rw [zq_up_nc (by decide), zq_up_nc (by decide), zq_up_eq]; rfl
  · rw [zq_up_eq, zq_u_eq]
  · rw [zq_up_eq, zq_ul_eq]
  · rw [zq_up_nc (by omega), zq_new_eq]
  · rw [zq_up_nc (by omega), zq_up_nc (by omega), zq_up_nc (by omega), zq_new_eq]
theorem zq_H0D {e : Int32} (h : zq_D d dnum dnam aChg aTyp aPar aFst aTpl aTit aPnm aPty) : zq_D d (zr_up (zr_up (zr_up (zr_new dnum d (-1)) d 2 0) d 0 e) d 4 (nI att)) (zr_up (zr_new dnam d 0) d 0 spl) (upd aChg d e) aTyp (upd aPar d 0) aFst (upd aTpl d (nI att)) (vp_updL aTit d spl) aPnm aPty := by
  refine zq_D_c h ?_ (fun j _ => ⟨rfl, rfl⟩)
  intro k hk
  have hne : ¬ k = d := by omega
  refine ⟨fun c => ?_, fun c => ?_, zq_u_ne hne, rfl, zq_u_ne hne, rfl, zq_u_ne hne, zq_ul_ne hne⟩
  · rw [zq_up_ne hne, zq_up_ne hne, zq_up_ne hne, zq_new_ne hne]
  · rw [zq_up_ne hne, zq_new_ne hne]
theorem zq_Hq {nm : Int64} {t : Int32} (hq : q < 8) (h : zq_Dp dnum dnam aChg aPar aTpl aTit aPnm aPty d q) : zq_Dp (zr_up (zr_up dnum d (5 + q) t) d 2 (nI (q + 1))) (zr_up dnam d (1 + q) nm) aChg (upd aPar d (nI (q + 1))) aTpl aTit (vp_updL aPnm (8 * d + q) nm) (upd aPty (8 * d + q) t) d (q + 1) := by
  obtain ⟨x1, x2, x3, x4, x5, x6, x7, x8, x9⟩ := h
  refine ⟨by omega, ?_, x3, zq_up_eq, zq_u_eq, ?_, ?_, fun i hi => ?_, fun i h1 h2 => ⟨?_, ?_⟩⟩
  · rw [zq_up_nc (by omega), zq_up_nc (by omega), x2]
  · rw [zq_up_nc (by omega), zq_up_nc (by omega), x6]
  · rw [zq_up_nc (by omega), x7]
  · by_cases e : i = q
    · subst e
      rw [zq_up_eq, zq_up_nc (by omega), zq_up_eq, zq_ul_eq, zq_u_eq]; exact ⟨rfl, rfl⟩
    · rw [zq_up_nc (by omega), zq_up_nc (by omega), zq_up_nc (by omega), zq_ul_ne (by omega), zq_u_ne (by omega)]
      exact x8 i (by omega)
  · rw [zq_up_nc (by omega)]; exact (x9 i (by omega) h2).1
  · rw [zq_up_nc (by omega), zq_up_nc (by omega)]; exact (x9 i (by omega) h2).2
theorem zq_HqD {nm : Int64} {t x : Int32} (hq : q < 8) (h : zq_D d dnum dnam aChg aTyp aPar aFst aTpl aTit aPnm aPty) : zq_D d (zr_up (zr_up dnum d (5 + q) t) d 2 (nI (q + 1))) (zr_up dnam d (1 + q) nm) aChg aTyp (upd aPar d x) aFst aTpl aTit (vp_updL aPnm (8 * d + q) nm) (upd aPty (8 * d + q) t) := by
  refine zq_D_c h ?_ (fun j hj => ⟨zq_ul_ne (by omega), zq_u_ne (by omega)⟩)
  intro k hk
  have hne : ¬ k = d := by omega
  refine ⟨fun c => ?_, fun c => ?_, rfl, rfl, zq_u_ne hne, rfl, rfl, rfl⟩
  · rw [zq_up_ne hne, zq_up_ne hne]
  · rw [zq_up_ne hne]
theorem zq_HD {t : Int32} (hp : zq_Dp dnum dnam aChg aPar aTpl aTit aPnm aPty d q) (h : zq_D d dnum dnam aChg aTyp aPar aFst aTpl aTit aPnm aPty) : zq_D (d + 1) (zr_up (zr_up dnum d 1 t) d 3 (nI nr)) dnam aChg (upd aTyp d t) aPar (upd aFst d (nI nr)) aTpl aTit aPnm aPty := by
  intro k hk
  by_cases e : k = d
  · subst e
    obtain ⟨x1, x2, x3, x4, x5, x6, x7, x8, x9⟩ := hp
    refine ⟨⟨q, x1, ?_, x3, ?_, x5, ?_, x7, fun i hi => ?_, fun i h1 h2 => ?_⟩, ?_, ?_⟩
    · rw [zq_up_nc (by decide), zq_up_nc (by decide), x2]
    · rw [zq_up_nc (by decide), zq_up_nc (by decide), x4]
    · rw [zq_up_nc (by decide), zq_up_nc (by decide), x6]
    · rw [zq_up_nc (by omega), zq_up_nc (by omega)]; exact x8 i hi
    · rw [zq_up_nc (by omega), zq_up_nc (by omega)]; exact x9 i h1 h2
    · rw [zq_up_nc (by decide), zq_up_eq, zq_u_eq]
    · rw [zq_up_eq, zq_u_eq]
  · have := zq_D_c (dnum' := zr_up (zr_up dnum d 1 t) d 3 (nI nr)) (dnam' := dnam) (aChg' := aChg) (aTyp' := upd aTyp d t) (aPar' := aPar) (aFst' := upd aFst d (nI nr)) (aTpl' := aTpl) (aTit' := aTit) (aPnm' := aPnm) (aPty' := aPty) h (fun k hk => by
      have hne : ¬ k = d := by omega
      exact ⟨fun c => by rw [zq_up_ne hne, zq_up_ne hne], fun c => rfl, rfl, zq_u_ne hne, rfl, zq_u_ne hne, rfl, rfl⟩) (fun j _ => ⟨rfl, rfl⟩)
    exact this k (by omega)
end
def zq_S (dr nr : Nat) (dnum : Nat → Nat → Int32) (dnam : Nat → Nat → Int64) (nnum : Nat → Nat → Int32) (nnam : Nat → Nat → Int64) (aChg aTyp aPar aFst aTpl : Nat → Int32) (aTit aPnm : Nat → Int64) (aPty aKnd aPrn aPlc aNpl aSpl aVar aVal : Nat → Int32) (aNam aSec : Nat → Int64) : Prop :=
  dr ≤ 64 ∧ nr ≤ 8192 ∧ zq_D dr dnum dnam aChg aTyp aPar aFst aTpl aTit aPnm aPty ∧ zq_N nr nnum nnam aKnd aPrn aPlc aNpl aSpl aVar aVal aNam aSec ∧ zq_Z nr nnum (-1) []
theorem zq_Z0 (nnum : Nat → Nat → Int32) : zq_Z 0 nnum (-1) [] := ⟨fun k h => (by cases h), (by decide), fun k h => (by omega)⟩
theorem zq_S0 {dnum : Nat → Nat → Int32} {dnam : Nat → Nat → Int64} {nnum : Nat → Nat → Int32} {nnam : Nat → Nat → Int64} {aChg aTyp aPar aFst aTpl : Nat → Int32} {aTit aPnm : Nat → Int64} {aPty aKnd aPrn aPlc aNpl aSpl aVar aVal : Nat → Int32} {aNam aSec : Nat → Int64} : zq_S 0 0 dnum dnam nnum nnam aChg aTyp aPar aFst aTpl aTit aPnm aPty aKnd aPrn aPlc aNpl aSpl aVar aVal aNam aSec :=
  ⟨by omega, by omega, fun d h => by omega, fun k h => by omega, zq_Z0 nnum⟩
def zq_RD (tx : Nat → Nat) (size : Nat) (c0 : zp_L) (flt plc : Int32) (defs nodes : Nat) (aChg aTyp aPar aFst aTpl : Nat → Int32) (aTit aPnm : Nat → Int64) (aPty aKnd aPrn aPlc aNpl aSpl aVar aVal : Nat → Int32) (aNam aSec : Nat → Int64) : Prop :=
  (zq_Q tx size c0 flt plc ∧ defs = 0 ∧ nodes = 0) ∨
  (flt = 0 ∧ plc = -1 ∧ ∃ (next : Nat) (name : Int64) (word value : Int32) (dc nc : Nat) (dnum : Nat → Nat → Int32) (dnam : Nat → Nat → Int64) (nnum : Nat → Nat → Int32) (nnam : Nat → Nat → Int64) (latest wa : Int32), zq_go tx size c0 (next, 0, size, name, word, value, defs, dc, dnum, dnam, nodes, nc, nnum, nnam, 0, 0, latest, -1, wa) ∧ zq_S defs nodes dnum dnam nnum nnam aChg aTyp aPar aFst aTpl aTit aPnm aPty aKnd aPrn aPlc aNpl aSpl aVar aVal aNam aSec)
theorem zq_read {tx : Nat → Nat} {size : Nat} {c0 : zp_L} {flt plc : Int32} {defs nodes : Nat} {aChg aTyp aPar aFst aTpl : Nat → Int32} {aTit aPnm : Nat → Int64} {aPty aKnd aPrn aPlc aNpl aSpl aVar aVal : Nat → Int32} {aNam aSec : Nat → Int64} (h0 : zq_stop (zp_run tx size size c0)) (h : zq_RD tx size c0 flt plc defs nodes aChg aTyp aPar aFst aTpl aTit aPnm aPty aKnd aPrn aPlc aNpl aSpl aVar aVal aNam aSec) {F : zp_L} (hF : zp_run tx size size c0 = F) {fp : Int32} (hfp : fp = -1) {Z : Int32 × Int32 × Nat × Nat} (hZ : zp_fin F.2.2.1 F.2.2.2.2.2.2.1 F.2.2.2.2.2.2.2.2.2.2.1 F.2.2.2.2.2.2.2.2.2.2.2.2.2.2.1 fp F.2.2.2.2.2.2.2.2.2.2.2.2.2.2.2.1 = Z) :
    Z.1 = flt ∧ Z.2.1 = plc ∧ Z.2.2.1 = defs ∧ Z.2.2.2 = nodes ∧ zq_S Z.2.2.1 Z.2.2.2 F.2.2.2.2.2.2.2.2.1 F.2.2.2.2.2.2.2.2.2.1 F.2.2.2.2.2.2.2.2.2.2.2.2.1 F.2.2.2.2.2.2.2.2.2.2.2.2.2.1 aChg aTyp aPar aFst aTpl aTit aPnm aPty aKnd aPrn aPlc aNpl aSpl aVar aVal aNam aSec := by
  rcases h with ⟨⟨p, hp, he⟩, hd, hn⟩ | ⟨hf, hpl, next, name, word, value, dc, nc, dnum, dnam, nnum, nnam, latest, wa, hg, hS⟩
  · have := zq_finQ h0 he fp
    rw [hF, hZ] at this
    subst this
    subst hd; subst hn
    exact ⟨rfl, hp.symm, rfl, rfl, zq_S0⟩
  · obtain ⟨e1, e2⟩ := zq_finT h0 hg fp
    rw [hF] at e1
    subst e1
    have hZ : zp_fin size defs nodes 0 fp 0 = Z := hZ
    rw [e2] at hZ
    subst hZ
    subst hf; subst hpl
    exact ⟨rfl, hfp, rfl, rfl, hS⟩
