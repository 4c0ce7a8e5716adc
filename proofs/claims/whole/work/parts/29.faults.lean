/-! THE REFERENCE: faults stay -/
def zm_G (f g : Int32) : Prop := (0 < f → 0 < g) ∧ (0 ≤ f → 0 ≤ g)
theorem zm_G.rf (f : Int32) : zm_G f f := ⟨id, id⟩
theorem zm_G.tr {f g h : Int32} (a : zm_G f g) (b : zm_G g h) : zm_G f h := ⟨fun q => b.1 (a.1 q), fun q => b.2 (a.2 q)⟩
theorem zm_wrong_g (flt plc number : Int32) (wh : Nat) (h : 0 < number) : zm_G flt (zm_wrong flt plc number wh).1 := by
  unfold zm_wrong
  split
  · exact ⟨fun _ => h, fun _ => Int32.le_of_lt h⟩
  · exact zm_G.rf _
theorem zm_and7 : ∀ q, q < 8 → nI q &&& 7 = nI q := by decide

set_option maxHeartbeats 4000000 in
set_option maxRecDepth 100000 in
theorem zm_readName_g (tx : Nat → Nat) (flt : Int32) (plc : Int32) (pp : Nat) (att : Nat)  : zm_G flt ((zm_readName tx flt plc pp att).1) := by
  have key : ∀ t, t = zm_readName tx flt plc pp att → zm_G flt ((t).1) := by
    intro t ht
    unfold zm_readName at ht
    by_cases k_8 : 12 < (pp - att)
    · rw [if_pos k_8] at ht
      by_cases k_9 : ((zl_zm_rnl tx (pp - att) false 0 att).1) = true
      · rw [if_pos k_9] at ht
        subst ht
        exact (show zm_G flt flt from zm_G.rf _)
      · rw [if_neg k_9] at ht
        subst ht
        exact (show zm_G flt ((zm_wrong flt plc 1 att).1) from zm_wrong_g _ _ _ _ (by decide))
    · rw [if_neg k_8] at ht
      by_cases k_10 : ((zl_zm_rnl tx (pp - att) true 0 att).1) = true
      · rw [if_pos k_10] at ht
        subst ht
        exact (show zm_G flt flt from zm_G.rf _)
      · rw [if_neg k_10] at ht
        subst ht
        exact (show zm_G flt ((zm_wrong flt plc 1 att).1) from zm_wrong_g _ _ _ _ (by decide))
  exact key _ rfl

set_option maxHeartbeats 4000000 in
set_option maxRecDepth 100000 in
theorem zm_readNumber_g (tx : Nat → Nat) (flt : Int32) (plc : Int32) (pp : Nat) (att : Nat)  : zm_G flt ((zm_readNumber tx flt plc pp att).1) := by
  have key : ∀ t, t = zm_readNumber tx flt plc pp att → zm_G flt ((t).1) := by
    intro t ht
    unfold zm_readNumber at ht
    by_cases k_11 : (sb_b (tx att)) = 45
    · rw [if_pos k_11] at ht
      by_cases k_12 : pp ≤ (att + 1)
      · rw [if_pos k_12] at ht
        by_cases k_13 : (att + 1) ≤ att
        · rw [if_pos k_13] at ht
          by_cases k_14 : ((zl_zm_rml tx (pp - (att + 1)) false 0 (att + 1)).1) = true
          · rw [if_pos k_14] at ht
            by_cases k_15 : (lg_cmp ((zl_zm_rml tx (pp - (att + 1)) false 0 (att + 1)).2.1) (-2147483648)) < 0
            · rw [if_pos k_15] at ht
              subst ht
              exact (show zm_G flt ((zm_wrong flt plc 1 att).1) from zm_wrong_g _ _ _ _ (by decide))
            · rw [if_neg k_15] at ht
              by_cases k_16 : (lg_cmp ((zl_zm_rml tx (pp - (att + 1)) false 0 (att + 1)).2.1) 2147483647) ≤ 0
              · rw [if_pos k_16] at ht
                subst ht
                exact (show zm_G flt flt from zm_G.rf _)
              · rw [if_neg k_16] at ht
                subst ht
                exact (show zm_G flt ((zm_wrong flt plc 1 att).1) from zm_wrong_g _ _ _ _ (by decide))
          · rw [if_neg k_14] at ht
            subst ht
            exact (show zm_G flt ((zm_wrong flt plc 1 att).1) from zm_wrong_g _ _ _ _ (by decide))
        · rw [if_neg k_13] at ht
          by_cases k_17 : ((zl_zm_rml tx (pp - (att + 1)) false 0 (att + 1)).1) = true
          · rw [if_pos k_17] at ht
            by_cases k_18 : (lg_cmp (-((zl_zm_rml tx (pp - (att + 1)) false 0 (att + 1)).2.1)) (-2147483648)) < 0
            · rw [if_pos k_18] at ht
              subst ht
              exact (show zm_G flt ((zm_wrong flt plc 1 att).1) from zm_wrong_g _ _ _ _ (by decide))
            · rw [if_neg k_18] at ht
              by_cases k_19 : (lg_cmp (-((zl_zm_rml tx (pp - (att + 1)) false 0 (att + 1)).2.1)) 2147483647) ≤ 0
              · rw [if_pos k_19] at ht
                subst ht
                exact (show zm_G flt flt from zm_G.rf _)
              · rw [if_neg k_19] at ht
                subst ht
                exact (show zm_G flt ((zm_wrong flt plc 1 att).1) from zm_wrong_g _ _ _ _ (by decide))
          · rw [if_neg k_17] at ht
            subst ht
            exact (show zm_G flt ((zm_wrong flt plc 1 att).1) from zm_wrong_g _ _ _ _ (by decide))
      · rw [if_neg k_12] at ht
        by_cases k_20 : (att + 1) ≤ att
        · rw [if_pos k_20] at ht
          by_cases k_21 : ((zl_zm_rml tx (pp - (att + 1)) true 0 (att + 1)).1) = true
          · rw [if_pos k_21] at ht
            by_cases k_22 : (lg_cmp ((zl_zm_rml tx (pp - (att + 1)) true 0 (att + 1)).2.1) (-2147483648)) < 0
            · rw [if_pos k_22] at ht
              subst ht
              exact (show zm_G flt ((zm_wrong flt plc 1 att).1) from zm_wrong_g _ _ _ _ (by decide))
            · rw [if_neg k_22] at ht
              by_cases k_23 : (lg_cmp ((zl_zm_rml tx (pp - (att + 1)) true 0 (att + 1)).2.1) 2147483647) ≤ 0
              · rw [if_pos k_23] at ht
                subst ht
                exact (show zm_G flt flt from zm_G.rf _)
              · rw [if_neg k_23] at ht
                subst ht
                exact (show zm_G flt ((zm_wrong flt plc 1 att).1) from zm_wrong_g _ _ _ _ (by decide))
          · rw [if_neg k_21] at ht
            subst ht
            exact (show zm_G flt ((zm_wrong flt plc 1 att).1) from zm_wrong_g _ _ _ _ (by decide))
        · rw [if_neg k_20] at ht
          by_cases k_24 : ((zl_zm_rml tx (pp - (att + 1)) true 0 (att + 1)).1) = true
          · rw [if_pos k_24] at ht
            by_cases k_25 : (lg_cmp (-((zl_zm_rml tx (pp - (att + 1)) true 0 (att + 1)).2.1)) (-2147483648)) < 0
            · rw [if_pos k_25] at ht
              subst ht
              exact (show zm_G flt ((zm_wrong flt plc 1 att).1) from zm_wrong_g _ _ _ _ (by decide))
            · rw [if_neg k_25] at ht
              by_cases k_26 : (lg_cmp (-((zl_zm_rml tx (pp - (att + 1)) true 0 (att + 1)).2.1)) 2147483647) ≤ 0
              · rw [if_pos k_26] at ht
                subst ht
                exact (show zm_G flt flt from zm_G.rf _)
              · rw [if_neg k_26] at ht
                subst ht
                exact (show zm_G flt ((zm_wrong flt plc 1 att).1) from zm_wrong_g _ _ _ _ (by decide))
          · rw [if_neg k_24] at ht
            subst ht
            exact (show zm_G flt ((zm_wrong flt plc 1 att).1) from zm_wrong_g _ _ _ _ (by decide))
    · rw [if_neg k_11] at ht
      by_cases k_27 : pp ≤ att
      · rw [if_pos k_27] at ht
        by_cases k_28 : att ≤ att
        · rw [if_pos k_28] at ht
          by_cases k_29 : ((zl_zm_rml tx (pp - att) false 0 att).1) = true
          · rw [if_pos k_29] at ht
            by_cases k_30 : (lg_cmp ((zl_zm_rml tx (pp - att) false 0 att).2.1) (-2147483648)) < 0
            · rw [if_pos k_30] at ht
              subst ht
              exact (show zm_G flt ((zm_wrong flt plc 1 att).1) from zm_wrong_g _ _ _ _ (by decide))
            · rw [if_neg k_30] at ht
              by_cases k_31 : (lg_cmp ((zl_zm_rml tx (pp - att) false 0 att).2.1) 2147483647) ≤ 0
              · rw [if_pos k_31] at ht
                subst ht
                exact (show zm_G flt flt from zm_G.rf _)
              · rw [if_neg k_31] at ht
                subst ht
                exact (show zm_G flt ((zm_wrong flt plc 1 att).1) from zm_wrong_g _ _ _ _ (by decide))
          · rw [if_neg k_29] at ht
            subst ht
            exact (show zm_G flt ((zm_wrong flt plc 1 att).1) from zm_wrong_g _ _ _ _ (by decide))
        · rw [if_neg k_28] at ht
          by_cases k_32 : ((zl_zm_rml tx (pp - att) false 0 att).1) = true
          · rw [if_pos k_32] at ht
            by_cases k_33 : (lg_cmp (-((zl_zm_rml tx (pp - att) false 0 att).2.1)) (-2147483648)) < 0
            · rw [if_pos k_33] at ht
              subst ht
              exact (show zm_G flt ((zm_wrong flt plc 1 att).1) from zm_wrong_g _ _ _ _ (by decide))
            · rw [if_neg k_33] at ht
              by_cases k_34 : (lg_cmp (-((zl_zm_rml tx (pp - att) false 0 att).2.1)) 2147483647) ≤ 0
              · rw [if_pos k_34] at ht
                subst ht
                exact (show zm_G flt flt from zm_G.rf _)
              · rw [if_neg k_34] at ht
                subst ht
                exact (show zm_G flt ((zm_wrong flt plc 1 att).1) from zm_wrong_g _ _ _ _ (by decide))
          · rw [if_neg k_32] at ht
            subst ht
            exact (show zm_G flt ((zm_wrong flt plc 1 att).1) from zm_wrong_g _ _ _ _ (by decide))
      · rw [if_neg k_27] at ht
        by_cases k_35 : att ≤ att
        · rw [if_pos k_35] at ht
          by_cases k_36 : ((zl_zm_rml tx (pp - att) true 0 att).1) = true
          · rw [if_pos k_36] at ht
            by_cases k_37 : (lg_cmp ((zl_zm_rml tx (pp - att) true 0 att).2.1) (-2147483648)) < 0
            · rw [if_pos k_37] at ht
              subst ht
              exact (show zm_G flt ((zm_wrong flt plc 1 att).1) from zm_wrong_g _ _ _ _ (by decide))
            · rw [if_neg k_37] at ht
              by_cases k_38 : (lg_cmp ((zl_zm_rml tx (pp - att) true 0 att).2.1) 2147483647) ≤ 0
              · rw [if_pos k_38] at ht
                subst ht
                exact (show zm_G flt flt from zm_G.rf _)
              · rw [if_neg k_38] at ht
                subst ht
                exact (show zm_G flt ((zm_wrong flt plc 1 att).1) from zm_wrong_g _ _ _ _ (by decide))
          · rw [if_neg k_36] at ht
            subst ht
            exact (show zm_G flt ((zm_wrong flt plc 1 att).1) from zm_wrong_g _ _ _ _ (by decide))
        · rw [if_neg k_35] at ht
          by_cases k_39 : ((zl_zm_rml tx (pp - att) true 0 att).1) = true
          · rw [if_pos k_39] at ht
            by_cases k_40 : (lg_cmp (-((zl_zm_rml tx (pp - att) true 0 att).2.1)) (-2147483648)) < 0
            · rw [if_pos k_40] at ht
              subst ht
              exact (show zm_G flt ((zm_wrong flt plc 1 att).1) from zm_wrong_g _ _ _ _ (by decide))
            · rw [if_neg k_40] at ht
              by_cases k_41 : (lg_cmp (-((zl_zm_rml tx (pp - att) true 0 att).2.1)) 2147483647) ≤ 0
              · rw [if_pos k_41] at ht
                subst ht
                exact (show zm_G flt flt from zm_G.rf _)
              · rw [if_neg k_41] at ht
                subst ht
                exact (show zm_G flt ((zm_wrong flt plc 1 att).1) from zm_wrong_g _ _ _ _ (by decide))
          · rw [if_neg k_39] at ht
            subst ht
            exact (show zm_G flt ((zm_wrong flt plc 1 att).1) from zm_wrong_g _ _ _ _ (by decide))
  exact key _ rfl

set_option maxHeartbeats 4000000 in
set_option maxRecDepth 100000 in
theorem zm_next_g (tx : Nat → Nat) (size : Nat) (flt : Int32) (plc : Int32) (pp : Nat) (tok : Int32) (spl : Int64) (val : Int32)  : zm_G flt ((zm_next tx size flt plc pp tok spl val).1) := by
  have key : ∀ t, t = zm_next tx size flt plc pp tok spl val → zm_G flt ((t).1) := by
    intro t ht
    unfold zm_next at ht
    by_cases k_42 : (zl_zm_n1 tx (size - pp) pp) = size
    · rw [if_pos k_42] at ht
      subst ht
      exact (show zm_G flt flt from zm_G.rf _)
    · rw [if_neg k_42] at ht
      by_cases k_43 : (sb_b (tx (zl_zm_n1 tx (size - pp) pp))) = 40
      · rw [if_pos k_43] at ht
        by_cases k_44 : (sb_b (tx (zl_zm_n1 tx (size - pp) pp))) = 40
        · rw [if_pos k_44] at ht
          subst ht
          exact (show zm_G flt flt from zm_G.rf _)
        · rw [if_neg k_44] at ht
          subst ht
          exact (show zm_G flt flt from zm_G.rf _)
      · rw [if_neg k_43] at ht
        by_cases k_45 : (sb_b (tx (zl_zm_n1 tx (size - pp) pp))) = 41
        · rw [if_pos k_45] at ht
          by_cases k_46 : (sb_b (tx (zl_zm_n1 tx (size - pp) pp))) = 40
          · rw [if_pos k_46] at ht
            subst ht
            exact (show zm_G flt flt from zm_G.rf _)
          · rw [if_neg k_46] at ht
            subst ht
            exact (show zm_G flt flt from zm_G.rf _)
        · rw [if_neg k_45] at ht
          by_cases k_47 : (zl_zm_n2 tx size (size - (zl_zm_n1 tx (size - pp) pp)) (zl_zm_n1 tx (size - pp) pp)) = (zl_zm_n1 tx (size - pp) pp)
          · rw [if_pos k_47] at ht
            subst ht
            exact (show zm_G flt ((zm_wrong flt plc 1 (zl_zm_n1 tx (size - pp) pp)).1) from zm_wrong_g _ _ _ _ (by decide))
          · rw [if_neg k_47] at ht
            by_cases k_48 : (zt_letter (sb_b (tx (zl_zm_n1 tx (size - pp) pp)))) = true
            · rw [if_pos k_48] at ht
              subst ht
              exact (show zm_G flt ((zm_readName tx flt plc (zl_zm_n2 tx size (size - (zl_zm_n1 tx (size - pp) pp)) (zl_zm_n1 tx (size - pp) pp)) (zl_zm_n1 tx (size - pp) pp)).1) from zm_readName_g _ _ _ _ _)
            · rw [if_neg k_48] at ht
              subst ht
              exact (show zm_G flt ((zm_readNumber tx flt plc (zl_zm_n2 tx size (size - (zl_zm_n1 tx (size - pp) pp)) (zl_zm_n1 tx (size - pp) pp)) (zl_zm_n1 tx (size - pp) pp)).1) from zm_readNumber_g _ _ _ _ _)
  exact key _ rfl

set_option maxHeartbeats 4000000 in
set_option maxRecDepth 100000 in
theorem zm_must_eq (size : Nat) (flt plc tok : Int32) (att : Nat) (good : Bool) : zm_must size flt plc tok att good = if flt = 0 then (if tok = 4 then (false, 3, nI size) else if good = true then (true, 0, plc) else (false, 2, nI att)) else (false, flt, plc) := by
  by_cases hf : flt = 0
  · subst hf
    have w3 : zm_wrong 0 plc 3 size = (3, nI size) := if_pos rfl
    have w2 : zm_wrong 0 plc 2 att = (2, nI att) := if_pos rfl
    by_cases ht : tok = 4
    · subst ht
      cases good <;> simp [zm_must, w3]
    · cases good <;> simp [zm_must, w2, ht]
  · cases good <;> simp [zm_must, hf]
theorem zm_must_g (size : Nat) (flt plc tok : Int32) (att : Nat) (good : Bool) : zm_G flt (zm_must size flt plc tok att good).2.1 ∧ (0 ≤ flt → good = false → 0 < (zm_must size flt plc tok att good).2.1) ∧ ((zm_must size flt plc tok att good).1 = true → (zm_must size flt plc tok att good).2.1 = 0 ∧ flt = 0 ∧ good = true) := by
  rw [zm_must_eq]
  by_cases hf : flt = 0
  · subst hf
    rw [if_pos rfl]
    by_cases ht : tok = 4
    · rw [if_pos ht]
      exact ⟨⟨fun _ => (show (0 : Int32) < 3 by decide), fun _ => (show (0 : Int32) ≤ 3 by decide)⟩, fun _ _ => (show (0 : Int32) < 3 by decide), fun q => absurd q Bool.false_ne_true⟩
    · rw [if_neg ht]
      cases good
      · exact ⟨⟨fun _ => (show (0 : Int32) < 2 by decide), fun _ => (show (0 : Int32) ≤ 2 by decide)⟩, fun _ _ => (show (0 : Int32) < 2 by decide), fun q => absurd q Bool.false_ne_true⟩
      · exact ⟨zm_G.rf _, fun _ q => absurd q (by decide), fun _ => ⟨rfl, rfl, rfl⟩⟩
  · rw [if_neg hf]
    refine ⟨zm_G.rf _, fun h _ => ?_, fun q => absurd q Bool.false_ne_true⟩
    exact Int32.lt_of_le_of_ne h (fun q => hf q.symm)
