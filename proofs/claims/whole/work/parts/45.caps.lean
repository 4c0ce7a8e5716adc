theorem zq_capb {r c : Nat} (hr : r ≤ 8192) (hc : c ≤ 16384) : zr_cap r c ≤ 16384 := by
  rw [zr_cap]; split <;> omega

theorem zq_beginsE_b (token : Int32) (place : Nat) (name : Int64) (word : Int32) (value : Int32) (dr : Nat) (dnum : Nat → Nat → Int32) (nr : Nat) (nc : Nat) (nnum : Nat → Nat → Int32) (nnam : Nat → Nat → Int64) (stage : Int32) (latest : Int32) (op : Int32) (wa : Int32) (h1 : nr ≤ 8192) (h2 : nc ≤ 16384) : (zp_beginsE token place name word value dr dnum nr nc nnum nnam stage latest op wa).2.2.1 ≤ 16384 := by
  unfold zp_beginsE
  (repeat' split) <;> first | exact h2 | (dsimp only; rw [(zp_addNode_n _ _ _ _ _ _ _ _ _ _ _).2]; exact zq_capb h1 h2)

theorem zq_beginsC_b (token : Int32) (place : Nat) (dr : Nat) (dnum : Nat → Nat → Int32) (nr : Nat) (nc : Nat) (nnum : Nat → Nat → Int32) (nnam : Nat → Nat → Int64) (stage : Int32) (latest : Int32) (op : Int32) (wa : Int32) (h1 : nr ≤ 8192) (h2 : nc ≤ 16384) : (zp_beginsC token place dr dnum nr nc nnum nnam stage latest op wa).2.2.1 ≤ 16384 := by
  unfold zp_beginsC
  (repeat' split) <;> first | exact h2 | (dsimp only; rw [(zp_addNode_n _ _ _ _ _ _ _ _ _ _ _).2]; exact zq_capb h1 h2)

set_option maxHeartbeats 4000000 in
set_option maxRecDepth 100000 in
theorem zq_takesStep_b (token : Int32) (place : Nat) (name : Int64) (word : Int32) (value : Int32) (dr : Nat) (dnum : Nat → Nat → Int32) (nr : Nat) (nc : Nat) (nnum : Nat → Nat → Int32) (nnam : Nat → Nat → Int64) (stage : Int32) (latest : Int32) (op : Int32) (h1 : nr ≤ 8192) (h2 : nc ≤ 16384) : (zp_takesStep token place name word value dr dnum nr nc nnum nnam stage latest op).2.2.1 ≤ 16384 := by
  have key : ∀ t, t = zp_takesStep token place name word value dr dnum nr nc nnum nnam stage latest op → (t).2.2.1 ≤ 16384 := by
    intro t ht
    unfold zp_takesStep at ht
    by_cases k_1 : (zr_num 10 nr nnum op 9) < 0
    · rw [if_pos k_1] at ht
      by_cases k_2 : token = 3
      · rw [if_pos k_2] at ht
        by_cases k_3 : ((zp_endsNode nr nnum op).1) = true
        · rw [if_pos k_3] at ht
          subst ht
          first | exact h2 | exact zq_beginsE_b _ _ _ _ _ _ _ _ _ _ _ _ _ _ _ h1 h2 | exact zq_beginsC_b _ _ _ _ _ _ _ _ _ _ _ _ h1 h2
        · rw [if_neg k_3] at ht
          subst ht
          first | exact h2 | exact zq_beginsE_b _ _ _ _ _ _ _ _ _ _ _ _ _ _ _ h1 h2 | exact zq_beginsC_b _ _ _ _ _ _ _ _ _ _ _ _ h1 h2
      · rw [if_neg k_2] at ht
        subst ht
        first | exact h2 | exact zq_beginsE_b _ _ _ _ _ _ _ _ _ _ _ _ _ _ _ h1 h2 | exact zq_beginsC_b _ _ _ _ _ _ _ _ _ _ _ _ h1 h2
    · rw [if_neg k_1] at ht
      by_cases k_4 : (nI (zz_sl.getD (zp_shape (zr_num 10 nr nnum op 0)) 0)) ≤ (zr_num 10 nr nnum op 9)
      · rw [if_pos k_4] at ht
        by_cases k_5 : token = 3
        · rw [if_pos k_5] at ht
          by_cases k_6 : ((zp_endsNode nr nnum op).1) = true
          · rw [if_pos k_6] at ht
            subst ht
            first | exact h2 | exact zq_beginsE_b _ _ _ _ _ _ _ _ _ _ _ _ _ _ _ h1 h2 | exact zq_beginsC_b _ _ _ _ _ _ _ _ _ _ _ _ h1 h2
          · rw [if_neg k_6] at ht
            subst ht
            first | exact h2 | exact zq_beginsE_b _ _ _ _ _ _ _ _ _ _ _ _ _ _ _ h1 h2 | exact zq_beginsC_b _ _ _ _ _ _ _ _ _ _ _ _ h1 h2
        · rw [if_neg k_5] at ht
          subst ht
          first | exact h2 | exact zq_beginsE_b _ _ _ _ _ _ _ _ _ _ _ _ _ _ _ h1 h2 | exact zq_beginsC_b _ _ _ _ _ _ _ _ _ _ _ _ h1 h2
      · rw [if_neg k_4] at ht
        by_cases k_7 : (zs_ch (zp_shape (zr_num 10 nr nnum op 0)) (zr_num 10 nr nnum op 9).toNatClampNeg) = 40
        · rw [if_pos k_7] at ht
          subst ht
          first | exact h2 | exact zq_beginsE_b _ _ _ _ _ _ _ _ _ _ _ _ _ _ _ h1 h2 | exact zq_beginsC_b _ _ _ _ _ _ _ _ _ _ _ _ h1 h2
        · rw [if_neg k_7] at ht
          by_cases k_8 : (zs_ch (zp_shape (zr_num 10 nr nnum op 0)) (zr_num 10 nr nnum op 9).toNatClampNeg) = 41
          · rw [if_pos k_8] at ht
            subst ht
            first | exact h2 | exact zq_beginsE_b _ _ _ _ _ _ _ _ _ _ _ _ _ _ _ h1 h2 | exact zq_beginsC_b _ _ _ _ _ _ _ _ _ _ _ _ h1 h2
          · rw [if_neg k_8] at ht
            by_cases k_9 : (zs_ch (zp_shape (zr_num 10 nr nnum op 0)) (zr_num 10 nr nnum op 9).toNatClampNeg) = 42
            · rw [if_pos k_9] at ht
              by_cases k_10 : token = 3
              · rw [if_pos k_10] at ht
                subst ht
                first | exact h2 | exact zq_beginsE_b _ _ _ _ _ _ _ _ _ _ _ _ _ _ _ h1 h2 | exact zq_beginsC_b _ _ _ _ _ _ _ _ _ _ _ _ h1 h2
              · rw [if_neg k_10] at ht
                subst ht
                first | exact h2 | exact zq_beginsE_b _ _ _ _ _ _ _ _ _ _ _ _ _ _ _ h1 h2 | exact zq_beginsC_b _ _ _ _ _ _ _ _ _ _ _ _ h1 h2
            · rw [if_neg k_9] at ht
              by_cases k_11 : (zs_ch (zp_shape (zr_num 10 nr nnum op 0)) (zr_num 10 nr nnum op 9).toNatClampNeg) = 67
              · rw [if_pos k_11] at ht
                subst ht
                first | exact h2 | exact zq_beginsE_b _ _ _ _ _ _ _ _ _ _ _ _ _ _ _ h1 h2 | exact zq_beginsC_b _ _ _ _ _ _ _ _ _ _ _ _ h1 h2
              · rw [if_neg k_11] at ht
                by_cases k_12 : (zs_ch (zp_shape (zr_num 10 nr nnum op 0)) (zr_num 10 nr nnum op 9).toNatClampNeg) = 69
                · rw [if_pos k_12] at ht
                  subst ht
                  first | exact h2 | exact zq_beginsE_b _ _ _ _ _ _ _ _ _ _ _ _ _ _ _ h1 h2 | exact zq_beginsC_b _ _ _ _ _ _ _ _ _ _ _ _ h1 h2
                · rw [if_neg k_12] at ht
                  by_cases k_13 : (zs_ch (zp_shape (zr_num 10 nr nnum op 0)) (zr_num 10 nr nnum op 9).toNatClampNeg) = 70
                  · rw [if_pos k_13] at ht
                    subst ht
                    first | exact h2 | exact zq_beginsE_b _ _ _ _ _ _ _ _ _ _ _ _ _ _ _ h1 h2 | exact zq_beginsC_b _ _ _ _ _ _ _ _ _ _ _ _ h1 h2
                  · rw [if_neg k_13] at ht
                    by_cases k_14 : (zs_ch (zp_shape (zr_num 10 nr nnum op 0)) (zr_num 10 nr nnum op 9).toNatClampNeg) = 88
                    · rw [if_pos k_14] at ht
                      subst ht
                      first | exact h2 | exact zq_beginsE_b _ _ _ _ _ _ _ _ _ _ _ _ _ _ _ h1 h2 | exact zq_beginsC_b _ _ _ _ _ _ _ _ _ _ _ _ h1 h2
                    · rw [if_neg k_14] at ht
                      by_cases k_15 : (zs_ch (zp_shape (zr_num 10 nr nnum op 0)) (zr_num 10 nr nnum op 9).toNatClampNeg) = 89
                      · rw [if_pos k_15] at ht
                        subst ht
                        first | exact h2 | exact zq_beginsE_b _ _ _ _ _ _ _ _ _ _ _ _ _ _ _ h1 h2 | exact zq_beginsC_b _ _ _ _ _ _ _ _ _ _ _ _ h1 h2
                      · rw [if_neg k_15] at ht
                        by_cases k_16 : (zs_ch (zp_shape (zr_num 10 nr nnum op 0)) (zr_num 10 nr nnum op 9).toNatClampNeg) = 99
                        · rw [if_pos k_16] at ht
                          subst ht
                          first | exact h2 | exact zq_beginsE_b _ _ _ _ _ _ _ _ _ _ _ _ _ _ _ h1 h2 | exact zq_beginsC_b _ _ _ _ _ _ _ _ _ _ _ _ h1 h2
                        · rw [if_neg k_16] at ht
                          by_cases k_17 : (zs_ch (zp_shape (zr_num 10 nr nnum op 0)) (zr_num 10 nr nnum op 9).toNatClampNeg) = 101
                          · rw [if_pos k_17] at ht
                            subst ht
                            first | exact h2 | exact zq_beginsE_b _ _ _ _ _ _ _ _ _ _ _ _ _ _ _ h1 h2 | exact zq_beginsC_b _ _ _ _ _ _ _ _ _ _ _ _ h1 h2
                          · rw [if_neg k_17] at ht
                            by_cases k_18 : token = 3
                            · rw [if_pos k_18] at ht
                              by_cases k_19 : ((zp_endsNode nr nnum op).1) = true
                              · rw [if_pos k_19] at ht
                                subst ht
                                first | exact h2 | exact zq_beginsE_b _ _ _ _ _ _ _ _ _ _ _ _ _ _ _ h1 h2 | exact zq_beginsC_b _ _ _ _ _ _ _ _ _ _ _ _ h1 h2
                              · rw [if_neg k_19] at ht
                                subst ht
                                first | exact h2 | exact zq_beginsE_b _ _ _ _ _ _ _ _ _ _ _ _ _ _ _ h1 h2 | exact zq_beginsC_b _ _ _ _ _ _ _ _ _ _ _ _ h1 h2
                            · rw [if_neg k_18] at ht
                              subst ht
                              first | exact h2 | exact zq_beginsE_b _ _ _ _ _ _ _ _ _ _ _ _ _ _ _ h1 h2 | exact zq_beginsC_b _ _ _ _ _ _ _ _ _ _ _ _ h1 h2
  exact key _ rfl

theorem zq_beginsDefinition_b (token : Int32) (dr : Nat) (dc : Nat) (dnum : Nat → Nat → Int32) (dnam : Nat → Nat → Int64) (stage : Int32) (latest : Int32) (h3 : dr ≤ 8192) (h4 : dc ≤ 16384) : (zp_beginsDefinition token dr dc dnum dnam stage latest).2.1 ≤ dr + 1 ∧ (zp_beginsDefinition token dr dc dnum dnam stage latest).2.2.1 ≤ 16384 := by
  unfold zp_beginsDefinition
  (repeat' split) <;> first | exact ⟨Nat.le_succ _, h4⟩ | exact ⟨Nat.le_refl _, zq_capb h3 h4⟩

set_option maxHeartbeats 4000000 in
set_option maxRecDepth 100000 in
theorem zq_takesOutside_b (token : Int32) (place : Nat) (name : Int64) (word : Int32) (value : Int32) (dr : Nat) (dc : Nat) (dnum : Nat → Nat → Int32) (dnam : Nat → Nat → Int64) (nr : Nat) (nc : Nat) (nnum : Nat → Nat → Int32) (nnam : Nat → Nat → Int64) (stage : Int32) (latest : Int32) (op : Int32) (wa : Int32) (h1 : nr ≤ 8192) (h2 : nc ≤ 16384) (h3 : dr ≤ 8192) (h4 : dc ≤ 16384) : (zp_takesOutside token place name word value dr dc dnum dnam nr nc nnum nnam stage latest op wa).2.1 ≤ dr + 1 ∧ (zp_takesOutside token place name word value dr dc dnum dnam nr nc nnum nnam stage latest op wa).2.2.1 ≤ 16384 ∧ (zp_takesOutside token place name word value dr dc dnum dnam nr nc nnum nnam stage latest op wa).2.2.2.2.2.2.1 ≤ 16384 := by
  have key : ∀ t, t = zp_takesOutside token place name word value dr dc dnum dnam nr nc nnum nnam stage latest op wa → ((t).2.1 ≤ dr + 1 ∧ (t).2.2.1 ≤ 16384 ∧ (t).2.2.2.2.2.2.1 ≤ 16384) := by
    intro t ht
    unfold zp_takesOutside at ht
    by_cases k_20 : stage = 0
    · rw [if_pos k_20] at ht
      subst ht
      first | exact ⟨Nat.le_succ _, h4, h2⟩ | exact ⟨(zq_beginsDefinition_b _ _ _ _ _ _ _ h3 h4).1, (zq_beginsDefinition_b _ _ _ _ _ _ _ h3 h4).2, h2⟩ | exact ⟨Nat.le_succ _, h4, zq_beginsE_b _ _ _ _ _ _ _ _ _ _ _ _ _ _ _ h1 h2⟩ | exact ⟨Nat.le_succ _, h4, zq_beginsC_b _ _ _ _ _ _ _ _ _ _ _ _ h1 h2⟩
    · rw [if_neg k_20] at ht
      by_cases k_21 : stage = 1
      · rw [if_pos k_21] at ht
        subst ht
        first | exact ⟨Nat.le_succ _, h4, h2⟩ | exact ⟨(zq_beginsDefinition_b _ _ _ _ _ _ _ h3 h4).1, (zq_beginsDefinition_b _ _ _ _ _ _ _ h3 h4).2, h2⟩ | exact ⟨Nat.le_succ _, h4, zq_beginsE_b _ _ _ _ _ _ _ _ _ _ _ _ _ _ _ h1 h2⟩ | exact ⟨Nat.le_succ _, h4, zq_beginsC_b _ _ _ _ _ _ _ _ _ _ _ _ h1 h2⟩
      · rw [if_neg k_21] at ht
        by_cases k_22 : stage = 2
        · rw [if_pos k_22] at ht
          subst ht
          first | exact ⟨Nat.le_succ _, h4, h2⟩ | exact ⟨(zq_beginsDefinition_b _ _ _ _ _ _ _ h3 h4).1, (zq_beginsDefinition_b _ _ _ _ _ _ _ h3 h4).2, h2⟩ | exact ⟨Nat.le_succ _, h4, zq_beginsE_b _ _ _ _ _ _ _ _ _ _ _ _ _ _ _ h1 h2⟩ | exact ⟨Nat.le_succ _, h4, zq_beginsC_b _ _ _ _ _ _ _ _ _ _ _ _ h1 h2⟩
        · rw [if_neg k_22] at ht
          by_cases k_23 : stage = 3
          · rw [if_pos k_23] at ht
            subst ht
            first | exact ⟨Nat.le_succ _, h4, h2⟩ | exact ⟨(zq_beginsDefinition_b _ _ _ _ _ _ _ h3 h4).1, (zq_beginsDefinition_b _ _ _ _ _ _ _ h3 h4).2, h2⟩ | exact ⟨Nat.le_succ _, h4, zq_beginsE_b _ _ _ _ _ _ _ _ _ _ _ _ _ _ _ h1 h2⟩ | exact ⟨Nat.le_succ _, h4, zq_beginsC_b _ _ _ _ _ _ _ _ _ _ _ _ h1 h2⟩
          · rw [if_neg k_23] at ht
            by_cases k_24 : stage = 4
            · rw [if_pos k_24] at ht
              subst ht
              first | exact ⟨Nat.le_succ _, h4, h2⟩ | exact ⟨(zq_beginsDefinition_b _ _ _ _ _ _ _ h3 h4).1, (zq_beginsDefinition_b _ _ _ _ _ _ _ h3 h4).2, h2⟩ | exact ⟨Nat.le_succ _, h4, zq_beginsE_b _ _ _ _ _ _ _ _ _ _ _ _ _ _ _ h1 h2⟩ | exact ⟨Nat.le_succ _, h4, zq_beginsC_b _ _ _ _ _ _ _ _ _ _ _ _ h1 h2⟩
            · rw [if_neg k_24] at ht
              by_cases k_25 : stage = 5
              · rw [if_pos k_25] at ht
                subst ht
                first | exact ⟨Nat.le_succ _, h4, h2⟩ | exact ⟨(zq_beginsDefinition_b _ _ _ _ _ _ _ h3 h4).1, (zq_beginsDefinition_b _ _ _ _ _ _ _ h3 h4).2, h2⟩ | exact ⟨Nat.le_succ _, h4, zq_beginsE_b _ _ _ _ _ _ _ _ _ _ _ _ _ _ _ h1 h2⟩ | exact ⟨Nat.le_succ _, h4, zq_beginsC_b _ _ _ _ _ _ _ _ _ _ _ _ h1 h2⟩
              · rw [if_neg k_25] at ht
                by_cases k_26 : stage = 6
                · rw [if_pos k_26] at ht
                  subst ht
                  first | exact ⟨Nat.le_succ _, h4, h2⟩ | exact ⟨(zq_beginsDefinition_b _ _ _ _ _ _ _ h3 h4).1, (zq_beginsDefinition_b _ _ _ _ _ _ _ h3 h4).2, h2⟩ | exact ⟨Nat.le_succ _, h4, zq_beginsE_b _ _ _ _ _ _ _ _ _ _ _ _ _ _ _ h1 h2⟩ | exact ⟨Nat.le_succ _, h4, zq_beginsC_b _ _ _ _ _ _ _ _ _ _ _ _ h1 h2⟩
                · rw [if_neg k_26] at ht
                  by_cases k_27 : stage = 7
                  · rw [if_pos k_27] at ht
                    subst ht
                    first | exact ⟨Nat.le_succ _, h4, h2⟩ | exact ⟨(zq_beginsDefinition_b _ _ _ _ _ _ _ h3 h4).1, (zq_beginsDefinition_b _ _ _ _ _ _ _ h3 h4).2, h2⟩ | exact ⟨Nat.le_succ _, h4, zq_beginsE_b _ _ _ _ _ _ _ _ _ _ _ _ _ _ _ h1 h2⟩ | exact ⟨Nat.le_succ _, h4, zq_beginsC_b _ _ _ _ _ _ _ _ _ _ _ _ h1 h2⟩
                  · rw [if_neg k_27] at ht
                    by_cases k_28 : stage = 8
                    · rw [if_pos k_28] at ht
                      subst ht
                      first | exact ⟨Nat.le_succ _, h4, h2⟩ | exact ⟨(zq_beginsDefinition_b _ _ _ _ _ _ _ h3 h4).1, (zq_beginsDefinition_b _ _ _ _ _ _ _ h3 h4).2, h2⟩ | exact ⟨Nat.le_succ _, h4, zq_beginsE_b _ _ _ _ _ _ _ _ _ _ _ _ _ _ _ h1 h2⟩ | exact ⟨Nat.le_succ _, h4, zq_beginsC_b _ _ _ _ _ _ _ _ _ _ _ _ h1 h2⟩
                    · rw [if_neg k_28] at ht
                      by_cases k_29 : stage = 9
                      · rw [if_pos k_29] at ht
                        by_cases k_30 : (zp_isChange dr dnum latest) = true
                        · rw [if_pos k_30] at ht
                          subst ht
                          first | exact ⟨Nat.le_succ _, h4, h2⟩ | exact ⟨(zq_beginsDefinition_b _ _ _ _ _ _ _ h3 h4).1, (zq_beginsDefinition_b _ _ _ _ _ _ _ h3 h4).2, h2⟩ | exact ⟨Nat.le_succ _, h4, zq_beginsE_b _ _ _ _ _ _ _ _ _ _ _ _ _ _ _ h1 h2⟩ | exact ⟨Nat.le_succ _, h4, zq_beginsC_b _ _ _ _ _ _ _ _ _ _ _ _ h1 h2⟩
                        · rw [if_neg k_30] at ht
                          subst ht
                          first | exact ⟨Nat.le_succ _, h4, h2⟩ | exact ⟨(zq_beginsDefinition_b _ _ _ _ _ _ _ h3 h4).1, (zq_beginsDefinition_b _ _ _ _ _ _ _ h3 h4).2, h2⟩ | exact ⟨Nat.le_succ _, h4, zq_beginsE_b _ _ _ _ _ _ _ _ _ _ _ _ _ _ _ h1 h2⟩ | exact ⟨Nat.le_succ _, h4, zq_beginsC_b _ _ _ _ _ _ _ _ _ _ _ _ h1 h2⟩
                      · rw [if_neg k_29] at ht
                        by_cases k_31 : stage = 10
                        · rw [if_pos k_31] at ht
                          subst ht
                          first | exact ⟨Nat.le_succ _, h4, h2⟩ | exact ⟨(zq_beginsDefinition_b _ _ _ _ _ _ _ h3 h4).1, (zq_beginsDefinition_b _ _ _ _ _ _ _ h3 h4).2, h2⟩ | exact ⟨Nat.le_succ _, h4, zq_beginsE_b _ _ _ _ _ _ _ _ _ _ _ _ _ _ _ h1 h2⟩ | exact ⟨Nat.le_succ _, h4, zq_beginsC_b _ _ _ _ _ _ _ _ _ _ _ _ h1 h2⟩
                        · rw [if_neg k_31] at ht
                          by_cases k_32 : stage = 11
                          · rw [if_pos k_32] at ht
                            subst ht
                            first | exact ⟨Nat.le_succ _, h4, h2⟩ | exact ⟨(zq_beginsDefinition_b _ _ _ _ _ _ _ h3 h4).1, (zq_beginsDefinition_b _ _ _ _ _ _ _ h3 h4).2, h2⟩ | exact ⟨Nat.le_succ _, h4, zq_beginsE_b _ _ _ _ _ _ _ _ _ _ _ _ _ _ _ h1 h2⟩ | exact ⟨Nat.le_succ _, h4, zq_beginsC_b _ _ _ _ _ _ _ _ _ _ _ _ h1 h2⟩
                          · rw [if_neg k_32] at ht
                            subst ht
                            first | exact ⟨Nat.le_succ _, h4, h2⟩ | exact ⟨(zq_beginsDefinition_b _ _ _ _ _ _ _ h3 h4).1, (zq_beginsDefinition_b _ _ _ _ _ _ _ h3 h4).2, h2⟩ | exact ⟨Nat.le_succ _, h4, zq_beginsE_b _ _ _ _ _ _ _ _ _ _ _ _ _ _ _ h1 h2⟩ | exact ⟨Nat.le_succ _, h4, zq_beginsC_b _ _ _ _ _ _ _ _ _ _ _ _ h1 h2⟩
  exact key _ rfl

set_option maxHeartbeats 4000000 in
set_option maxRecDepth 100000 in
theorem zq_iter_b (tx : Nat → Nat) (len : Nat) (next : Nat) (token : Int32) (place : Nat) (name : Int64) (word : Int32) (value : Int32) (dr : Nat) (dc : Nat) (dnum : Nat → Nat → Int32) (dnam : Nat → Nat → Int64) (nr : Nat) (nc : Nat) (nnum : Nat → Nat → Int32) (nnam : Nat → Nat → Int64) (fault : Int32) (stage : Int32) (latest : Int32) (op : Int32) (wa : Int32) (h1 : nr ≤ 8192) (h2 : nc ≤ 16384) (h3 : dr ≤ 8192) (h4 : dc ≤ 16384) : (zp_iter tx len next token place name word value dr dc dnum dnam nr nc nnum nnam fault stage latest op wa).2.2.2.2.2.2.1 ≤ dr + 1 ∧ (zp_iter tx len next token place name word value dr dc dnum dnam nr nc nnum nnam fault stage latest op wa).2.2.2.2.2.2.2.1 ≤ 16384 ∧ (zp_iter tx len next token place name word value dr dc dnum dnam nr nc nnum nnam fault stage latest op wa).2.2.2.2.2.2.2.2.2.2.2.1 ≤ 16384 := by
  have hs := zq_takesStep_b token place name word value dr dnum nr nc nnum nnam stage latest op h1 h2
  have ho := zq_takesOutside_b token place name word value dr dc dnum dnam nr nc nnum nnam stage latest op wa h1 h2 h3 h4
  unfold zp_iter
  (repeat' split) <;> first | exact ⟨Nat.le_succ _, h4, h2⟩ | exact ⟨Nat.le_succ _, h4, hs⟩ | exact ho
theorem zq_run_b (tx : Nat → Nat) (len : Nat) : ∀ (n : Nat) (σ : zp_L), σ.1 ≤ len → σ.2.2.2.2.2.2.1 + n ≤ 8192 → σ.2.2.2.2.2.2.2.2.2.2.1 + n ≤ 8192 → σ.2.2.2.2.2.2.2.1 ≤ 16384 → σ.2.2.2.2.2.2.2.2.2.2.2.1 ≤ 16384 → (zp_run tx len n σ).2.2.2.2.2.2.2.1 ≤ 16384 ∧ (zp_run tx len n σ).2.2.2.2.2.2.2.2.2.2.2.1 ≤ 16384 := by
  intro n
  induction n with
  | zero => intro σ _ _ _ h4 h2; exact ⟨h4, h2⟩
  | succ n ih =>
    intro σ hl h3 h1 h4 h2
    obtain ⟨next, token, place, name, word, value, dr, dc, dnum, dnam, nr, nc, nnum, nnam, fault, stage, latest, op, wa⟩ := σ
    have hl : next ≤ len := hl
    have h3 : dr + (n + 1) ≤ 8192 := h3
    have h1 : nr + (n + 1) ≤ 8192 := h1
    have h4 : dc ≤ 16384 := h4
    have h2 : nc ≤ 16384 := h2
    rw [zp_run]
    split
    · split
      · exact ⟨h4, h2⟩
      · have hi := zp_iter_n tx len next token place name word value dr dc dnum dnam nr nc nnum nnam fault stage latest op wa hl
        have hj := zq_iter_b tx len next token place name word value dr dc dnum dnam nr nc nnum nnam fault stage latest op wa (by omega) h2 (by omega) h4
        exact ih _ hi.1 (by have := hj.1; omega) (by have := hi.2.1; omega) hj.2.1 hj.2.2
    · exact ⟨h4, h2⟩
theorem zt_apc_le (cap len : Nat) (n : Int32) : cap ≤ zt_apc cap len n ∧ zt_apc cap len n ≤ 2 * cap := by
  rw [zt_apc]; split <;> omega
theorem zq_lp {L i : Nat} (hL : L ≤ 2048) (hi : i ≤ L) : nI L - 4 < nI i ↔ L < i + 4 := by
  have e : (nI L - 4).toInt = (L : Int) - 4 := by
    rw [Int32.toInt_sub, zq_ti (by omega)]
    have : (4 : Int32).toInt = 4 := rfl
    rw [this]
    apply Int.bmod_eq_of_le <;> omega
  rw [Int32.lt_iff_toInt_lt, e, zq_ti (by omega)]
  omega
