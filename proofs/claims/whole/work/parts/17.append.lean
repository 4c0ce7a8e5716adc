/-! TEXT: append -/
theorem wb_tb (n : Nat) : (lN n).toBitVec = BitVec.ofNat 64 n := rfl
theorem wb_inj {a b : Int64} (h : a.toBitVec = b.toBitVec) : a = b := Int64.toBitVec_inj.mp h
theorem wb_tn {n : Nat} (h : n < 2 ^ 64) : (lN n).toBitVec.toNat = n := by rw [wb_tb, BitVec.toNat_ofNat, Nat.mod_eq_of_lt h]
theorem wb_of (x : Int64) : ∃ n, n < 2 ^ 64 ∧ x = lN n := ⟨x.toBitVec.toNat, x.toBitVec.isLt, wb_inj (by rw [wb_tb]; simp)⟩
theorem wb_of32 (x : Int32) : ∃ n, n < 2 ^ 32 ∧ x = nI n := ⟨x.toBitVec.toNat, x.toBitVec.isLt, Int32.toBitVec_inj.mp (by show _ = BitVec.ofNat 32 _; simp)⟩
theorem wb_c : ∀ k, k < 64 → ((nI k).toInt64 &&& 63) = lN k := by decide +kernel
theorem wb_cu : ∀ k, k < 64 → ((nI k).toInt64.toUInt64 &&& Int64.toUInt64 63) = UInt64.ofNat k := by decide +kernel
theorem wb_sm : ∀ k, k < 64 → (BitVec.ofNat 64 k).smod 64 = BitVec.ofNat 64 k := by decide +kernel
theorem wb_pw {a b : Nat} (h : a ≤ b) : 2 ^ b = 2 ^ a * 2 ^ (b - a) := by rw [← Nat.pow_add]; congr 1; omega
theorem wb_lt2 {a b : Nat} (h : a < b) : 2 ^ a < 2 ^ b := Nat.pow_lt_pow_right (by decide) h
theorem wb_mod (n : Nat) : lN n = lN (n % 2 ^ 64) := wb_inj (by rw [wb_tb, wb_tb]; apply BitVec.eq_of_toNat_eq; rw [BitVec.toNat_ofNat, BitVec.toNat_ofNat, Nat.mod_mod])
theorem wb_shr {n k : Nat} (hn : n < 2 ^ 64) (hk : k < 64) : ((lN n).toUInt64 >>> ((nI k).toInt64.toUInt64 &&& Int64.toUInt64 63)).toInt64 = lN (n / 2 ^ k) := by
  rw [wb_cu k hk]
  apply wb_inj
  apply BitVec.eq_of_toNat_eq
  show ((lN n).toUInt64 >>> UInt64.ofNat k).toNat = (BitVec.ofNat 64 _).toNat
  have h1 : (UInt64.ofNat k).toNat = k := by
    show (BitVec.ofNat 64 k).toNat = k
    rw [BitVec.toNat_ofNat, Nat.mod_eq_of_lt (by omega)]
  have h2 : (lN n).toUInt64.toNat = n := wb_tn hn
  rw [UInt64.toNat_shiftRight, h1, h2, Nat.mod_eq_of_lt hk, Nat.shiftRight_eq_div_pow, BitVec.toNat_ofNat, Nat.mod_eq_of_lt (Nat.lt_of_le_of_lt (Nat.div_le_self _ _) hn)]
def zb (v : Int64) (k : Nat) : Nat := v.toBitVec.toNat / 2 ^ (8 * k) % 256
theorem zb_lt (v : Int64) (k : Nat) : zb v k < 256 := Nat.mod_lt _ (by decide)
theorem zb_low (m : Nat) : (nI m).toInt8.toInt32 = sb_b (m % 256) := by
  have h : (nI m).toInt8 = (nI (m % 256)).toInt8 := by
    apply Int8.toBitVec_inj.mp
    show (BitVec.ofNat 32 m).signExtend 8 = (BitVec.ofNat 32 (m % 256)).signExtend 8
    rw [BitVec.signExtend_eq_setWidth_of_le _ (by decide), BitVec.signExtend_eq_setWidth_of_le _ (by decide)]
    apply BitVec.eq_of_toNat_eq
    rw [BitVec.toNat_setWidth, BitVec.toNat_setWidth, BitVec.toNat_ofNat, BitVec.toNat_ofNat]
    omega
  rw [sb_b, h]
theorem zb_ushr (v : Int64) {k : Nat} (hk : k ≤ 7) : (((v.toUInt64 >>> ((8 * nI k).toInt64.toUInt64 &&& Int64.toUInt64 63)).toInt64).toInt32).toInt8.toInt32 = sb_b (zb v k) := by
  obtain ⟨n, hn, rfl⟩ := wb_of v
  rw [show (8 : Int32) * nI k = nI (8 * k) from pk_mul 8 k, wb_shr hn (by omega), lN_i, zb_low, zb, wb_tn hn]
def zt_apb (len : Nat) (n : Int32) : Bool := if n < 1 then false else if 8 < n then false else if n ≤ 8192 - nI len then true else false
def zt_apl (len : Nat) (n : Int32) : Nat := if zt_apb len n = true then len + n.toNatClampNeg else len
def zt_apx (tx : Nat → Nat) (len : Nat) (v : Int64) (n : Int32) : Nat → Nat := if zt_apb len n = true then sb_cat tx len (fun i => zb v (n.toNatClampNeg - 1 - i)) else tx
def zt_apc (cap len : Nat) (n : Int32) : Nat := if zt_apb len n = true ∧ cap < len + n.toNatClampNeg then 2 * cap else cap
theorem zt_apk {len : Nat} {n : Int32} (hl : len ≤ 8192) (c1 : ¬ n < 1) (c2 : ¬ 8 < n) (c3 : n ≤ 8192 - nI len) : ∃ k : Nat, 1 ≤ k ∧ k ≤ 8 ∧ len + k ≤ 8192 ∧ n = nI k ∧ n.toNatClampNeg = k := by
  obtain ⟨k, hk, rfl⟩ := nI_of (x := n) (fun q => c1 (Int32.lt_trans q (by decide)))
  have h1 : 1 ≤ k := by
    rcases Nat.lt_or_ge k 1 with q | q
    · exact absurd (nI_lt (b := 1) q (by decide)) c1
    · exact q
  have h2 : k ≤ 8 := by
    rcases Nat.lt_or_ge 8 k with q | q
    · exact absurd (nI_lt (a := 8) q hk) c2
    · exact q
  rw [show (8192 : Int32) - nI len = nI (8192 - len) from pk_sub (a := 8192) hl] at c3
  have h3 := (nI_leI (by omega) (by omega)).mp c3
  exact ⟨k, h1, h2, by omega, rfl, nI_clamp (by omega)⟩

set_option maxHeartbeats 4000000 in
set_option maxRecDepth 100000 in
theorem zt_apll {p : Program} {l : Launch} {e : Env} {s : State} {m : MethodId} {args : Array Value} {below : List Frame} {meth : Method} {c : Code} {A : Nat → Prop} {wc0 : va_W} {Y : zz_Y} {sz h cap0 len0 next place : Nat} {token word value : Int32} {name v : Int64} {n : Int32} {tx : Nat → Nat} {cells slots : Nat} {cap k hb0 : Nat} (hsz : s.heap.size = sz) (hk : 1 ≤ k ∧ k ≤ 8 ∧ len0 + k ≤ 8192) (hn : n.toNatClampNeg = k) (hb2 : zt_apb len0 n = true) (hc : zt_apc cap0 len0 n = cap) (hcap : 64 ≤ cap ∧ cap ≤ 16384 ∧ len0 + k ≤ cap) (hc1 : cells ≤ zt_apc cap0 len0 n - cap0) (hc2 : slots ≤ 2 * (zt_apc cap0 len0 n - cap0)) (C0 : zz_At p s m args meth c Y yn_T_append bc_T_append 5 (some .boolean) wc0 A) :
    ∀ (j : Nat) (x4 : Int32) (fB : Nat → Int32) (H : Heap) (locs : List Loc) (ls : Array Slot), j ≤ k → x4 = nI j - 1 → sb_Lat (sb_cat tx len0 (fun i => zb v (k - 1 - i))) (len0 + (k - j)) fB → sb_Fit fB → va_P Y.1 vwCl [(h, .inr (2, [.ref hb0, .int (nI (len0 + (k - j))), .int (nI next), .int token, .int (nI place), .long name, .int word, .int value])), (hb0, .inl (Y.2.1.1, cap, .inl fB))] H → va_D A [(h, .inr (2, [.ref hb0, .int (nI (len0 + (k - j))), .int (nI next), .int token, .int (nI place), .long name, .int word, .int value])), (hb0, .inl (Y.2.1.1, cap, .inl fB))] → va_S A s.heap H locs → lv_has ls 5 [(4, .int x4), (0, .ref h), (1, .long v)] → W p l e (headSpec (zz_ws yn_T_append bc_T_append 5 (some .boolean)) { frames := 2, cells := zt_apc cap0 len0 n - cap0, slots := 2 * (zt_apc cap0 len0 n - cap0), locals := 82 }).room s m args below meth c H locs cells slots (MQ below (va_Qi (fun r w1 => r = zz_b (zt_apb len0 n) ∧ zt_OK Y h (zt_apx tx len0 v n) (zt_apc cap0 len0 n) (zt_apl len0 n) next token place name word value w1) (zz_E Y wc0 sz) (va_A wc0 sz)) args s (zt_apc cap0 len0 n - cap0) (2 * (zt_apc cap0 len0 n - cap0)) (va_A wc0 sz)) (F0 m 62 ls []) := by
  subst hsz
  obtain ⟨hx, hb, hr, hml, hlocks, hin, hown, hw, hAe, hA, hK, hG, -, -, -⟩ := id C0
  have hown : s.vm.findClass "TwoLevelParser$Text" = some m.cls := hown
  intro j
  induction j with
  | zero =>
    intro x4 fB H locs ls hj hx4 hlat hfit hP hD hS hl
    have e4 : x4 = -1 := by rw [hx4]; rfl
    subst e4
    refine lv_iload hx hb dc_T_append_62 (lv_at hl 0 rfl) ?_
    refine lv_if_lt (tgt := 101) hx hb dc_T_append_64 (by decide) (fun _ => ?_) (fun c9 => absurd c9 (by decide))
    refine lv_iconst (v := 1) hx hb dc_T_append_101 (by decide) ?_
    exact zz_iret (w1 := [(h, .inr (2, [.ref hb0, .int (nI (len0 + (k - 0))), .int (nI next), .int token, .int (nI place), .long name, .int word, .int value])), (hb0, .inl (Y.2.1.1, cap, .inl fB))]) hx hb hr rfl hlocks hAe hP hD hS [0, 1] rfl (by decide) ⟨by rw [hb2]; rfl, hb0, fB, by rw [hc, zt_apl, if_pos hb2, hn, Nat.sub_zero], by rw [hc, zt_apl, if_pos hb2, zt_apx, if_pos hb2, hn]; exact ⟨hcap.1, hcap.2.2, hk.2.2, hcap.2.1, by rw [Nat.sub_zero] at hlat; exact hlat, hfit⟩⟩ hc1 hc2 dc_T_append_102
  | succ j ih =>
    intro x4 fB H locs ls hj hx4 hlat hfit hP hD hS hl
    have e4 : x4 = nI j := by rw [hx4]; exact nI_pred j
    subst e4
    have eq1 : k - (j + 1) + 1 = k - j := by omega
    refine lv_iload hx hb dc_T_append_62 (lv_at hl 0 rfl) ?_
    refine lv_if_lt (tgt := 101) hx hb dc_T_append_64 (by decide) (fun c9 => absurd c9 (nI_pos (by omega))) (fun _ => ?_)
    refine lv_aload_n hx hb dc_T_append_67 rfl (lv_at hl 1 rfl) ?_
    refine va_get (D := Y.1) (ci := 2) (v := .ref hb0) (C := rn_T) (T := tf_T) (N := 8) hx hb hw wi_T hown hK hP 0 rfl rfl 0 (by decide) (hw _ kw_92) (fun _ h9 => h9) rfl dc_T_append_68 ?_
    refine lv_aload_n hx hb dc_T_append_71 rfl (lv_at hl 1 rfl) ?_
    refine va_get (D := Y.1) (ci := 2) (v := .int (nI (len0 + (k - (j + 1))))) (C := rn_T) (T := tf_T) (N := 8) hx hb hw wi_T hown hK hP 0 rfl rfl 1 (by decide) (hw _ kw_93) (fun _ h9 => h9) rfl dc_T_append_72 ?_
    refine lv_lload_n hx hb dc_T_append_75 rfl (lv_at hl 2 rfl) ?_
    refine lv_bipush (v := 8) hx hb dc_T_append_76 (by decide) ?_
    refine lv_iload hx hb dc_T_append_78 (lv_at hl 0 rfl) ?_
    refine lv_imul hx hb dc_T_append_80 ?_
    refine lv_lushr (v := (v.toUInt64 >>> ((8 * (nI j)).toInt64.toUInt64 &&& Int64.toUInt64 63)).toInt64) hx hb dc_T_append_81 rfl ?_
    refine lv_l2i (v := ((v.toUInt64 >>> ((8 * (nI j)).toInt64.toUInt64 &&& Int64.toUInt64 63)).toInt64).toInt32) hx hb dc_T_append_82 rfl ?_
    refine lv_i2b (v := (((v.toUInt64 >>> ((8 * (nI j)).toInt64.toUInt64 &&& Int64.toUInt64 63)).toInt64).toInt32).toInt8.toInt32) hx hb dc_T_append_83 rfl ?_
    rw [show (((v.toUInt64 >>> ((8 * (nI j)).toInt64.toUInt64 &&& Int64.toUInt64 63)).toInt64).toInt32).toInt8.toInt32 = sb_b (zb v j) from zb_ushr v (by omega)]
    refine va_bast (D := Y.1) hx hb hK hP hD hS 1 0 rfl rfl (vp_in_nI (by omega) (by omega)) dc_T_append_84 (fun H locs hP hD hS => ?_)
    have hP : va_P Y.1 vwCl [(h, .inr (2, [.ref hb0, .int (nI (len0 + (k - (j + 1)))), .int (nI next), .int token, .int (nI place), .long name, .int word, .int value])), (hb0, .inl (Y.2.1.1, cap, .inl (upd fB (nI (len0 + (k - (j + 1)))).toNatClampNeg (vp_nar .byte (sb_b (zb v j))))))] H := hP
    have hD : va_D A [(h, .inr (2, [.ref hb0, .int (nI (len0 + (k - (j + 1)))), .int (nI next), .int token, .int (nI place), .long name, .int word, .int value])), (hb0, .inl (Y.2.1.1, cap, .inl (upd fB (nI (len0 + (k - (j + 1)))).toNatClampNeg (vp_nar .byte (sb_b (zb v j))))))] := hD
    rw [nI_clamp (by omega), show vp_nar .byte (sb_b (zb v j)) = sb_b (zb v j) from pk_vb _] at hP hD
    have hP : va_P Y.1 vwCl [(h, .inr (2, [.ref hb0, .int (nI (len0 + (k - (j + 1)))), .int (nI next), .int token, .int (nI place), .long name, .int word, .int value])), (hb0, .inl (Y.2.1.1, cap, .inl (upd fB (len0 + (k - (j + 1))) (sb_b (zb v j)))))] H := hP
    have hD : va_D A [(h, .inr (2, [.ref hb0, .int (nI (len0 + (k - (j + 1)))), .int (nI next), .int token, .int (nI place), .long name, .int word, .int value])), (hb0, .inl (Y.2.1.1, cap, .inl (upd fB (len0 + (k - (j + 1))) (sb_b (zb v j)))))] := hD
    refine lv_aload_n hx hb dc_T_append_85 rfl (lv_at hl 1 rfl) ?_
    refine lv_dup hx hb dc_T_append_86 rfl ?_
    refine va_get (D := Y.1) (ci := 2) (v := .int (nI (len0 + (k - (j + 1))))) (C := rn_T) (T := tf_T) (N := 8) hx hb hw wi_T hown hK hP 0 rfl rfl 1 (by decide) (hw _ kw_93) (fun _ h9 => h9) rfl dc_T_append_87 ?_
    refine lv_iconst (v := 1) hx hb dc_T_append_90 (by decide) ?_
    refine lv_iadd hx hb dc_T_append_91 ?_
    rw [show (nI (len0 + (k - (j + 1)))) + 1 = nI (len0 + (k - j)) from by rw [nI_1, Nat.add_assoc, eq1]]
    refine va_put (D := Y.1) (ci := 2) (v := .int (nI (len0 + (k - j)))) (ty := .int) (C := rn_T) (T := tf_T) (N := 8) hx hb hw wi_T ty_T ty_T_ok nm_T hown hK hP hD hS 0 rfl rfl 1 (by decide) (hw _ kw_93) (fun _ h9 => h9) rfl (by decide +kernel) rfl rfl (Nat.le_of_ble_eq_true rfl) dc_T_append_92 (fun H locs hP hD hS => ?_)
    have hP : va_P Y.1 vwCl [(h, .inr (2, [.ref hb0, .int (nI (len0 + (k - j))), .int (nI next), .int token, .int (nI place), .long name, .int word, .int value])), (hb0, .inl (Y.2.1.1, cap, .inl (upd fB (len0 + (k - (j + 1))) (sb_b (zb v j)))))] H := hP
    have hD : va_D A [(h, .inr (2, [.ref hb0, .int (nI (len0 + (k - j))), .int (nI next), .int token, .int (nI place), .long name, .int word, .int value])), (hb0, .inl (Y.2.1.1, cap, .inl (upd fB (len0 + (k - (j + 1))) (sb_b (zb v j)))))] := hD
    refine lv_iinc (v := (nI j - 1)) (lv' := [(4, .int (nI j - 1)), (0, .ref h), (1, .long v)]) hx hb dc_T_append_95 hl (k := 0) rfl (by rw [Int32.sub_eq_add_neg, show Int32.ofInt (-1) = -1 by decide]) (by decide) rfl (fun ls hl => ?_)
    refine lv_goto (tgt := 62) hx hb dc_T_append_98 (by decide) ?_
    refine ih _ _ _ _ _ (by omega) rfl ?_ (sb_fitU hfit (sb_fitB _)) hP hD hS (lv_sub hl [0, 1, 2] rfl)
    intro i hi
    by_cases e : i = len0 + (k - (j + 1))
    · subst e
      rw [pk_us, sb_cat_hi, show k - 1 - (k - (j + 1)) = j by omega]
      exact ⟨zb_lt _ _, rfl⟩
    · rw [pk_un e]
      exact hlat i (by omega)

set_option maxHeartbeats 4000000 in
set_option maxRecDepth 100000 in
theorem ct_T_append (l : Launch) (Y : zz_Y) {h cap0 len0 next place : Nat} {token word value : Int32} {name : Int64} {tx : Nat → Nat} {wc : va_W} (hok : zt_OK Y h tx cap0 len0 next token place name word value wc) (v : Int64) (n : Int32) : zz_I l Y yn_T_append bc_T_append 5 (some .boolean) { frames := 2, cells := zt_apc cap0 len0 n - cap0, slots := 2 * (zt_apc cap0 len0 n - cap0), locals := 82 } [.ref h, .long v, .int n] wc (fun r w1 => r = zz_b (zt_apb len0 n) ∧ zt_OK Y h (zt_apx tx len0 v n) (zt_apc cap0 len0 n) (zt_apl len0 n) next token place name word value w1) := by
  intro sz
  obtain ⟨hb0, fB, rfl, ok⟩ := hok
  refine zz_of (cc := bc_T_append) (maxL := 5) (ret := (some .boolean)) (by decide) (Nat.le_of_ble_eq_true rfl) ?_
  intro p e s m below meth c A ls hsz C0 hl
  obtain ⟨hx, hb, hr, hml, hlocks, hin, hown, hw, hAe, hA, hK, hG, hP, hD, hS⟩ := id C0
  have hown : s.vm.findClass "TwoLevelParser$Text" = some m.cls := hown
  have hl : lv_has ls 5 [(0, .ref h), (1, .long v), (3, .int n)] := hl
  obtain ⟨q1, q2, q3, q4, q5, q6⟩ := id ok
  refine lv_iload_n hx hb dc_T_append_0 rfl (lv_at hl 2 rfl) ?_
  refine lv_iconst (v := 1) hx hb dc_T_append_1 (by decide) ?_
  refine lv_icmp_lt (tgt := 23) hx hb dc_T_append_2 (by decide) (fun c_1 => ?_) (fun c_1 => ?_)
  · skip
    refine lv_iconst (v := 0) hx hb dc_T_append_23 (by decide) ?_
    have eb : zt_apb len0 n = false := by rw [zt_apb, if_pos c_1]
    have nb : ¬ zt_apb len0 n = true := by rw [eb]; exact Bool.false_ne_true
    subst hsz
    exact zz_iret (w1 := [(h, .inr (2, [.ref hb0, .int (nI len0), .int (nI next), .int token, .int (nI place), .long name, .int word, .int value])), (hb0, .inl (Y.2.1.1, cap0, .inl fB))]) hx hb hr rfl hlocks hAe hP hD hS [0, 1] rfl (by decide) ⟨by rw [eb]; rfl, hb0, fB, by rw [zt_apc, if_neg (fun q => nb q.1), zt_apl, if_neg nb], by rw [zt_apc, if_neg (fun q => nb q.1), zt_apl, if_neg nb, zt_apx, if_neg nb]; exact ok⟩ (Nat.zero_le _) (Nat.zero_le _) dc_T_append_24
  · skip
    refine lv_iload_n hx hb dc_T_append_5 rfl (lv_at hl 2 rfl) ?_
    refine lv_bipush (v := 8) hx hb dc_T_append_6 (by decide) ?_
    refine lv_icmp_gt (tgt := 23) hx hb dc_T_append_8 (by decide) (fun c_2 => ?_) (fun c_2 => ?_)
    · skip
      refine lv_iconst (v := 0) hx hb dc_T_append_23 (by decide) ?_
      have eb : zt_apb len0 n = false := by rw [zt_apb, if_neg c_1, if_pos c_2]
      have nb : ¬ zt_apb len0 n = true := by rw [eb]; exact Bool.false_ne_true
      subst hsz
      exact zz_iret (w1 := [(h, .inr (2, [.ref hb0, .int (nI len0), .int (nI next), .int token, .int (nI place), .long name, .int word, .int value])), (hb0, .inl (Y.2.1.1, cap0, .inl fB))]) hx hb hr rfl hlocks hAe hP hD hS [0, 1] rfl (by decide) ⟨by rw [eb]; rfl, hb0, fB, by rw [zt_apc, if_neg (fun q => nb q.1), zt_apl, if_neg nb], by rw [zt_apc, if_neg (fun q => nb q.1), zt_apl, if_neg nb, zt_apx, if_neg nb]; exact ok⟩ (Nat.zero_le _) (Nat.zero_le _) dc_T_append_24
    · skip
      refine lv_iload_n hx hb dc_T_append_11 rfl (lv_at hl 2 rfl) ?_
      refine lv_sipush (v := 8192) hx hb dc_T_append_12 (by decide) ?_
      refine lv_aload_n hx hb dc_T_append_15 rfl (lv_at hl 0 rfl) ?_
      refine va_get (D := Y.1) (ci := 2) (v := .int (nI len0)) (C := rn_T) (T := tf_T) (N := 8) hx hb hw wi_T hown hK hP 0 rfl rfl 1 (by decide) (hw _ kw_93) (fun _ h9 => h9) rfl dc_T_append_16 ?_
      refine lv_isub hx hb dc_T_append_19 ?_
      refine lv_icmp_le (tgt := 25) hx hb dc_T_append_20 (by decide) (fun c_3 => ?_) (fun c_3 => ?_)
      · skip
        obtain ⟨k, hk1, hk2, hk3, ek, hn⟩ := zt_apk q3 c_1 c_2 c_3
        have eb : zt_apb len0 n = true := by rw [zt_apb, if_neg c_1, if_neg c_2, if_pos c_3]
        refine lv_aload_n hx hb dc_T_append_25 rfl (lv_at hl 0 rfl) ?_
        refine va_get (D := Y.1) (ci := 2) (v := .int (nI len0)) (C := rn_T) (T := tf_T) (N := 8) hx hb hw wi_T hown hK hP 0 rfl rfl 1 (by decide) (hw _ kw_93) (fun _ h9 => h9) rfl dc_T_append_26 ?_
        refine lv_iload_n hx hb dc_T_append_29 rfl (lv_at hl 2 rfl) ?_
        refine lv_iadd hx hb dc_T_append_30 ?_
        rw [show (nI len0) + n = nI (len0 + k) from by rw [ek]; exact nI_add _ _]
        refine lv_aload_n hx hb dc_T_append_31 rfl (lv_at hl 0 rfl) ?_
        refine va_get (D := Y.1) (ci := 2) (v := .ref hb0) (C := rn_T) (T := tf_T) (N := 8) hx hb hw wi_T hown hK hP 0 rfl rfl 0 (by decide) (hw _ kw_92) (fun _ h9 => h9) rfl dc_T_append_32 ?_
        refine va_alen (D := Y.1) (v := nI cap0) hx hb hK hP 1 0 rfl rfl rfl dc_T_append_35 ?_
        refine lv_icmp_le (tgt := 57) hx hb dc_T_append_36 (by decide) (fun c_4 => ?_) (fun c_4 => ?_)
        · skip
          refine lv_iload_n hx hb dc_T_append_57 rfl (lv_at hl 2 rfl) ?_
          refine lv_iconst (v := 1) hx hb dc_T_append_58 (by decide) ?_
          refine lv_isub hx hb dc_T_append_59 ?_
          refine lv_istore (lv' := [(4, .int (n - 1)), (0, .ref h), (1, .long v), (3, .int n)]) hx hb dc_T_append_60 hl (by decide) rfl (fun ls hl => ?_)
          have hng : len0 + k ≤ cap0 := (nI_leI (by omega) (by omega)).mp c_4
          have hcp : zt_apc cap0 len0 n = cap0 := if_neg (fun q => absurd q.2 (by rw [hn]; omega))
          refine zt_apll (cap := cap0) (k := k) (tx := tx) hsz ⟨hk1, hk2, hk3⟩ hn eb hcp ⟨by omega, by omega, by omega⟩ (Nat.zero_le _) (Nat.zero_le _) C0 k _ _ _ _ _ (Nat.le_refl _) (by rw [ek]) ?_ q6 (by rw [Nat.sub_self]; exact hP) (by rw [Nat.sub_self]; exact hD) hS (lv_sub hl [0, 1, 2] rfl)
          rw [Nat.sub_self]
          intro i hi
          rw [sb_cat_lo (by omega)]
          exact q5 i hi
        · skip
          refine lv_aload_n hx hb dc_T_append_39 rfl (lv_at hl 0 rfl) ?_
          refine lv_aload_n hx hb dc_T_append_40 rfl (lv_at hl 0 rfl) ?_
          refine va_get (D := Y.1) (ci := 2) (v := .ref hb0) (C := rn_T) (T := tf_T) (N := 8) hx hb hw wi_T hown hK hP 0 rfl rfl 0 (by decide) (hw _ kw_92) (fun _ h9 => h9) rfl dc_T_append_41 ?_
          refine lv_iconst (v := 2) hx hb dc_T_append_44 (by decide) ?_
          refine lv_aload_n hx hb dc_T_append_45 rfl (lv_at hl 0 rfl) ?_
          refine va_get (D := Y.1) (ci := 2) (v := .ref hb0) (C := rn_T) (T := tf_T) (N := 8) hx hb hw wi_T hown hK hP 0 rfl rfl 0 (by decide) (hw _ kw_92) (fun _ h9 => h9) rfl dc_T_append_46 ?_
          refine va_alen (D := Y.1) (v := nI cap0) hx hb hK hP 1 0 rfl rfl rfl dc_T_append_49 ?_
          refine lv_imul hx hb dc_T_append_50 ?_
          rw [show 2 * (nI cap0) = nI (2 * cap0) from pk_mul 2 _]
          have hgr : cap0 < len0 + k := by rcases Nat.lt_or_ge cap0 (len0 + k) with q | q; exact q; exact absurd (nI_le q (by omega)) c_4
          have hcp : zt_apc cap0 len0 n = 2 * cap0 := if_pos ⟨eb, by rw [hn]; exact hgr⟩
          refine zz_goR (wc := [(hb0, .inl (Y.2.1.1, cap0, .inl fB))]) (wr := [(h, .inr (2, [.ref hb0, .int (nI len0), .int (nI next), .int token, .int (nI place), .long name, .int word, .int value]))]) (va_runS (As := [.ref hb0, .int (nI (2 * cap0))]) (rest := [.ref h]) ⟨hx, hb, hml, hown, hw⟩ (ct_Ja_copyOf_bIb l Y hb0 cap0 (2 * cap0) fB (by omega) (by omega) q6 _) (va_cwS 2 hw (zz_gS kw_195 kw_196 kw_66 kw_197) rfl rfl rfl (by decide +kernel) ⟨Nat.le_of_ble_eq_true rfl, Nat.le_of_ble_eq_true rfl⟩) (zz_preS hK hG hA hP hD hS [1] rfl (by decide)) rfl rfl hl.1 rfl (lv_room (Nat.le_of_ble_eq_true rfl)) dc_T_append_51 ⟨by show 0 + 1 ≤ zt_apc cap0 len0 n - cap0; omega, by show 0 + 2 * cap0 ≤ 2 * (zt_apc cap0 len0 n - cap0); omega⟩) hA hP hD hS [1] [0] rfl rfl (by decide) (by decide) (fun e1 w1 H locs hw1 hP hD hS => ?_)
          subst hw1
          refine W.widen (k := 1) (n := 2 * cap0) (Nat.le_of_eq (Nat.zero_add _)) (Nat.le_of_eq (Nat.zero_add _)) ?_
          have hP : va_P Y.1 vwCl [(h, .inr (2, [.ref hb0, .int (nI len0), .int (nI next), .int token, .int (nI place), .long name, .int word, .int value])), (hb0, .inl (Y.2.1.1, cap0, .inl fB)), (e1, .inl (Y.2.1.1, 2 * cap0, .inl (va_cpy fB (fun _ => 0) 0 0 cap0)))] H := hP
          have hD : va_D A [(h, .inr (2, [.ref hb0, .int (nI len0), .int (nI next), .int token, .int (nI place), .long name, .int word, .int value])), (hb0, .inl (Y.2.1.1, cap0, .inl fB)), (e1, .inl (Y.2.1.1, 2 * cap0, .inl (va_cpy fB (fun _ => 0) 0 0 cap0)))] := hD
          refine va_put (D := Y.1) (ci := 2) (v := .ref e1) (ty := .array .byte) (C := rn_T) (T := tf_T) (N := 8) hx hb hw wi_T ty_T ty_T_ok nm_T hown hK hP hD hS 0 rfl rfl 0 (by decide) (hw _ kw_92) (fun _ h9 => h9) rfl (by decide +kernel) rfl rfl (Nat.le_of_ble_eq_true rfl) dc_T_append_54 (fun H locs hP hD hS => ?_)
          have hP : va_P Y.1 vwCl [(h, .inr (2, [.ref e1, .int (nI len0), .int (nI next), .int token, .int (nI place), .long name, .int word, .int value])), (hb0, .inl (Y.2.1.1, cap0, .inl fB)), (e1, .inl (Y.2.1.1, 2 * cap0, .inl (va_cpy fB (fun _ => 0) 0 0 cap0)))] H := hP
          have hD : va_D A [(h, .inr (2, [.ref e1, .int (nI len0), .int (nI next), .int token, .int (nI place), .long name, .int word, .int value])), (hb0, .inl (Y.2.1.1, cap0, .inl fB)), (e1, .inl (Y.2.1.1, 2 * cap0, .inl (va_cpy fB (fun _ => 0) 0 0 cap0)))] := hD
          refine lv_iload_n hx hb dc_T_append_57 rfl (lv_at hl 2 rfl) ?_
          refine lv_iconst (v := 1) hx hb dc_T_append_58 (by decide) ?_
          refine lv_isub hx hb dc_T_append_59 ?_
          refine lv_istore (lv' := [(4, .int (n - 1)), (0, .ref h), (1, .long v), (3, .int n)]) hx hb dc_T_append_60 hl (by decide) rfl (fun ls hl => ?_)
          have hP := hP.sub (ws' := [(h, .inr (2, [.ref e1, .int (nI len0), .int (nI next), .int token, .int (nI place), .long name, .int word, .int value])), (e1, .inl (Y.2.1.1, 2 * cap0, .inl (va_cpy fB (fun _ => 0) 0 0 cap0)))]) [0, 2] rfl
          have hD := hD.sub (ws' := [(h, .inr (2, [.ref e1, .int (nI len0), .int (nI next), .int token, .int (nI place), .long name, .int word, .int value])), (e1, .inl (Y.2.1.1, 2 * cap0, .inl (va_cpy fB (fun _ => 0) 0 0 cap0)))]) [0, 2] (by decide) rfl
          refine zt_apll (cap := 2 * cap0) (k := k) (tx := tx) hsz ⟨hk1, hk2, hk3⟩ hn eb hcp ⟨by omega, by omega, by omega⟩ (by rw [hcp]; omega) (by rw [hcp]; omega) C0 k _ _ _ _ _ (Nat.le_refl _) (by rw [ek]) ?_ (sb_fitC q6 sb_fit0) (by rw [Nat.sub_self]; exact hP) (by rw [Nat.sub_self]; exact hD) hS (lv_sub hl [0, 1, 2] rfl)
          rw [Nat.sub_self]
          intro i hi
          rw [sb_cpy0 (by omega), sb_cat_lo (by omega)]
          exact q5 i hi
      · skip
        refine lv_iconst (v := 0) hx hb dc_T_append_23 (by decide) ?_
        have eb : zt_apb len0 n = false := by rw [zt_apb, if_neg c_1, if_neg c_2, if_neg c_3]
        have nb : ¬ zt_apb len0 n = true := by rw [eb]; exact Bool.false_ne_true
        subst hsz
        exact zz_iret (w1 := [(h, .inr (2, [.ref hb0, .int (nI len0), .int (nI next), .int token, .int (nI place), .long name, .int word, .int value])), (hb0, .inl (Y.2.1.1, cap0, .inl fB))]) hx hb hr rfl hlocks hAe hP hD hS [0, 1] rfl (by decide) ⟨by rw [eb]; rfl, hb0, fB, by rw [zt_apc, if_neg (fun q => nb q.1), zt_apl, if_neg nb], by rw [zt_apc, if_neg (fun q => nb q.1), zt_apl, if_neg nb, zt_apx, if_neg nb]; exact ok⟩ (Nat.zero_le _) (Nat.zero_le _) dc_T_append_24
