/-! TEXT: the scanning of a token -/
def zt_nmF (tx : Nat → Nat) (len : Nat) : Nat → Nat → Int64 → Bool × Int64
  | 0, _, a => (true, a)
  | n + 1, i, a => if zt_letter (zt_at tx len i) = true then zt_nmF tx len n (i + 1) (a * 32 + (zt_at tx len i - 97 + 1).toInt64) else (false, a)
def zt_nmE (word : Int32) : Bool × Int64 → Bool × Int64 × Int32
  | (true, a) => (true, a, zt_word a)
  | (false, a) => (false, a, word)
def zt_nm (tx : Nat → Nat) (len next place : Nat) (name : Int64) (word : Int32) : Bool × Int64 × Int32 := if next - place ≤ 12 then zt_nmE word (zt_nmF tx len (next - place) place 0) else (false, name, word)
def zt_nbF (tx : Nat → Nat) (len : Nat) (most : Int64) : Nat → Nat → Int64 → Bool × Int64
  | 0, _, a => (true, a)
  | n + 1, i, a => if zt_digit (zt_at tx len i) = true then (if a * 10 + (zt_at tx len i - 48).toInt64 ≤ most then zt_nbF tx len most n (i + 1) (a * 10 + (zt_at tx len i - 48).toInt64) else (false, a)) else (false, a)
def zt_from (neg : Bool) (place : Nat) : Nat := if neg = true then place + 1 else place
def zt_most (neg : Bool) : Int64 := if neg = true then 2147483648 else 2147483647
def zt_nbE (neg : Bool) (b : Bool) (value : Int32) : Bool × Int64 → Bool × Int32
  | (true, a) => (b, (if neg = true then -a else a).toInt32)
  | (false, _) => (false, value)
def zt_nb (tx : Nat → Nat) (len next place : Nat) (neg : Bool) (value : Int32) : Bool × Int32 := zt_nbE neg (decide (zt_from neg place < next)) value (zt_nbF tx len (zt_most neg) (next - zt_from neg place) (zt_from neg place) 0)
def zt_runF (tx : Nat → Nat) (len : Nat) : Nat → Nat → Nat
  | 0, k => k
  | n + 1, k => if zt_joined (zt_at tx len k) = true then zt_runF tx len n (k + 1) else k
def zt_run (tx : Nat → Nat) (len k : Nat) : Nat := zt_runF tx len (len - k) k
theorem zt_runF_le (tx : Nat → Nat) (len : Nat) : ∀ n k : Nat, k ≤ zt_runF tx len n k ∧ zt_runF tx len n k ≤ k + n := by
  intro n
  induction n with
  | zero => intro k; exact ⟨Nat.le_refl _, Nat.le_refl _⟩
  | succ n ih =>
    intro k
    rw [zt_runF]
    by_cases h : zt_joined (zt_at tx len k) = true
    · rw [if_pos h]
      have := ih (k + 1)
      omega
    · rw [if_neg h]
      omega
def zt_skipF (tx : Nat → Nat) (len : Nat) : Nat → Nat → Nat
  | 0, k => k
  | n + 1, k => if zt_blank (zt_at tx len k) = true then zt_skipF tx len n (k + 1) else k
def zt_skip (tx : Nat → Nat) (len k : Nat) : Nat := zt_skipF tx len (len - k) k
theorem zt_skipF_le (tx : Nat → Nat) (len : Nat) : ∀ n k : Nat, k ≤ zt_skipF tx len n k ∧ zt_skipF tx len n k ≤ k + n := by
  intro n
  induction n with
  | zero => intro k; exact ⟨Nat.le_refl _, Nat.le_refl _⟩
  | succ n ih =>
    intro k
    rw [zt_skipF]
    by_cases h : zt_blank (zt_at tx len k) = true
    · rw [if_pos h]
      have := ih (k + 1)
      omega
    · rw [if_neg h]
      omega
/-- token, next, name, word, value -/
def zt_sj (tx : Nat → Nat) (len place : Nat) (first : Int32) (name : Int64) (word value : Int32) : Int32 × Nat × Int64 × Int32 × Int32 :=
  if zt_letter first = true then (if (zt_nm tx len (zt_run tx len place) place name word).1 = true then 4 else 1, zt_run tx len place, (zt_nm tx len (zt_run tx len place) place name word).2.1, (zt_nm tx len (zt_run tx len place) place name word).2.2, value)
  else (if (zt_nb tx len (zt_run tx len place) place (decide (first = 45)) value).1 = true then 5 else 1, zt_run tx len place, name, word, (zt_nb tx len (zt_run tx len place) place (decide (first = 45)) value).2)
/-- token, next, place, name, word, value -/
def zt_tok (tx : Nat → Nat) (len next : Nat) (name : Int64) (word value : Int32) : Int32 × Nat × Nat × Int64 × Int32 × Int32 :=
  if zt_at tx len (zt_skip tx len next) = -1 then (0, zt_skip tx len next, zt_skip tx len next, name, word, value)
  else if zt_joined (zt_at tx len (zt_skip tx len next)) = true then ((zt_sj tx len (zt_skip tx len next) (zt_at tx len (zt_skip tx len next)) name word value).1, (zt_sj tx len (zt_skip tx len next) (zt_at tx len (zt_skip tx len next)) name word value).2.1, zt_skip tx len next, (zt_sj tx len (zt_skip tx len next) (zt_at tx len (zt_skip tx len next)) name word value).2.2)
  else (if zt_at tx len (zt_skip tx len next) = 40 then 2 else if zt_at tx len (zt_skip tx len next) = 41 then 3 else 1, zt_skip tx len next + 1, zt_skip tx len next, name, word, value)

set_option maxHeartbeats 4000000 in
set_option maxRecDepth 100000 in
theorem zt_snl {p : Program} {l : Launch} {e : Env} {s : State} {m : MethodId} {args : Array Value} {below : List Frame} {meth : Method} {c : Code} {A : Nat → Prop} {wc0 : va_W} {Y : zz_Y} {sz : Nat} {h cap len next place : Nat} {token word value : Int32} {name : Int64} {tx : Nat → Nat} {hb0 : Nat} {fB : Nat → Int32} (hsz : s.heap.size = sz) (ok : zt_ok tx cap len fB) (hn : next ≤ len) (C0 : zz_At p s m args meth c Y yn_T_scansName bc_T_scansName 3 (some .boolean) wc0 A) :
    ∀ (n i : Nat) (a : Int64), i + n = next → zt_nm tx len next place name word = zt_nmE word (zt_nmF tx len n i a) → ∀ (H : Heap) (locs : List Loc) (ls : Array Slot), va_P Y.1 vwCl [(h, .inr (2, [.ref hb0, .int (nI len), .int (nI next), .int token, .int (nI place), .long a, .int word, .int value])), (hb0, .inl (Y.2.1.1, cap, .inl fB))] H → va_D A [(h, .inr (2, [.ref hb0, .int (nI len), .int (nI next), .int token, .int (nI place), .long a, .int word, .int value])), (hb0, .inl (Y.2.1.1, cap, .inl fB))] → va_S A s.heap H locs → lv_has ls 3 [(0, .ref h), (1, .int (nI i))] → W p l e (headSpec (zz_ws yn_T_scansName bc_T_scansName 3 (some .boolean)) { frames := 1, cells := 0, slots := 0, locals := 22 }).room s m args below meth c H locs 0 0 (MQ below (va_Qi (fun r w1 => ∃ (b : Bool) (nm : Int64) (wd : Int32), (b, nm, wd) = zt_nm tx len next place name word ∧ r = zz_b b ∧ zt_OK Y h tx cap len next token place nm wd value w1) (zz_E Y wc0 sz) (va_A wc0 sz)) args s 0 0 (va_A wc0 sz)) (F0 m 26 ls []) := by
  subst hsz
  obtain ⟨hx, hb, hr, hml, hlocks, hin, hown, hw, hAe, hA, hK, hG, -, -, -⟩ := id C0
  have hown : s.vm.findClass "TwoLevelParser$Text" = some m.cls := hown
  obtain ⟨q1, q2, q3, q4, q5, q6⟩ := id ok
  intro n
  induction n with
  | zero =>
    intro i a hi hF H locs ls hP hD hS hl
    refine lv_iload_n hx hb dc_T_scansName_26 rfl (lv_at hl 1 rfl) ?_
    refine lv_aload_n hx hb dc_T_scansName_27 rfl (lv_at hl 0 rfl) ?_
    refine va_get (D := Y.1) (ci := 2) (v := .int (nI next)) (C := rn_T) (T := tf_T) (N := 8) hx hb hw wi_T hown hK hP 0 rfl rfl 2 (by decide) (hw _ kw_94) (fun _ h9 => h9) rfl dc_T_scansName_28 ?_
    refine lv_icmp_ge (tgt := 75) hx hb dc_T_scansName_31 (by decide) (fun _ => ?_) (fun c9 => absurd (nI_le (by omega) (by omega)) c9)
    refine lv_aload_n hx hb dc_T_scansName_75 rfl (lv_at hl 0 rfl) ?_
    refine lv_aload_n hx hb dc_T_scansName_76 rfl (lv_at hl 0 rfl) ?_
    refine va_get (D := Y.1) (ci := 2) (v := .long a) (C := rn_T) (T := tf_T) (N := 8) hx hb hw wi_T hown hK hP 0 rfl rfl 5 (by decide) (hw _ kw_99) (fun _ h9 => h9) rfl dc_T_scansName_77 ?_
    refine vp_callSi (W.runS (As := [.long a]) (rest := [.ref h]) ⟨hx, hb, hml, hown, hw⟩ (ct_T_wordOf l Y a _) (va_cwS 1 hw (zz_gS kw_268 kw_269 kw_62 kw_270) rfl rfl rfl (by decide +kernel) ⟨Nat.le_of_ble_eq_true rfl, Nat.le_of_ble_eq_true rfl⟩) (zz_preS hK hG hA hP hD hS [] rfl (by decide)) rfl rfl hl.1 rfl (lv_room (Nat.le_of_ble_eq_true rfl)) dc_T_scansName_80 ⟨Nat.le_of_ble_eq_true rfl, Nat.le_of_ble_eq_true rfl⟩) (fun r hr9 => ?_)
    subst hr9
    refine va_put (D := Y.1) (ci := 2) (v := .int (zt_word a)) (ty := .int) (C := rn_T) (T := tf_T) (N := 8) hx hb hw wi_T ty_T ty_T_ok nm_T hown hK hP hD hS 0 rfl rfl 6 (by decide) (hw _ kw_101) (fun _ h9 => h9) rfl (by decide +kernel) rfl rfl (Nat.le_of_ble_eq_true rfl) dc_T_scansName_83 (fun H locs hP hD hS => ?_)
    have hP : va_P Y.1 vwCl [(h, .inr (2, [.ref hb0, .int (nI len), .int (nI next), .int token, .int (nI place), .long a, .int (zt_word a), .int value])), (hb0, .inl (Y.2.1.1, cap, .inl fB))] H := hP
    have hD : va_D A [(h, .inr (2, [.ref hb0, .int (nI len), .int (nI next), .int token, .int (nI place), .long a, .int (zt_word a), .int value])), (hb0, .inl (Y.2.1.1, cap, .inl fB))] := hD
    refine lv_iconst (v := 1) hx hb dc_T_scansName_86 (by decide) ?_
    exact zz_iret (w1 := [(h, .inr (2, [.ref hb0, .int (nI len), .int (nI next), .int token, .int (nI place), .long a, .int (zt_word a), .int value])), (hb0, .inl (Y.2.1.1, cap, .inl fB))]) hx hb hr rfl hlocks hAe hP hD hS [0, 1] rfl (by decide) ⟨true, a, zt_word a, by rw [hF]; rfl, rfl, hb0, fB, rfl, ok⟩ (Nat.le_refl _) (Nat.le_refl _) dc_T_scansName_87
  | succ n ih =>
    intro i a hi hF H locs ls hP hD hS hl
    refine lv_iload_n hx hb dc_T_scansName_26 rfl (lv_at hl 1 rfl) ?_
    refine lv_aload_n hx hb dc_T_scansName_27 rfl (lv_at hl 0 rfl) ?_
    refine va_get (D := Y.1) (ci := 2) (v := .int (nI next)) (C := rn_T) (T := tf_T) (N := 8) hx hb hw wi_T hown hK hP 0 rfl rfl 2 (by decide) (hw _ kw_94) (fun _ h9 => h9) rfl dc_T_scansName_28 ?_
    refine lv_icmp_ge (tgt := 75) hx hb dc_T_scansName_31 (by decide) (fun c9 => absurd c9 (nI_ge (by omega) (by omega))) (fun _ => ?_)
    refine lv_aload_n hx hb dc_T_scansName_34 rfl (lv_at hl 0 rfl) ?_
    refine lv_iload_n hx hb dc_T_scansName_35 rfl (lv_at hl 1 rfl) ?_
    refine vp_callSi (W.runV (As := [.int (nI i)]) (rest := []) ⟨hx, hb, hml, hown, hw⟩ (ct_T_byteAt l Y (wc := [(h, .inr (2, [.ref hb0, .int (nI len), .int (nI next), .int token, .int (nI place), .long a, .int word, .int value])), (hb0, .inl (Y.2.1.1, cap, .inl fB))]) ⟨hb0, fB, rfl, ok⟩ i (by omega) _) (cwV 1 hw (zz_gV kw_243 kw_245 kw_1 kw_62 kw_246) rfl rfl rfl (by decide +kernel) ⟨Nat.le_of_ble_eq_true rfl, Nat.le_of_ble_eq_true rfl⟩) (zz_preV hK hG hA hP hD hS [0, 1] rfl (by decide) rfl rfl) rfl rfl hl.1 rfl (lv_room (Nat.le_of_ble_eq_true rfl)) dc_T_scansName_36 ⟨Nat.le_of_ble_eq_true rfl, Nat.le_of_ble_eq_true rfl⟩) (fun r hr9 => ?_)
    subst hr9
    refine lv_istore_n (lv' := [(2, .int (zt_at tx len i)), (0, .ref h), (1, .int (nI i))]) hx hb dc_T_scansName_39 rfl hl (by decide) rfl (fun ls hl => ?_)
    refine lv_iload_n hx hb dc_T_scansName_40 rfl (lv_at hl 0 rfl) ?_
    refine vp_callSi (W.runS (As := [.int (zt_at tx len i)]) (rest := []) ⟨hx, hb, hml, hown, hw⟩ (ct_T_isLetter l Y (zt_at tx len i) _) (va_cwS 1 hw (zz_gS kw_253 kw_254 kw_62 kw_255) rfl rfl rfl (by decide +kernel) ⟨Nat.le_of_ble_eq_true rfl, Nat.le_of_ble_eq_true rfl⟩) (zz_preS hK hG hA hP hD hS [] rfl (by decide)) rfl rfl hl.1 rfl (lv_room (Nat.le_of_ble_eq_true rfl)) dc_T_scansName_41 ⟨Nat.le_of_ble_eq_true rfl, Nat.le_of_ble_eq_true rfl⟩) (fun r hr9 => ?_)
    subst hr9
    refine lv_if_ne (tgt := 49) hx hb dc_T_scansName_44 (by decide) (fun c_1 => ?_) (fun c_1 => ?_)
    · skip
      have c_1 := zz_bT c_1
      refine lv_aload_n hx hb dc_T_scansName_49 rfl (lv_at hl 1 rfl) ?_
      refine lv_aload_n hx hb dc_T_scansName_50 rfl (lv_at hl 1 rfl) ?_
      refine va_get (D := Y.1) (ci := 2) (v := .long a) (C := rn_T) (T := tf_T) (N := 8) hx hb hw wi_T hown hK hP 0 rfl rfl 5 (by decide) (hw _ kw_99) (fun _ h9 => h9) rfl dc_T_scansName_51 ?_
      refine lv_ldc2 (v := 32) hx hb hown (hw _ kw_267) dc_T_scansName_54 ?_
      refine lv_lmul hx hb dc_T_scansName_57 ?_
      refine lv_iload_n hx hb dc_T_scansName_58 rfl (lv_at hl 0 rfl) ?_
      refine lv_bipush (v := 97) hx hb dc_T_scansName_59 (by decide) ?_
      refine lv_isub hx hb dc_T_scansName_61 ?_
      refine lv_iconst (v := 1) hx hb dc_T_scansName_62 (by decide) ?_
      refine lv_iadd hx hb dc_T_scansName_63 ?_
      refine lv_i2l (v := (((zt_at tx len i) - 97) + 1).toInt64) hx hb dc_T_scansName_64 rfl ?_
      refine lv_ladd hx hb dc_T_scansName_65 ?_
      refine va_put (D := Y.1) (ci := 2) (v := .long ((a * 32) + ((((zt_at tx len i) - 97) + 1).toInt64))) (ty := .long) (C := rn_T) (T := tf_T) (N := 8) hx hb hw wi_T ty_T ty_T_ok nm_T hown hK hP hD hS 0 rfl rfl 5 (by decide) (hw _ kw_99) (fun _ h9 => h9) rfl (by decide +kernel) rfl rfl (Nat.le_of_ble_eq_true rfl) dc_T_scansName_66 (fun H locs hP hD hS => ?_)
      have hP : va_P Y.1 vwCl [(h, .inr (2, [.ref hb0, .int (nI len), .int (nI next), .int token, .int (nI place), .long ((a * 32) + ((((zt_at tx len i) - 97) + 1).toInt64)), .int word, .int value])), (hb0, .inl (Y.2.1.1, cap, .inl fB))] H := hP
      have hD : va_D A [(h, .inr (2, [.ref hb0, .int (nI len), .int (nI next), .int token, .int (nI place), .long ((a * 32) + ((((zt_at tx len i) - 97) + 1).toInt64)), .int word, .int value])), (hb0, .inl (Y.2.1.1, cap, .inl fB))] := hD
      refine lv_iinc (v := (nI (i + 1))) (lv' := [(1, .int (nI (i + 1))), (2, .int (zt_at tx len i)), (0, .ref h)]) hx hb dc_T_scansName_69 hl (k := 2) rfl (nI_1 i) (by decide) rfl (fun ls hl => ?_)
      refine lv_goto (tgt := 26) hx hb dc_T_scansName_72 (by decide) ?_
      exact ih (i + 1) _ (by omega) (by rw [hF, zt_nmF, if_pos c_1]) _ _ _ hP hD hS (lv_sub hl [2, 0] rfl)
    · skip
      have c_1 := zz_bF c_1
      refine lv_iconst (v := 0) hx hb dc_T_scansName_47 (by decide) ?_
      exact zz_iret (w1 := [(h, .inr (2, [.ref hb0, .int (nI len), .int (nI next), .int token, .int (nI place), .long a, .int word, .int value])), (hb0, .inl (Y.2.1.1, cap, .inl fB))]) hx hb hr rfl hlocks hAe hP hD hS [0, 1] rfl (by decide) ⟨false, a, word, by rw [hF, zt_nmF, if_neg c_1]; rfl, rfl, hb0, fB, rfl, ok⟩ (Nat.le_refl _) (Nat.le_refl _) dc_T_scansName_48

set_option maxHeartbeats 4000000 in
set_option maxRecDepth 100000 in
theorem ct_T_scansName (l : Launch) (Y : zz_Y) {h cap len next place : Nat} {token word value : Int32} {name : Int64} {tx : Nat → Nat} {wc : va_W} (hok : zt_OK Y h tx cap len next token place name word value wc) (hpn : place ≤ next) (hn : next ≤ len) : zz_I l Y yn_T_scansName bc_T_scansName 3 (some .boolean) { frames := 1, cells := 0, slots := 0, locals := 22 } [.ref h] wc (fun r w1 => ∃ (b : Bool) (nm : Int64) (wd : Int32), (b, nm, wd) = zt_nm tx len next place name word ∧ r = zz_b b ∧ zt_OK Y h tx cap len next token place nm wd value w1) := by
  intro sz
  obtain ⟨hb0, fB, rfl, ok⟩ := hok
  refine zz_of (cc := bc_T_scansName) (maxL := 3) (ret := (some .boolean)) (by decide) (Nat.le_of_ble_eq_true rfl) ?_
  intro p e s m below meth c A ls hsz C0 hl
  subst hsz
  obtain ⟨hx, hb, hr, hml, hlocks, hin, hown, hw, hAe, hA, hK, hG, hP, hD, hS⟩ := id C0
  have hown : s.vm.findClass "TwoLevelParser$Text" = some m.cls := hown
  have hl : lv_has ls 3 [(0, .ref h)] := hl
  obtain ⟨q1, q2, q3, q4, q5, q6⟩ := id ok
  refine lv_aload_n hx hb dc_T_scansName_0 rfl (lv_at hl 0 rfl) ?_
  refine va_get (D := Y.1) (ci := 2) (v := .int (nI next)) (C := rn_T) (T := tf_T) (N := 8) hx hb hw wi_T hown hK hP 0 rfl rfl 2 (by decide) (hw _ kw_94) (fun _ h9 => h9) rfl dc_T_scansName_1 ?_
  refine lv_aload_n hx hb dc_T_scansName_4 rfl (lv_at hl 0 rfl) ?_
  refine va_get (D := Y.1) (ci := 2) (v := .int (nI place)) (C := rn_T) (T := tf_T) (N := 8) hx hb hw wi_T hown hK hP 0 rfl rfl 4 (by decide) (hw _ kw_97) (fun _ h9 => h9) rfl dc_T_scansName_5 ?_
  refine lv_isub hx hb dc_T_scansName_8 ?_
  rw [show (nI next) - (nI place) = nI (next - place) from pk_sub hpn]
  refine lv_bipush (v := 12) hx hb dc_T_scansName_9 (by decide) ?_
  refine lv_icmp_le (tgt := 16) hx hb dc_T_scansName_11 (by decide) (fun c_1 => ?_) (fun c_1 => ?_)
  · skip
    refine lv_aload_n hx hb dc_T_scansName_16 rfl (lv_at hl 0 rfl) ?_
    refine lv_lconst (v := 0) hx hb dc_T_scansName_17 (by decide) ?_
    refine va_put (D := Y.1) (ci := 2) (v := .long 0) (ty := .long) (C := rn_T) (T := tf_T) (N := 8) hx hb hw wi_T ty_T ty_T_ok nm_T hown hK hP hD hS 0 rfl rfl 5 (by decide) (hw _ kw_99) (fun _ h9 => h9) rfl (by decide +kernel) rfl rfl (Nat.le_of_ble_eq_true rfl) dc_T_scansName_18 (fun H locs hP hD hS => ?_)
    have hP : va_P Y.1 vwCl [(h, .inr (2, [.ref hb0, .int (nI len), .int (nI next), .int token, .int (nI place), .long 0, .int word, .int value])), (hb0, .inl (Y.2.1.1, cap, .inl fB))] H := hP
    have hD : va_D A [(h, .inr (2, [.ref hb0, .int (nI len), .int (nI next), .int token, .int (nI place), .long 0, .int word, .int value])), (hb0, .inl (Y.2.1.1, cap, .inl fB))] := hD
    refine lv_aload_n hx hb dc_T_scansName_21 rfl (lv_at hl 0 rfl) ?_
    refine va_get (D := Y.1) (ci := 2) (v := .int (nI place)) (C := rn_T) (T := tf_T) (N := 8) hx hb hw wi_T hown hK hP 0 rfl rfl 4 (by decide) (hw _ kw_97) (fun _ h9 => h9) rfl dc_T_scansName_22 ?_
    refine lv_istore_n (lv' := [(1, .int (nI place)), (0, .ref h)]) hx hb dc_T_scansName_25 rfl hl (by decide) rfl (fun ls hl => ?_)
    exact zt_snl rfl ok hn C0 (next - place) place 0 (by omega) (by rw [zt_nm, if_pos ((nI_leI (b := 12) (by omega) (by omega)).mp c_1)]) _ _ _ hP hD hS (lv_sub hl [1, 0] rfl)
  · skip
    refine lv_iconst (v := 0) hx hb dc_T_scansName_14 (by decide) ?_
    exact zz_iret (w1 := [(h, .inr (2, [.ref hb0, .int (nI len), .int (nI next), .int token, .int (nI place), .long name, .int word, .int value])), (hb0, .inl (Y.2.1.1, cap, .inl fB))]) hx hb hr rfl hlocks hAe hP hD hS [0, 1] rfl (by decide) ⟨false, name, word, by rw [zt_nm, if_neg (fun q => c_1 (nI_le (b := 12) q (by omega)))], rfl, hb0, fB, rfl, ok⟩ (Nat.le_refl _) (Nat.le_refl _) dc_T_scansName_15

set_option maxHeartbeats 4000000 in
set_option maxRecDepth 100000 in
theorem zt_sbl {p : Program} {l : Launch} {e : Env} {s : State} {m : MethodId} {args : Array Value} {below : List Frame} {meth : Method} {c : Code} {A : Nat → Prop} {wc0 : va_W} {Y : zz_Y} {sz : Nat} {h cap len next place : Nat} {token word value : Int32} {name : Int64} {tx : Nat → Nat} {neg : Bool} {hb0 : Nat} {fB : Nat → Int32} (hsz : s.heap.size = sz) (ok : zt_ok tx cap len fB) (hn : next ≤ len) (hpl : place < next) (C0 : zz_At p s m args meth c Y yn_T_scansNumber bc_T_scansNumber 9 (some .boolean) wc0 A) :
    ∀ (n i : Nat) (a : Int64), i + n = next → zt_nb tx len next place neg value = zt_nbE neg (decide (zt_from neg place < next)) value (zt_nbF tx len (zt_most neg) n i a) → ∀ (H : Heap) (locs : List Loc) (ls : Array Slot), va_P Y.1 vwCl [(h, .inr (2, [.ref hb0, .int (nI len), .int (nI next), .int token, .int (nI place), .long name, .int word, .int value])), (hb0, .inl (Y.2.1.1, cap, .inl fB))] H → va_D A [(h, .inr (2, [.ref hb0, .int (nI len), .int (nI next), .int token, .int (nI place), .long name, .int word, .int value])), (hb0, .inl (Y.2.1.1, cap, .inl fB))] → va_S A s.heap H locs → lv_has ls 9 [(0, .ref h), (1, .int (zz_b neg)), (2, .int (nI (zt_from neg place))), (3, .long (zt_most neg)), (5, .long a), (7, .int (nI i))] → W p l e (headSpec (zz_ws yn_T_scansNumber bc_T_scansNumber 9 (some .boolean)) { frames := 1, cells := 0, slots := 0, locals := 21 }).room s m args below meth c H locs 0 0 (MQ below (va_Qi (fun r w1 => ∃ (b : Bool) (vl : Int32), (b, vl) = zt_nb tx len next place neg value ∧ r = zz_b b ∧ zt_OK Y h tx cap len next token place name word vl w1) (zz_E Y wc0 sz) (va_A wc0 sz)) args s 0 0 (va_A wc0 sz)) (F0 m 38 ls []) := by
  subst hsz
  obtain ⟨hx, hb, hr, hml, hlocks, hin, hown, hw, hAe, hA, hK, hG, -, -, -⟩ := id C0
  have hown : s.vm.findClass "TwoLevelParser$Text" = some m.cls := hown
  obtain ⟨q1, q2, q3, q4, q5, q6⟩ := id ok
  have hfr : zt_from neg place ≤ next := by
    rw [zt_from]; split <;> omega
  intro n
  induction n with
  | zero =>
    intro i a hi hF H locs ls hP hD hS hl
    refine lv_iload hx hb dc_T_scansNumber_38 (lv_at hl 5 rfl) ?_
    refine lv_aload_n hx hb dc_T_scansNumber_40 rfl (lv_at hl 0 rfl) ?_
    refine va_get (D := Y.1) (ci := 2) (v := .int (nI next)) (C := rn_T) (T := tf_T) (N := 8) hx hb hw wi_T hown hK hP 0 rfl rfl 2 (by decide) (hw _ kw_94) (fun _ h9 => h9) rfl dc_T_scansNumber_41 ?_
    refine lv_icmp_ge (tgt := 95) hx hb dc_T_scansNumber_44 (by decide) (fun _ => ?_) (fun c9 => absurd (nI_le (by omega) (by omega)) c9)
    refine lv_aload_n hx hb dc_T_scansNumber_95 rfl (lv_at hl 0 rfl) ?_
    refine lv_iload_n hx hb dc_T_scansNumber_96 rfl (lv_at hl 1 rfl) ?_
    refine lv_if_eq (tgt := 106) hx hb dc_T_scansNumber_97 (by decide) (fun c_1 => ?_) (fun c_1 => ?_)
    · skip
      have c_1 := zz_bF c_1
      refine lv_lload hx hb dc_T_scansNumber_106 (lv_at hl 4 rfl) ?_
      refine lv_l2i (v := a.toInt32) hx hb dc_T_scansNumber_108 rfl ?_
      refine va_put (D := Y.1) (ci := 2) (v := .int a.toInt32) (ty := .int) (C := rn_T) (T := tf_T) (N := 8) hx hb hw wi_T ty_T ty_T_ok nm_T hown hK hP hD hS 0 rfl rfl 7 (by decide) (hw _ kw_103) (fun _ h9 => h9) rfl (by decide +kernel) rfl rfl (Nat.le_of_ble_eq_true rfl) dc_T_scansNumber_109 (fun H locs hP hD hS => ?_)
      have hP : va_P Y.1 vwCl [(h, .inr (2, [.ref hb0, .int (nI len), .int (nI next), .int token, .int (nI place), .long name, .int word, .int a.toInt32])), (hb0, .inl (Y.2.1.1, cap, .inl fB))] H := hP
      have hD : va_D A [(h, .inr (2, [.ref hb0, .int (nI len), .int (nI next), .int token, .int (nI place), .long name, .int word, .int a.toInt32])), (hb0, .inl (Y.2.1.1, cap, .inl fB))] := hD
      refine lv_iload_n hx hb dc_T_scansNumber_112 rfl (lv_at hl 2 rfl) ?_
      refine lv_aload_n hx hb dc_T_scansNumber_113 rfl (lv_at hl 0 rfl) ?_
      refine va_get (D := Y.1) (ci := 2) (v := .int (nI next)) (C := rn_T) (T := tf_T) (N := 8) hx hb hw wi_T hown hK hP 0 rfl rfl 2 (by decide) (hw _ kw_94) (fun _ h9 => h9) rfl dc_T_scansNumber_114 ?_
      refine lv_icmp_ge (tgt := 124) hx hb dc_T_scansNumber_117 (by decide) (fun c_2 => ?_) (fun c_2 => ?_)
      · skip
        refine lv_iconst (v := 0) hx hb dc_T_scansNumber_124 (by decide) ?_
        have hq : ¬ zt_from neg place < next := fun q => nI_ge q (by omega) c_2
        exact zz_iret (w1 := [(h, .inr (2, [.ref hb0, .int (nI len), .int (nI next), .int token, .int (nI place), .long name, .int word, .int a.toInt32])), (hb0, .inl (Y.2.1.1, cap, .inl fB))]) hx hb hr rfl hlocks hAe hP hD hS [0, 1] rfl (by decide) ⟨false, _, by rw [hF, zt_nbF, zt_nbE, if_neg c_1, decide_eq_false (hq)], rfl, hb0, fB, rfl, ok⟩ (Nat.le_refl _) (Nat.le_refl _) dc_T_scansNumber_125
      · skip
        refine lv_iconst (v := 1) hx hb dc_T_scansNumber_120 (by decide) ?_
        refine lv_goto (tgt := 125) hx hb dc_T_scansNumber_121 (by decide) ?_
        have hq : zt_from neg place < next := by rcases Nat.lt_or_ge (zt_from neg place) next with q | q; exact q; exact absurd (nI_le q (by omega)) c_2
        exact zz_iret (w1 := [(h, .inr (2, [.ref hb0, .int (nI len), .int (nI next), .int token, .int (nI place), .long name, .int word, .int a.toInt32])), (hb0, .inl (Y.2.1.1, cap, .inl fB))]) hx hb hr rfl hlocks hAe hP hD hS [0, 1] rfl (by decide) ⟨true, _, by rw [hF, zt_nbF, zt_nbE, if_neg c_1, decide_eq_true (hq)], rfl, hb0, fB, rfl, ok⟩ (Nat.le_refl _) (Nat.le_refl _) dc_T_scansNumber_125
    · skip
      have c_1 := zz_bT c_1
      refine lv_lload hx hb dc_T_scansNumber_100 (lv_at hl 4 rfl) ?_
      refine lv_lneg hx hb dc_T_scansNumber_102 ?_
      refine lv_goto (tgt := 108) hx hb dc_T_scansNumber_103 (by decide) ?_
      refine lv_l2i (v := (-a).toInt32) hx hb dc_T_scansNumber_108 rfl ?_
      refine va_put (D := Y.1) (ci := 2) (v := .int ((-a).toInt32)) (ty := .int) (C := rn_T) (T := tf_T) (N := 8) hx hb hw wi_T ty_T ty_T_ok nm_T hown hK hP hD hS 0 rfl rfl 7 (by decide) (hw _ kw_103) (fun _ h9 => h9) rfl (by decide +kernel) rfl rfl (Nat.le_of_ble_eq_true rfl) dc_T_scansNumber_109 (fun H locs hP hD hS => ?_)
      have hP : va_P Y.1 vwCl [(h, .inr (2, [.ref hb0, .int (nI len), .int (nI next), .int token, .int (nI place), .long name, .int word, .int ((-a).toInt32)])), (hb0, .inl (Y.2.1.1, cap, .inl fB))] H := hP
      have hD : va_D A [(h, .inr (2, [.ref hb0, .int (nI len), .int (nI next), .int token, .int (nI place), .long name, .int word, .int ((-a).toInt32)])), (hb0, .inl (Y.2.1.1, cap, .inl fB))] := hD
      refine lv_iload_n hx hb dc_T_scansNumber_112 rfl (lv_at hl 2 rfl) ?_
      refine lv_aload_n hx hb dc_T_scansNumber_113 rfl (lv_at hl 0 rfl) ?_
      refine va_get (D := Y.1) (ci := 2) (v := .int (nI next)) (C := rn_T) (T := tf_T) (N := 8) hx hb hw wi_T hown hK hP 0 rfl rfl 2 (by decide) (hw _ kw_94) (fun _ h9 => h9) rfl dc_T_scansNumber_114 ?_
      refine lv_icmp_ge (tgt := 124) hx hb dc_T_scansNumber_117 (by decide) (fun c_3 => ?_) (fun c_3 => ?_)
      · skip
        refine lv_iconst (v := 0) hx hb dc_T_scansNumber_124 (by decide) ?_
        have hq : ¬ zt_from neg place < next := fun q => nI_ge q (by omega) c_3
        exact zz_iret (w1 := [(h, .inr (2, [.ref hb0, .int (nI len), .int (nI next), .int token, .int (nI place), .long name, .int word, .int ((-a).toInt32)])), (hb0, .inl (Y.2.1.1, cap, .inl fB))]) hx hb hr rfl hlocks hAe hP hD hS [0, 1] rfl (by decide) ⟨false, _, by rw [hF, zt_nbF, zt_nbE, if_pos c_1, decide_eq_false (hq)], rfl, hb0, fB, rfl, ok⟩ (Nat.le_refl _) (Nat.le_refl _) dc_T_scansNumber_125
      · skip
        refine lv_iconst (v := 1) hx hb dc_T_scansNumber_120 (by decide) ?_
        refine lv_goto (tgt := 125) hx hb dc_T_scansNumber_121 (by decide) ?_
        have hq : zt_from neg place < next := by rcases Nat.lt_or_ge (zt_from neg place) next with q | q; exact q; exact absurd (nI_le q (by omega)) c_3
        exact zz_iret (w1 := [(h, .inr (2, [.ref hb0, .int (nI len), .int (nI next), .int token, .int (nI place), .long name, .int word, .int ((-a).toInt32)])), (hb0, .inl (Y.2.1.1, cap, .inl fB))]) hx hb hr rfl hlocks hAe hP hD hS [0, 1] rfl (by decide) ⟨true, _, by rw [hF, zt_nbF, zt_nbE, if_pos c_1, decide_eq_true (hq)], rfl, hb0, fB, rfl, ok⟩ (Nat.le_refl _) (Nat.le_refl _) dc_T_scansNumber_125
  | succ n ih =>
    intro i a hi hF H locs ls hP hD hS hl
    refine lv_iload hx hb dc_T_scansNumber_38 (lv_at hl 5 rfl) ?_
    refine lv_aload_n hx hb dc_T_scansNumber_40 rfl (lv_at hl 0 rfl) ?_
    refine va_get (D := Y.1) (ci := 2) (v := .int (nI next)) (C := rn_T) (T := tf_T) (N := 8) hx hb hw wi_T hown hK hP 0 rfl rfl 2 (by decide) (hw _ kw_94) (fun _ h9 => h9) rfl dc_T_scansNumber_41 ?_
    refine lv_icmp_ge (tgt := 95) hx hb dc_T_scansNumber_44 (by decide) (fun c9 => absurd c9 (nI_ge (by omega) (by omega))) (fun _ => ?_)
    refine lv_aload_n hx hb dc_T_scansNumber_47 rfl (lv_at hl 0 rfl) ?_
    refine lv_iload hx hb dc_T_scansNumber_48 (lv_at hl 5 rfl) ?_
    refine vp_callSi (W.runV (As := [.int (nI i)]) (rest := []) ⟨hx, hb, hml, hown, hw⟩ (ct_T_byteAt l Y (wc := [(h, .inr (2, [.ref hb0, .int (nI len), .int (nI next), .int token, .int (nI place), .long name, .int word, .int value])), (hb0, .inl (Y.2.1.1, cap, .inl fB))]) ⟨hb0, fB, rfl, ok⟩ i (by omega) _) (cwV 1 hw (zz_gV kw_243 kw_245 kw_1 kw_62 kw_246) rfl rfl rfl (by decide +kernel) ⟨Nat.le_of_ble_eq_true rfl, Nat.le_of_ble_eq_true rfl⟩) (zz_preV hK hG hA hP hD hS [0, 1] rfl (by decide) rfl rfl) rfl rfl hl.1 rfl (lv_room (Nat.le_of_ble_eq_true rfl)) dc_T_scansNumber_50 ⟨Nat.le_of_ble_eq_true rfl, Nat.le_of_ble_eq_true rfl⟩) (fun r hr9 => ?_)
    subst hr9
    refine lv_istore (lv' := [(8, .int (zt_at tx len i)), (0, .ref h), (1, .int (zz_b neg)), (2, .int (nI (zt_from neg place))), (3, .long (zt_most neg)), (5, .long a), (7, .int (nI i))]) hx hb dc_T_scansNumber_53 hl (by decide) rfl (fun ls hl => ?_)
    refine lv_iload hx hb dc_T_scansNumber_55 (lv_at hl 0 rfl) ?_
    refine vp_callSi (W.runS (As := [.int (zt_at tx len i)]) (rest := []) ⟨hx, hb, hml, hown, hw⟩ (ct_T_isDigit l Y (zt_at tx len i) _) (va_cwS 1 hw (zz_gS kw_256 kw_257 kw_62 kw_258) rfl rfl rfl (by decide +kernel) ⟨Nat.le_of_ble_eq_true rfl, Nat.le_of_ble_eq_true rfl⟩) (zz_preS hK hG hA hP hD hS [] rfl (by decide)) rfl rfl hl.1 rfl (lv_room (Nat.le_of_ble_eq_true rfl)) dc_T_scansNumber_57 ⟨Nat.le_of_ble_eq_true rfl, Nat.le_of_ble_eq_true rfl⟩) (fun r hr9 => ?_)
    subst hr9
    refine lv_if_ne (tgt := 65) hx hb dc_T_scansNumber_60 (by decide) (fun c_1 => ?_) (fun c_1 => ?_)
    · skip
      have c_1 := zz_bT c_1
      refine lv_lload hx hb dc_T_scansNumber_65 (lv_at hl 5 rfl) ?_
      refine lv_ldc2 (v := 10) hx hb hown (hw _ kw_279) dc_T_scansNumber_67 ?_
      refine lv_lmul hx hb dc_T_scansNumber_70 ?_
      refine lv_iload hx hb dc_T_scansNumber_71 (lv_at hl 0 rfl) ?_
      refine lv_bipush (v := 48) hx hb dc_T_scansNumber_73 (by decide) ?_
      refine lv_isub hx hb dc_T_scansNumber_75 ?_
      refine lv_i2l (v := ((zt_at tx len i) - 48).toInt64) hx hb dc_T_scansNumber_76 rfl ?_
      refine lv_ladd hx hb dc_T_scansNumber_77 ?_
      refine lv_lstore (lv' := [(5, .long ((a * 10) + (((zt_at tx len i) - 48).toInt64))), (8, .int (zt_at tx len i)), (0, .ref h), (1, .int (zz_b neg)), (2, .int (nI (zt_from neg place))), (3, .long (zt_most neg)), (7, .int (nI i))]) hx hb dc_T_scansNumber_78 hl (by decide) rfl (fun ls hl => ?_)
      refine lv_lload hx hb dc_T_scansNumber_80 (lv_at hl 0 rfl) ?_
      refine lv_lload_n hx hb dc_T_scansNumber_82 rfl (lv_at hl 5 rfl) ?_
      refine W.lcmp hx hb dc_T_scansNumber_83 ?_
      refine lv_if_le (tgt := 89) hx hb dc_T_scansNumber_84 (by decide) (fun c_2 => ?_) (fun c_2 => ?_)
      · skip
        refine lv_iinc (v := (nI (i + 1))) (lv' := [(7, .int (nI (i + 1))), (5, .long ((a * 10) + (((zt_at tx len i) - 48).toInt64))), (8, .int (zt_at tx len i)), (0, .ref h), (1, .int (zz_b neg)), (2, .int (nI (zt_from neg place))), (3, .long (zt_most neg))]) hx hb dc_T_scansNumber_89 hl (k := 6) rfl (nI_1 i) (by decide) rfl (fun ls hl => ?_)
        refine lv_goto (tgt := 38) hx hb dc_T_scansNumber_92 (by decide) ?_
        exact ih (i + 1) _ (by omega) (by rw [hF, zt_nbF, if_pos c_1, if_pos ((lg_cmp_le _ _).mp c_2)]) _ _ _ hP hD hS (lv_sub hl [3, 4, 5, 6, 1, 0] rfl)
      · skip
        refine lv_iconst (v := 0) hx hb dc_T_scansNumber_87 (by decide) ?_
        exact zz_iret (w1 := [(h, .inr (2, [.ref hb0, .int (nI len), .int (nI next), .int token, .int (nI place), .long name, .int word, .int value])), (hb0, .inl (Y.2.1.1, cap, .inl fB))]) hx hb hr rfl hlocks hAe hP hD hS [0, 1] rfl (by decide) ⟨false, value, by rw [hF, zt_nbF, if_pos c_1, if_neg (fun q => c_2 ((lg_cmp_le _ _).mpr q))]; rfl, rfl, hb0, fB, rfl, ok⟩ (Nat.le_refl _) (Nat.le_refl _) dc_T_scansNumber_88
    · skip
      have c_1 := zz_bF c_1
      refine lv_iconst (v := 0) hx hb dc_T_scansNumber_63 (by decide) ?_
      exact zz_iret (w1 := [(h, .inr (2, [.ref hb0, .int (nI len), .int (nI next), .int token, .int (nI place), .long name, .int word, .int value])), (hb0, .inl (Y.2.1.1, cap, .inl fB))]) hx hb hr rfl hlocks hAe hP hD hS [0, 1] rfl (by decide) ⟨false, value, by rw [hF, zt_nbF, if_neg c_1]; rfl, rfl, hb0, fB, rfl, ok⟩ (Nat.le_refl _) (Nat.le_refl _) dc_T_scansNumber_64

set_option maxHeartbeats 4000000 in
set_option maxRecDepth 100000 in
theorem ct_T_scansNumber (l : Launch) (Y : zz_Y) {h cap len next place : Nat} {token word value : Int32} {name : Int64} {tx : Nat → Nat} {wc : va_W} (hok : zt_OK Y h tx cap len next token place name word value wc) (hpl : place < next) (hn : next ≤ len) (neg : Bool) : zz_I l Y yn_T_scansNumber bc_T_scansNumber 9 (some .boolean) { frames := 1, cells := 0, slots := 0, locals := 21 } [.ref h, .int (zz_b neg)] wc (fun r w1 => ∃ (b : Bool) (vl : Int32), (b, vl) = zt_nb tx len next place neg value ∧ r = zz_b b ∧ zt_OK Y h tx cap len next token place name word vl w1) := by
  intro sz
  obtain ⟨hb0, fB, rfl, ok⟩ := hok
  refine zz_of (cc := bc_T_scansNumber) (maxL := 9) (ret := (some .boolean)) (by decide) (Nat.le_of_ble_eq_true rfl) ?_
  intro p e s m below meth c A ls hsz C0 hl
  subst hsz
  obtain ⟨hx, hb, hr, hml, hlocks, hin, hown, hw, hAe, hA, hK, hG, hP, hD, hS⟩ := id C0
  have hown : s.vm.findClass "TwoLevelParser$Text" = some m.cls := hown
  have hl : lv_has ls 9 [(0, .ref h), (1, .int (zz_b neg))] := hl
  obtain ⟨q1, q2, q3, q4, q5, q6⟩ := id ok
  refine lv_iload_n hx hb dc_T_scansNumber_0 rfl (lv_at hl 1 rfl) ?_
  refine lv_if_eq (tgt := 13) hx hb dc_T_scansNumber_1 (by decide) (fun c_1 => ?_) (fun c_1 => ?_)
  · skip
    have c_1 := zz_bF c_1
    refine lv_aload_n hx hb dc_T_scansNumber_13 rfl (lv_at hl 0 rfl) ?_
    refine va_get (D := Y.1) (ci := 2) (v := .int (nI place)) (C := rn_T) (T := tf_T) (N := 8) hx hb hw wi_T hown hK hP 0 rfl rfl 4 (by decide) (hw _ kw_97) (fun _ h9 => h9) rfl dc_T_scansNumber_14 ?_
    refine lv_istore_n (lv' := [(2, .int (nI place)), (0, .ref h), (1, .int (zz_b neg))]) hx hb dc_T_scansNumber_17 rfl hl (by decide) rfl (fun ls hl => ?_)
    refine lv_iload_n hx hb dc_T_scansNumber_18 rfl (lv_at hl 2 rfl) ?_
    refine lv_if_eq (tgt := 28) hx hb dc_T_scansNumber_19 (by decide) (fun c_2 => ?_) (fun c_2 => ?_)
    · skip
      have c_2 := zz_bF c_2
      refine lv_ldc2 (v := 2147483647) hx hb hown (hw _ kw_278) dc_T_scansNumber_28 ?_
      refine lv_lstore_n (lv' := [(3, .long 2147483647), (2, .int (nI place)), (0, .ref h), (1, .int (zz_b neg))]) hx hb dc_T_scansNumber_31 rfl hl (by decide) rfl (fun ls hl => ?_)
      refine lv_lconst (v := 0) hx hb dc_T_scansNumber_32 (by decide) ?_
      refine lv_lstore (lv' := [(5, .long 0), (3, .long 2147483647), (2, .int (nI place)), (0, .ref h), (1, .int (zz_b neg))]) hx hb dc_T_scansNumber_33 hl (by decide) rfl (fun ls hl => ?_)
      refine lv_iload_n hx hb dc_T_scansNumber_35 rfl (lv_at hl 2 rfl) ?_
      refine lv_istore (lv' := [(7, .int (nI place)), (5, .long 0), (3, .long 2147483647), (2, .int (nI place)), (0, .ref h), (1, .int (zz_b neg))]) hx hb dc_T_scansNumber_36 hl (by decide) rfl (fun ls hl => ?_)
      have ef : zt_from neg place = place := if_neg c_1
      have em : zt_most neg = 2147483647 := if_neg c_1
      have hl := lv_sub hl [4, 5, 3, 2, 1, 0] rfl
      refine zt_sbl rfl ok hn hpl C0 (next - zt_from neg place) (zt_from neg place) 0 (by rw [ef]; omega) rfl _ _ _ hP hD hS ?_
      rw [ef, em]
      exact hl
    · skip
      have c_2 := zz_bT c_2
      refine lv_ldc2 (v := 2147483648) hx hb hown (hw _ kw_277) dc_T_scansNumber_22 ?_
      refine lv_goto (tgt := 31) hx hb dc_T_scansNumber_25 (by decide) ?_
      refine lv_lstore_n (lv' := [(3, .long 2147483648), (2, .int (nI place)), (0, .ref h), (1, .int (zz_b neg))]) hx hb dc_T_scansNumber_31 rfl hl (by decide) rfl (fun ls hl => ?_)
      refine lv_lconst (v := 0) hx hb dc_T_scansNumber_32 (by decide) ?_
      refine lv_lstore (lv' := [(5, .long 0), (3, .long 2147483648), (2, .int (nI place)), (0, .ref h), (1, .int (zz_b neg))]) hx hb dc_T_scansNumber_33 hl (by decide) rfl (fun ls hl => ?_)
      refine lv_iload_n hx hb dc_T_scansNumber_35 rfl (lv_at hl 2 rfl) ?_
      refine lv_istore (lv' := [(7, .int (nI place)), (5, .long 0), (3, .long 2147483648), (2, .int (nI place)), (0, .ref h), (1, .int (zz_b neg))]) hx hb dc_T_scansNumber_36 hl (by decide) rfl (fun ls hl => ?_)
      exact absurd c_2 c_1
  · skip
    have c_1 := zz_bT c_1
    refine lv_aload_n hx hb dc_T_scansNumber_4 rfl (lv_at hl 0 rfl) ?_
    refine va_get (D := Y.1) (ci := 2) (v := .int (nI place)) (C := rn_T) (T := tf_T) (N := 8) hx hb hw wi_T hown hK hP 0 rfl rfl 4 (by decide) (hw _ kw_97) (fun _ h9 => h9) rfl dc_T_scansNumber_5 ?_
    refine lv_iconst (v := 1) hx hb dc_T_scansNumber_8 (by decide) ?_
    refine lv_iadd hx hb dc_T_scansNumber_9 ?_
    rw [show (nI place) + 1 = nI (place + 1) from nI_1 place]
    refine lv_goto (tgt := 17) hx hb dc_T_scansNumber_10 (by decide) ?_
    refine lv_istore_n (lv' := [(2, .int (nI (place + 1))), (0, .ref h), (1, .int (zz_b neg))]) hx hb dc_T_scansNumber_17 rfl hl (by decide) rfl (fun ls hl => ?_)
    refine lv_iload_n hx hb dc_T_scansNumber_18 rfl (lv_at hl 2 rfl) ?_
    refine lv_if_eq (tgt := 28) hx hb dc_T_scansNumber_19 (by decide) (fun c_3 => ?_) (fun c_3 => ?_)
    · skip
      have c_3 := zz_bF c_3
      refine lv_ldc2 (v := 2147483647) hx hb hown (hw _ kw_278) dc_T_scansNumber_28 ?_
      refine lv_lstore_n (lv' := [(3, .long 2147483647), (2, .int (nI (place + 1))), (0, .ref h), (1, .int (zz_b neg))]) hx hb dc_T_scansNumber_31 rfl hl (by decide) rfl (fun ls hl => ?_)
      refine lv_lconst (v := 0) hx hb dc_T_scansNumber_32 (by decide) ?_
      refine lv_lstore (lv' := [(5, .long 0), (3, .long 2147483647), (2, .int (nI (place + 1))), (0, .ref h), (1, .int (zz_b neg))]) hx hb dc_T_scansNumber_33 hl (by decide) rfl (fun ls hl => ?_)
      refine lv_iload_n hx hb dc_T_scansNumber_35 rfl (lv_at hl 2 rfl) ?_
      refine lv_istore (lv' := [(7, .int (nI (place + 1))), (5, .long 0), (3, .long 2147483647), (2, .int (nI (place + 1))), (0, .ref h), (1, .int (zz_b neg))]) hx hb dc_T_scansNumber_36 hl (by decide) rfl (fun ls hl => ?_)
      exact absurd c_1 c_3
    · skip
      have c_3 := zz_bT c_3
      refine lv_ldc2 (v := 2147483648) hx hb hown (hw _ kw_277) dc_T_scansNumber_22 ?_
      refine lv_goto (tgt := 31) hx hb dc_T_scansNumber_25 (by decide) ?_
      refine lv_lstore_n (lv' := [(3, .long 2147483648), (2, .int (nI (place + 1))), (0, .ref h), (1, .int (zz_b neg))]) hx hb dc_T_scansNumber_31 rfl hl (by decide) rfl (fun ls hl => ?_)
      refine lv_lconst (v := 0) hx hb dc_T_scansNumber_32 (by decide) ?_
      refine lv_lstore (lv' := [(5, .long 0), (3, .long 2147483648), (2, .int (nI (place + 1))), (0, .ref h), (1, .int (zz_b neg))]) hx hb dc_T_scansNumber_33 hl (by decide) rfl (fun ls hl => ?_)
      refine lv_iload_n hx hb dc_T_scansNumber_35 rfl (lv_at hl 2 rfl) ?_
      refine lv_istore (lv' := [(7, .int (nI (place + 1))), (5, .long 0), (3, .long 2147483648), (2, .int (nI (place + 1))), (0, .ref h), (1, .int (zz_b neg))]) hx hb dc_T_scansNumber_36 hl (by decide) rfl (fun ls hl => ?_)
      have ef : zt_from neg place = place + 1 := if_pos c_1
      have em : zt_most neg = 2147483648 := if_pos c_1
      have hl := lv_sub hl [4, 5, 3, 2, 1, 0] rfl
      refine zt_sbl rfl ok hn hpl C0 (next - zt_from neg place) (zt_from neg place) 0 (by rw [ef]; omega) rfl _ _ _ hP hD hS ?_
      rw [ef, em]
      exact hl
