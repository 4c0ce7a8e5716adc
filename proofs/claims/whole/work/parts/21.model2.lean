/-! THE REFERENCE: words -/
def zl_zm_isl (tx : Nat → Nat) (att : Nat) (i : Nat) : Nat → Bool → Nat → Bool × Nat
  | 0, same, k => (same, k)
  | n + 1, same, k => if same = true then if (sb_b (tx (att + k))) = (zs_ch i k) then zl_zm_isl tx att i n true (k + 1) else zl_zm_isl tx att i n false (k + 1) else zl_zm_isl tx att i n false (k + 1)
set_option maxHeartbeats 4000000 in
set_option maxRecDepth 100000 in
theorem zm_isl {p : Program} {l : Launch} {e : Env} {s : State} {m : MethodId} {args : Array Value} {below : List Frame} {meth : Method} {c : Code} {A : Nat → Prop} {wc0 : va_W} {Y : zz_Y} {Q : State → Prop} {hm : Nat} {ad : Nat → Nat} {tx : Nat → Nat} {thr : Int32} {size : Nat} {flt : Int32} {plc : Int32} {pp : Nat} {tok : Int32} {att : Nat} {spl : Int64} {val : Int32} {defs : Nat} {nodes : Nat} {dues : Nat} {thn : Int32} {aChg : Nat → Int32} {aTyp : Nat → Int32} {aPar : Nat → Int32} {aFst : Nat → Int32} {aTpl : Nat → Int32} {aTit : Nat → Int64} {aPnm : Nat → Int64} {aPty : Nat → Int32} {aKnd : Nat → Int32} {aPrn : Nat → Int32} {aPlc : Nat → Int32} {aNpl : Nat → Int32} {aSpl : Nat → Int32} {aVar : Nat → Int32} {aVal : Nat → Int32} {aNam : Nat → Int64} {aSec : Nat → Int64} {aDue : Nat → Int32} {aDof : Nat → Int32} {i : Nat} {fT : Nat → Int32} (hsz8 : size ≤ 8192) (hlat : sb_Lat tx size fT) (hi : i < 34) (hat : att ≤ pp) (hps : pp ≤ size) (hlen : zz_sl.getD i 0 = pp - att) (C0 : zz_At p s m args meth c Y yn_M_is bc_M_is 4 (some .boolean) wc0 A) (FIN : Bool × Nat) {H : Heap} {locs : List Loc} (hP : va_P Y.1 vwCl [(hm, .inr (4, [.int thr, .ref (ad 0), .int (nI size), .int flt, .int plc, .int (nI pp), .int tok, .int (nI att), .long spl, .int val, .int (nI defs), .ref (ad 1), .ref (ad 2), .ref (ad 3), .ref (ad 4), .ref (ad 5), .ref (ad 6), .ref (ad 7), .ref (ad 8), .int (nI nodes), .ref (ad 9), .ref (ad 10), .ref (ad 11), .ref (ad 12), .ref (ad 13), .ref (ad 14), .ref (ad 15), .ref (ad 16), .ref (ad 17), .ref (ad 18), .ref (ad 19), .int (nI dues), .int thn])), (ad 0, .inl (Y.2.1.1, 8192, .inl fT)), (ad 1, .inl (Y.2.1.2.1, 64, .inl aChg)), (ad 2, .inl (Y.2.1.2.1, 64, .inl aTyp)), (ad 3, .inl (Y.2.1.2.1, 64, .inl aPar)), (ad 4, .inl (Y.2.1.2.1, 64, .inl aFst)), (ad 5, .inl (Y.2.1.2.1, 64, .inl aTpl)), (ad 6, .inl (Y.2.1.2.2, 64, .inr (.inl aTit))), (ad 7, .inl (Y.2.1.2.2, 512, .inr (.inl aPnm))), (ad 8, .inl (Y.2.1.2.1, 512, .inl aPty)), (ad 9, .inl (Y.2.1.2.1, 8192, .inl aKnd)), (ad 10, .inl (Y.2.1.2.1, 8192, .inl aPrn)), (ad 11, .inl (Y.2.1.2.1, 8192, .inl aPlc)), (ad 12, .inl (Y.2.1.2.1, 8192, .inl aNpl)), (ad 13, .inl (Y.2.1.2.1, 8192, .inl aSpl)), (ad 14, .inl (Y.2.1.2.1, 8192, .inl aVar)), (ad 15, .inl (Y.2.1.2.1, 8192, .inl aVal)), (ad 16, .inl (Y.2.1.2.2, 8192, .inr (.inl aNam))), (ad 17, .inl (Y.2.1.2.2, 8192, .inr (.inl aSec))), (ad 18, .inl (Y.2.1.1, 33000, .inl aDue)), (ad 19, .inl (Y.2.1.2.1, 33000, .inl aDof))] H) (hD : va_D A [(hm, .inr (4, [.int thr, .ref (ad 0), .int (nI size), .int flt, .int plc, .int (nI pp), .int tok, .int (nI att), .long spl, .int val, .int (nI defs), .ref (ad 1), .ref (ad 2), .ref (ad 3), .ref (ad 4), .ref (ad 5), .ref (ad 6), .ref (ad 7), .ref (ad 8), .int (nI nodes), .ref (ad 9), .ref (ad 10), .ref (ad 11), .ref (ad 12), .ref (ad 13), .ref (ad 14), .ref (ad 15), .ref (ad 16), .ref (ad 17), .ref (ad 18), .ref (ad 19), .int (nI dues), .int thn])), (ad 0, .inl (Y.2.1.1, 8192, .inl fT)), (ad 1, .inl (Y.2.1.2.1, 64, .inl aChg)), (ad 2, .inl (Y.2.1.2.1, 64, .inl aTyp)), (ad 3, .inl (Y.2.1.2.1, 64, .inl aPar)), (ad 4, .inl (Y.2.1.2.1, 64, .inl aFst)), (ad 5, .inl (Y.2.1.2.1, 64, .inl aTpl)), (ad 6, .inl (Y.2.1.2.2, 64, .inr (.inl aTit))), (ad 7, .inl (Y.2.1.2.2, 512, .inr (.inl aPnm))), (ad 8, .inl (Y.2.1.2.1, 512, .inl aPty)), (ad 9, .inl (Y.2.1.2.1, 8192, .inl aKnd)), (ad 10, .inl (Y.2.1.2.1, 8192, .inl aPrn)), (ad 11, .inl (Y.2.1.2.1, 8192, .inl aPlc)), (ad 12, .inl (Y.2.1.2.1, 8192, .inl aNpl)), (ad 13, .inl (Y.2.1.2.1, 8192, .inl aSpl)), (ad 14, .inl (Y.2.1.2.1, 8192, .inl aVar)), (ad 15, .inl (Y.2.1.2.1, 8192, .inl aVal)), (ad 16, .inl (Y.2.1.2.2, 8192, .inr (.inl aNam))), (ad 17, .inl (Y.2.1.2.2, 8192, .inr (.inl aSec))), (ad 18, .inl (Y.2.1.1, 33000, .inl aDue)), (ad 19, .inl (Y.2.1.2.1, 33000, .inl aDof))]) (hS : va_S A s.heap H locs)
    (kk : ∀ (ls : Array Slot), lv_has ls 4 [(0, .ref hm), (1, .ref (Y.2.2.1 i)), (2, .int (zz_b ((FIN).1))), (3, .int (nI ((FIN).2)))] → W p l e (headSpec (zz_ws yn_M_is bc_M_is 4 (some .boolean)) { frames := 4, cells := 0, slots := 0, locals := 85 }).room s m args below meth c H locs 0 0 Q (F0 m 73 ls [])) :
    ∀ (n : Nat) (same : Bool) (k : Nat), k + n = zz_sl.getD i 0 → FIN = zl_zm_isl tx att i n same k → ∀ (ls : Array Slot), lv_has ls 4 [(0, .ref hm), (1, .ref (Y.2.2.1 i)), (2, .int (zz_b same)), (3, .int (nI k))] → W p l e (headSpec (zz_ws yn_M_is bc_M_is 4 (some .boolean)) { frames := 4, cells := 0, slots := 0, locals := 85 }).room s m args below meth c H locs 0 0 Q (F0 m 30 ls []) := by
  obtain ⟨hx, hb, hr, hml, hlocks, hin, hown, hw, hAe, hA, hK, hG, -, -, -⟩ := id C0
  have hown : s.vm.findClass "TwoLevelParserModel" = some m.cls := hown
  have h7 := (zs_all i hi).1
  intro n
  induction n with
  | zero =>
    intro same k hn hF ls hl
    refine lv_iload_n hx hb dc_M_is_30 rfl (lv_at hl 3 rfl) ?_
    refine lv_aload_n hx hb dc_M_is_31 rfl (lv_at hl 1 rfl) ?_
    refine vp_callSi (W.runV (As := []) (rest := [.int (nI k)]) ⟨hx, hb, hml, hown, hw⟩ (ct_Js_length l Y hi _) (cwV 0 hw (zz_gV kw_700 kw_307 kw_308 kw_68 kw_309) rfl rfl rfl (by decide +kernel) ⟨Nat.le_of_ble_eq_true rfl, Nat.le_of_ble_eq_true rfl⟩) (zz_preJ (vk_recv (i := 0) (hG.2.2.2.2.2.2 i hi).2 Nat.zero_lt_one hS) hK hG hA hP hD hS) rfl rfl hl.1 rfl (lv_room (Nat.le_of_ble_eq_true rfl)) dc_M_is_32 ⟨Nat.le_of_ble_eq_true rfl, Nat.le_of_ble_eq_true rfl⟩) (fun r hr9 => ?_)
    subst hr9
    refine lv_icmp_ge (tgt := 73) hx hb dc_M_is_35 (by decide) (fun _ => ?_) (fun c9 => absurd (nI_le (by omega) (by omega)) c9)
    have e9 : FIN = (same, k) := by rw [hF, zl_zm_isl]
    subst e9
    exact kk _ (lv_sub hl [0, 1, 2, 3] rfl)
  | succ n ih =>
    intro same k hn hF ls hl
    refine lv_iload_n hx hb dc_M_is_30 rfl (lv_at hl 3 rfl) ?_
    refine lv_aload_n hx hb dc_M_is_31 rfl (lv_at hl 1 rfl) ?_
    refine vp_callSi (W.runV (As := []) (rest := [.int (nI k)]) ⟨hx, hb, hml, hown, hw⟩ (ct_Js_length l Y hi _) (cwV 0 hw (zz_gV kw_700 kw_307 kw_308 kw_68 kw_309) rfl rfl rfl (by decide +kernel) ⟨Nat.le_of_ble_eq_true rfl, Nat.le_of_ble_eq_true rfl⟩) (zz_preJ (vk_recv (i := 0) (hG.2.2.2.2.2.2 i hi).2 Nat.zero_lt_one hS) hK hG hA hP hD hS) rfl rfl hl.1 rfl (lv_room (Nat.le_of_ble_eq_true rfl)) dc_M_is_32 ⟨Nat.le_of_ble_eq_true rfl, Nat.le_of_ble_eq_true rfl⟩) (fun r hr9 => ?_)
    subst hr9
    refine lv_icmp_ge (tgt := 73) hx hb dc_M_is_35 (by decide) (fun c9 => absurd c9 (nI_ge (by omega) (by omega))) (fun _ => ?_)
    refine lv_iload_n hx hb dc_M_is_38 rfl (lv_at hl 2 rfl) ?_
    refine lv_if_eq (tgt := 65) hx hb dc_M_is_39 (by decide) (fun c_1 => ?_) (fun c_1 => ?_)
    · skip
      have c_1 := zz_bF c_1
      refine lv_iconst (v := 0) hx hb dc_M_is_65 (by decide) ?_
      refine lv_istore_n (lv' := [(2, .int 0), (0, .ref hm), (1, .ref (Y.2.2.1 i)), (3, .int (nI k))]) hx hb dc_M_is_66 rfl hl (by decide) rfl (fun ls hl => ?_)
      refine lv_iinc (v := (nI (k + 1))) (lv' := [(3, .int (nI (k + 1))), (2, .int 0), (0, .ref hm), (1, .ref (Y.2.2.1 i))]) hx hb dc_M_is_67 hl (k := 3) rfl (nI_1 k) (by decide) rfl (fun ls hl => ?_)
      refine lv_goto (tgt := 30) hx hb dc_M_is_70 (by decide) ?_
      exact ih false (k + 1) (by omega) (by rw [hF, zl_zm_isl, if_neg c_1]) _ (lv_sub hl [2, 3, 1, 0] rfl)
    · skip
      have c_1 := zz_bT c_1
      refine lv_aload_n hx hb dc_M_is_42 rfl (lv_at hl 0 rfl) ?_
      refine va_get (D := Y.1) (ci := 4) (v := .ref (ad 0)) (C := rn_M) (T := tf_M) (N := 33) hx hb hw wi_M hown hK hP 0 rfl rfl 1 (by decide) (hw _ kw_545) (fun _ h9 => h9) rfl dc_M_is_43 ?_
      refine lv_aload_n hx hb dc_M_is_46 rfl (lv_at hl 0 rfl) ?_
      refine va_get (D := Y.1) (ci := 4) (v := .int (nI att)) (C := rn_M) (T := tf_M) (N := 33) hx hb hw wi_M hown hK hP 0 rfl rfl 7 (by decide) (hw _ kw_551) (fun _ h9 => h9) rfl dc_M_is_47 ?_
      refine lv_iload_n hx hb dc_M_is_50 rfl (lv_at hl 3 rfl) ?_
      refine lv_iadd hx hb dc_M_is_51 ?_
      refine zz_tope (show (nI att) + (nI k) = nI (att + k) from nI_add att k) ?_
      refine va_bald (D := Y.1) hx hb hK hP 1 0 rfl rfl (vp_in_nI (by omega) (by omega)) dc_M_is_52 ?_
      rw [show ((nI (att + k)) : Int32).toNatClampNeg = (att + k) from nI_clamp (n := (att + k)) (by omega)]
      rw [(hlat (att + k) (by omega)).2]
      refine lv_aload_n hx hb dc_M_is_53 rfl (lv_at hl 1 rfl) ?_
      refine lv_iload_n hx hb dc_M_is_54 rfl (lv_at hl 3 rfl) ?_
      refine vp_callSi (W.runV (As := [.int (nI k)]) (rest := [.int (sb_b (tx (att + k)))]) ⟨hx, hb, hml, hown, hw⟩ (ct_Js_charAt l Y (k := k) hi (by omega) _) (cwV 1 hw (zz_gV kw_701 kw_317 kw_318 kw_68 kw_319) rfl rfl rfl (by decide +kernel) ⟨Nat.le_of_ble_eq_true rfl, Nat.le_of_ble_eq_true rfl⟩) (zz_preJ (vk_recv (i := 0) (hG.2.2.2.2.2.2 i hi).2 Nat.zero_lt_one hS) hK hG hA hP hD hS) rfl rfl hl.1 rfl (lv_room (Nat.le_of_ble_eq_true rfl)) dc_M_is_55 ⟨Nat.le_of_ble_eq_true rfl, Nat.le_of_ble_eq_true rfl⟩) (fun r hr9 => ?_)
      subst hr9
      refine lv_icmp_ne (tgt := 65) hx hb dc_M_is_58 (by decide) (fun c_2 => ?_) (fun c_2 => ?_)
      · skip
        refine lv_iconst (v := 0) hx hb dc_M_is_65 (by decide) ?_
        refine lv_istore_n (lv' := [(2, .int 0), (0, .ref hm), (1, .ref (Y.2.2.1 i)), (3, .int (nI k))]) hx hb dc_M_is_66 rfl hl (by decide) rfl (fun ls hl => ?_)
        refine lv_iinc (v := (nI (k + 1))) (lv' := [(3, .int (nI (k + 1))), (2, .int 0), (0, .ref hm), (1, .ref (Y.2.2.1 i))]) hx hb dc_M_is_67 hl (k := 3) rfl (nI_1 k) (by decide) rfl (fun ls hl => ?_)
        refine lv_goto (tgt := 30) hx hb dc_M_is_70 (by decide) ?_
        exact ih false (k + 1) (by omega) (by rw [hF, zl_zm_isl, if_pos c_1, if_neg c_2]) _ (lv_sub hl [2, 3, 1, 0] rfl)
      · skip
        refine lv_iconst (v := 1) hx hb dc_M_is_61 (by decide) ?_
        refine lv_goto (tgt := 66) hx hb dc_M_is_62 (by decide) ?_
        refine lv_istore_n (lv' := [(2, .int 1), (0, .ref hm), (1, .ref (Y.2.2.1 i)), (3, .int (nI k))]) hx hb dc_M_is_66 rfl hl (by decide) rfl (fun ls hl => ?_)
        refine lv_iinc (v := (nI (k + 1))) (lv' := [(3, .int (nI (k + 1))), (2, .int 1), (0, .ref hm), (1, .ref (Y.2.2.1 i))]) hx hb dc_M_is_67 hl (k := 3) rfl (nI_1 k) (by decide) rfl (fun ls hl => ?_)
        refine lv_goto (tgt := 30) hx hb dc_M_is_70 (by decide) ?_
        exact ih true (k + 1) (by omega) (by rw [hF, zl_zm_isl, if_pos c_1, if_pos c_2]) _ (lv_sub hl [2, 3, 1, 0] rfl)

def zm_is (tx : Nat → Nat) (pp : Nat) (tok : Int32) (att : Nat) (i : Nat) : Bool :=
  if tok = 2 then if (pp - att) = (zz_sl.getD i 0) then ((zl_zm_isl tx att i (zz_sl.getD i 0 - 0) true 0).1) else false else false
set_option maxHeartbeats 4000000 in
set_option maxRecDepth 100000 in
theorem ct_M_is (l : Launch) (Y : zz_Y) {hm : Nat} {ad : Nat → Nat} {tx : Nat → Nat} {thr : Int32} {size : Nat} {flt : Int32} {plc : Int32} {pp : Nat} {tok : Int32} {att : Nat} {spl : Int64} {val : Int32} {defs : Nat} {nodes : Nat} {dues : Nat} {thn : Int32} {aChg : Nat → Int32} {aTyp : Nat → Int32} {aPar : Nat → Int32} {aFst : Nat → Int32} {aTpl : Nat → Int32} {aTit : Nat → Int64} {aPnm : Nat → Int64} {aPty : Nat → Int32} {aKnd : Nat → Int32} {aPrn : Nat → Int32} {aPlc : Nat → Int32} {aNpl : Nat → Int32} {aSpl : Nat → Int32} {aVar : Nat → Int32} {aVal : Nat → Int32} {aNam : Nat → Int64} {aSec : Nat → Int64} {aDue : Nat → Int32} {aDof : Nat → Int32} {wc : va_W} (hok : zm_OK Y hm ad tx thr size flt plc pp tok att spl val defs nodes dues thn aChg aTyp aPar aFst aTpl aTit aPnm aPty aKnd aPrn aPlc aNpl aSpl aVar aVal aNam aSec aDue aDof wc) (i : Nat) (hi : i < 34) (hat : att ≤ pp) (hps : pp ≤ size) : zz_I0 l Y yn_M_is bc_M_is 4 (some .boolean) { frames := 4, cells := 0, slots := 0, locals := 85 } [.ref hm, .ref (Y.2.2.1 i)] wc (fun r => r = zz_b (zm_is tx pp tok att i)) := by
  intro sz
  obtain ⟨fT, rfl, hsz8, hlat⟩ := hok
  refine zz_of (cc := bc_M_is) (maxL := 4) (ret := (some .boolean)) (by decide) (Nat.le_of_ble_eq_true rfl) ?_
  intro p e s m below meth c A ls hsz C0 hl
  subst hsz
  obtain ⟨hx, hb, hr, hml, hlocks, hin, hown, hw, hAe, hA, hK, hG, hP, hD, hS⟩ := id C0
  have hown : s.vm.findClass "TwoLevelParserModel" = some m.cls := hown
  have hl : lv_has ls 4 [(0, .ref hm), (1, .ref (Y.2.2.1 i))] := hl
  have h7 := (zs_all i hi).1
  refine lv_aload_n hx hb dc_M_is_0 rfl (lv_at hl 0 rfl) ?_
  refine va_get (D := Y.1) (ci := 4) (v := .int tok) (C := rn_M) (T := tf_M) (N := 33) hx hb hw wi_M hown hK hP 0 rfl rfl 6 (by decide) (hw _ kw_550) (fun _ h9 => h9) rfl dc_M_is_1 ?_
  refine lv_iconst (v := 2) hx hb dc_M_is_4 (by decide) ?_
  refine lv_icmp_ne (tgt := 24) hx hb dc_M_is_5 (by decide) (fun c_1 => ?_) (fun c_1 => ?_)
  · skip
    refine lv_iconst (v := 0) hx hb dc_M_is_24 (by decide) ?_
    have eF : zm_is tx pp tok att i = false := by rw [zm_is, if_neg c_1]
    exact zz_iret0 hx hb hr rfl hlocks (by rw [eF]; rfl) dc_M_is_25
  · skip
    refine lv_aload_n hx hb dc_M_is_8 rfl (lv_at hl 0 rfl) ?_
    refine va_get (D := Y.1) (ci := 4) (v := .int (nI pp)) (C := rn_M) (T := tf_M) (N := 33) hx hb hw wi_M hown hK hP 0 rfl rfl 5 (by decide) (hw _ kw_549) (fun _ h9 => h9) rfl dc_M_is_9 ?_
    refine lv_aload_n hx hb dc_M_is_12 rfl (lv_at hl 0 rfl) ?_
    refine va_get (D := Y.1) (ci := 4) (v := .int (nI att)) (C := rn_M) (T := tf_M) (N := 33) hx hb hw wi_M hown hK hP 0 rfl rfl 7 (by decide) (hw _ kw_551) (fun _ h9 => h9) rfl dc_M_is_13 ?_
    refine lv_isub hx hb dc_M_is_16 ?_
    refine zz_tope (show (nI pp) - (nI att) = nI (pp - att) from pk_sub (a := pp) (b := att) (by omega)) ?_
    refine lv_aload_n hx hb dc_M_is_17 rfl (lv_at hl 1 rfl) ?_
    refine vp_callSi (W.runV (As := []) (rest := [.int (nI (pp - att))]) ⟨hx, hb, hml, hown, hw⟩ (ct_Js_length l Y hi _) (cwV 0 hw (zz_gV kw_700 kw_307 kw_308 kw_68 kw_309) rfl rfl rfl (by decide +kernel) ⟨Nat.le_of_ble_eq_true rfl, Nat.le_of_ble_eq_true rfl⟩) (zz_preJ (vk_recv (i := 0) (hG.2.2.2.2.2.2 i hi).2 Nat.zero_lt_one hS) hK hG hA hP hD hS) rfl rfl hl.1 rfl (lv_room (Nat.le_of_ble_eq_true rfl)) dc_M_is_18 ⟨Nat.le_of_ble_eq_true rfl, Nat.le_of_ble_eq_true rfl⟩) (fun r hr9 => ?_)
    subst hr9
    refine lv_icmp_eq (tgt := 26) hx hb dc_M_is_21 (by decide) (fun c_2 => ?_) (fun c_2 => ?_)
    · skip
      have c_2 : (pp - att) = (zz_sl.getD i 0) := (zm_eqI (a := (pp - att)) (b := (zz_sl.getD i 0)) (by omega) (by omega)).mp c_2
      refine lv_iconst (v := 1) hx hb dc_M_is_26 (by decide) ?_
      refine lv_istore_n (lv' := [(2, .int 1), (0, .ref hm), (1, .ref (Y.2.2.1 i))]) hx hb dc_M_is_27 rfl hl (by decide) rfl (fun ls hl => ?_)
      refine lv_iconst (v := 0) hx hb dc_M_is_28 (by decide) ?_
      refine lv_istore_n (lv' := [(3, .int 0), (2, .int 1), (0, .ref hm), (1, .ref (Y.2.2.1 i))]) hx hb dc_M_is_29 rfl hl (by decide) rfl (fun ls hl => ?_)
      have hl : lv_has ls 4 [(0, .ref hm), (1, .ref (Y.2.2.1 i)), (2, .int (zz_b true)), (3, .int (nI 0))] := lv_sub hl [2, 3, 1, 0] rfl
      refine zm_isl (tx := tx) (thr := thr) (size := size) (flt := flt) (plc := plc) (pp := pp) (tok := tok) (att := att) (spl := spl) (val := val) (defs := defs) (nodes := nodes) (dues := dues) (thn := thn) (aChg := aChg) (aTyp := aTyp) (aPar := aPar) (aFst := aFst) (aTpl := aTpl) (aTit := aTit) (aPnm := aPnm) (aPty := aPty) (aKnd := aKnd) (aPrn := aPrn) (aPlc := aPlc) (aNpl := aNpl) (aSpl := aSpl) (aVar := aVar) (aVal := aVal) (aNam := aNam) (aSec := aSec) (aDue := aDue) (aDof := aDof) hsz8 hlat hi hat hps c_2.symm C0 (zl_zm_isl tx att i (zz_sl.getD i 0 - 0) true 0) hP hD hS ?_ (zz_sl.getD i 0 - 0) true 0 (by omega) rfl _ hl
      clear hl
      intro ls hl
      refine lv_iload_n hx hb dc_M_is_73 rfl (lv_at hl 2 rfl) ?_
      have eF : zm_is tx pp tok att i = ((zl_zm_isl tx att i (zz_sl.getD i 0 - 0) true 0).1) := by rw [zm_is, if_pos c_1, if_pos c_2]
      exact zz_iret0 hx hb hr (zz_nb _) hlocks (by rw [eF]) dc_M_is_74
    · skip
      have c_2 : ¬ (pp - att) = (zz_sl.getD i 0) := fun q9 => c_2 ((zm_eqI (a := (pp - att)) (b := (zz_sl.getD i 0)) (by omega) (by omega)).mpr q9)
      refine lv_iconst (v := 0) hx hb dc_M_is_24 (by decide) ?_
      have eF : zm_is tx pp tok att i = false := by rw [zm_is, if_pos c_1, if_neg c_2]
      exact zz_iret0 hx hb hr rfl hlocks (by rw [eF]; rfl) dc_M_is_25

def zm_type (tx : Nat → Nat) (pp : Nat) (tok : Int32) (att : Nat)  : Int32 :=
  if (zm_is tx pp tok att 13) = true then 0 else if (zm_is tx pp tok att 14) = true then 1 else if (zm_is tx pp tok att 15) = true then 2 else if (zm_is tx pp tok att 16) = true then 3 else (-1)
set_option maxHeartbeats 4000000 in
set_option maxRecDepth 100000 in
theorem ct_M_type (l : Launch) (Y : zz_Y) {hm : Nat} {ad : Nat → Nat} {tx : Nat → Nat} {thr : Int32} {size : Nat} {flt : Int32} {plc : Int32} {pp : Nat} {tok : Int32} {att : Nat} {spl : Int64} {val : Int32} {defs : Nat} {nodes : Nat} {dues : Nat} {thn : Int32} {aChg : Nat → Int32} {aTyp : Nat → Int32} {aPar : Nat → Int32} {aFst : Nat → Int32} {aTpl : Nat → Int32} {aTit : Nat → Int64} {aPnm : Nat → Int64} {aPty : Nat → Int32} {aKnd : Nat → Int32} {aPrn : Nat → Int32} {aPlc : Nat → Int32} {aNpl : Nat → Int32} {aSpl : Nat → Int32} {aVar : Nat → Int32} {aVal : Nat → Int32} {aNam : Nat → Int64} {aSec : Nat → Int64} {aDue : Nat → Int32} {aDof : Nat → Int32} {wc : va_W} (hok : zm_OK Y hm ad tx thr size flt plc pp tok att spl val defs nodes dues thn aChg aTyp aPar aFst aTpl aTit aPnm aPty aKnd aPrn aPlc aNpl aSpl aVar aVal aNam aSec aDue aDof wc) (hat : att ≤ pp) (hps : pp ≤ size) : zz_I0 l Y yn_M_type bc_M_type 1 (some .int) { frames := 5, cells := 0, slots := 0, locals := 108 } [.ref hm] wc (fun r => r = zm_type tx pp tok att) := by
  intro sz
  obtain ⟨fT, rfl, hsz8, hlat⟩ := hok
  refine zz_of (cc := bc_M_type) (maxL := 1) (ret := (some .int)) (by decide) (Nat.le_of_ble_eq_true rfl) ?_
  intro p e s m below meth c A ls hsz C0 hl
  subst hsz
  obtain ⟨hx, hb, hr, hml, hlocks, hin, hown, hw, hAe, hA, hK, hG, hP, hD, hS⟩ := id C0
  have hown : s.vm.findClass "TwoLevelParserModel" = some m.cls := hown
  have hl : lv_has ls 1 [(0, .ref hm)] := hl
  refine lv_aload_n hx hb dc_M_type_0 rfl (lv_at hl 0 rfl) ?_
  refine va_ldcS hx hb hown (hG.2.2.2.2.2.2 13 (by decide)).1 dc_M_type_1 ?_
  refine vp_callSi (W.runV (As := [.ref (Y.2.2.1 13)]) (rest := []) ⟨hx, hb, hml, hown, hw⟩ (ct_M_is l Y (wc := [(hm, .inr (4, [.int thr, .ref (ad 0), .int (nI size), .int flt, .int plc, .int (nI pp), .int tok, .int (nI att), .long spl, .int val, .int (nI defs), .ref (ad 1), .ref (ad 2), .ref (ad 3), .ref (ad 4), .ref (ad 5), .ref (ad 6), .ref (ad 7), .ref (ad 8), .int (nI nodes), .ref (ad 9), .ref (ad 10), .ref (ad 11), .ref (ad 12), .ref (ad 13), .ref (ad 14), .ref (ad 15), .ref (ad 16), .ref (ad 17), .ref (ad 18), .ref (ad 19), .int (nI dues), .int thn])), (ad 0, .inl (Y.2.1.1, 8192, .inl fT)), (ad 1, .inl (Y.2.1.2.1, 64, .inl aChg)), (ad 2, .inl (Y.2.1.2.1, 64, .inl aTyp)), (ad 3, .inl (Y.2.1.2.1, 64, .inl aPar)), (ad 4, .inl (Y.2.1.2.1, 64, .inl aFst)), (ad 5, .inl (Y.2.1.2.1, 64, .inl aTpl)), (ad 6, .inl (Y.2.1.2.2, 64, .inr (.inl aTit))), (ad 7, .inl (Y.2.1.2.2, 512, .inr (.inl aPnm))), (ad 8, .inl (Y.2.1.2.1, 512, .inl aPty)), (ad 9, .inl (Y.2.1.2.1, 8192, .inl aKnd)), (ad 10, .inl (Y.2.1.2.1, 8192, .inl aPrn)), (ad 11, .inl (Y.2.1.2.1, 8192, .inl aPlc)), (ad 12, .inl (Y.2.1.2.1, 8192, .inl aNpl)), (ad 13, .inl (Y.2.1.2.1, 8192, .inl aSpl)), (ad 14, .inl (Y.2.1.2.1, 8192, .inl aVar)), (ad 15, .inl (Y.2.1.2.1, 8192, .inl aVal)), (ad 16, .inl (Y.2.1.2.2, 8192, .inr (.inl aNam))), (ad 17, .inl (Y.2.1.2.2, 8192, .inr (.inl aSec))), (ad 18, .inl (Y.2.1.1, 33000, .inl aDue)), (ad 19, .inl (Y.2.1.2.1, 33000, .inl aDof))]) ⟨fT, rfl, hsz8, hlat⟩ 13 (by decide) (by omega) (by omega) _) (cwV 1 hw (zz_gV kw_696 kw_698 kw_41 kw_65 kw_699) rfl rfl rfl (by decide +kernel) ⟨Nat.le_of_ble_eq_true rfl, Nat.le_of_ble_eq_true rfl⟩) (zz_preV hK hG hA hP hD hS [0, 1, 2, 3, 4, 5, 6, 7, 8, 9, 10, 11, 12, 13, 14, 15, 16, 17, 18, 19, 20] rfl (by decide) rfl rfl) rfl rfl hl.1 rfl (lv_room (Nat.le_of_ble_eq_true rfl)) dc_M_type_3 ⟨Nat.le_of_ble_eq_true rfl, Nat.le_of_ble_eq_true rfl⟩) (fun r hr9 => ?_)
  subst hr9
  refine lv_if_eq (tgt := 13) hx hb dc_M_type_6 (by decide) (fun c_1 => ?_) (fun c_1 => ?_)
  · skip
    have c_1 := zz_bF c_1
    refine lv_aload_n hx hb dc_M_type_13 rfl (lv_at hl 0 rfl) ?_
    refine va_ldcS hx hb hown (hG.2.2.2.2.2.2 14 (by decide)).1 dc_M_type_14 ?_
    refine vp_callSi (W.runV (As := [.ref (Y.2.2.1 14)]) (rest := []) ⟨hx, hb, hml, hown, hw⟩ (ct_M_is l Y (wc := [(hm, .inr (4, [.int thr, .ref (ad 0), .int (nI size), .int flt, .int plc, .int (nI pp), .int tok, .int (nI att), .long spl, .int val, .int (nI defs), .ref (ad 1), .ref (ad 2), .ref (ad 3), .ref (ad 4), .ref (ad 5), .ref (ad 6), .ref (ad 7), .ref (ad 8), .int (nI nodes), .ref (ad 9), .ref (ad 10), .ref (ad 11), .ref (ad 12), .ref (ad 13), .ref (ad 14), .ref (ad 15), .ref (ad 16), .ref (ad 17), .ref (ad 18), .ref (ad 19), .int (nI dues), .int thn])), (ad 0, .inl (Y.2.1.1, 8192, .inl fT)), (ad 1, .inl (Y.2.1.2.1, 64, .inl aChg)), (ad 2, .inl (Y.2.1.2.1, 64, .inl aTyp)), (ad 3, .inl (Y.2.1.2.1, 64, .inl aPar)), (ad 4, .inl (Y.2.1.2.1, 64, .inl aFst)), (ad 5, .inl (Y.2.1.2.1, 64, .inl aTpl)), (ad 6, .inl (Y.2.1.2.2, 64, .inr (.inl aTit))), (ad 7, .inl (Y.2.1.2.2, 512, .inr (.inl aPnm))), (ad 8, .inl (Y.2.1.2.1, 512, .inl aPty)), (ad 9, .inl (Y.2.1.2.1, 8192, .inl aKnd)), (ad 10, .inl (Y.2.1.2.1, 8192, .inl aPrn)), (ad 11, .inl (Y.2.1.2.1, 8192, .inl aPlc)), (ad 12, .inl (Y.2.1.2.1, 8192, .inl aNpl)), (ad 13, .inl (Y.2.1.2.1, 8192, .inl aSpl)), (ad 14, .inl (Y.2.1.2.1, 8192, .inl aVar)), (ad 15, .inl (Y.2.1.2.1, 8192, .inl aVal)), (ad 16, .inl (Y.2.1.2.2, 8192, .inr (.inl aNam))), (ad 17, .inl (Y.2.1.2.2, 8192, .inr (.inl aSec))), (ad 18, .inl (Y.2.1.1, 33000, .inl aDue)), (ad 19, .inl (Y.2.1.2.1, 33000, .inl aDof))]) ⟨fT, rfl, hsz8, hlat⟩ 14 (by decide) (by omega) (by omega) _) (cwV 1 hw (zz_gV kw_696 kw_698 kw_41 kw_65 kw_699) rfl rfl rfl (by decide +kernel) ⟨Nat.le_of_ble_eq_true rfl, Nat.le_of_ble_eq_true rfl⟩) (zz_preV hK hG hA hP hD hS [0, 1, 2, 3, 4, 5, 6, 7, 8, 9, 10, 11, 12, 13, 14, 15, 16, 17, 18, 19, 20] rfl (by decide) rfl rfl) rfl rfl hl.1 rfl (lv_room (Nat.le_of_ble_eq_true rfl)) dc_M_type_16 ⟨Nat.le_of_ble_eq_true rfl, Nat.le_of_ble_eq_true rfl⟩) (fun r hr9 => ?_)
    subst hr9
    refine lv_if_eq (tgt := 26) hx hb dc_M_type_19 (by decide) (fun c_2 => ?_) (fun c_2 => ?_)
    · skip
      have c_2 := zz_bF c_2
      refine lv_aload_n hx hb dc_M_type_26 rfl (lv_at hl 0 rfl) ?_
      refine va_ldcS hx hb hown (hG.2.2.2.2.2.2 15 (by decide)).1 dc_M_type_27 ?_
      refine vp_callSi (W.runV (As := [.ref (Y.2.2.1 15)]) (rest := []) ⟨hx, hb, hml, hown, hw⟩ (ct_M_is l Y (wc := [(hm, .inr (4, [.int thr, .ref (ad 0), .int (nI size), .int flt, .int plc, .int (nI pp), .int tok, .int (nI att), .long spl, .int val, .int (nI defs), .ref (ad 1), .ref (ad 2), .ref (ad 3), .ref (ad 4), .ref (ad 5), .ref (ad 6), .ref (ad 7), .ref (ad 8), .int (nI nodes), .ref (ad 9), .ref (ad 10), .ref (ad 11), .ref (ad 12), .ref (ad 13), .ref (ad 14), .ref (ad 15), .ref (ad 16), .ref (ad 17), .ref (ad 18), .ref (ad 19), .int (nI dues), .int thn])), (ad 0, .inl (Y.2.1.1, 8192, .inl fT)), (ad 1, .inl (Y.2.1.2.1, 64, .inl aChg)), (ad 2, .inl (Y.2.1.2.1, 64, .inl aTyp)), (ad 3, .inl (Y.2.1.2.1, 64, .inl aPar)), (ad 4, .inl (Y.2.1.2.1, 64, .inl aFst)), (ad 5, .inl (Y.2.1.2.1, 64, .inl aTpl)), (ad 6, .inl (Y.2.1.2.2, 64, .inr (.inl aTit))), (ad 7, .inl (Y.2.1.2.2, 512, .inr (.inl aPnm))), (ad 8, .inl (Y.2.1.2.1, 512, .inl aPty)), (ad 9, .inl (Y.2.1.2.1, 8192, .inl aKnd)), (ad 10, .inl (Y.2.1.2.1, 8192, .inl aPrn)), (ad 11, .inl (Y.2.1.2.1, 8192, .inl aPlc)), (ad 12, .inl (Y.2.1.2.1, 8192, .inl aNpl)), (ad 13, .inl (Y.2.1.2.1, 8192, .inl aSpl)), (ad 14, .inl (Y.2.1.2.1, 8192, .inl aVar)), (ad 15, .inl (Y.2.1.2.1, 8192, .inl aVal)), (ad 16, .inl (Y.2.1.2.2, 8192, .inr (.inl aNam))), (ad 17, .inl (Y.2.1.2.2, 8192, .inr (.inl aSec))), (ad 18, .inl (Y.2.1.1, 33000, .inl aDue)), (ad 19, .inl (Y.2.1.2.1, 33000, .inl aDof))]) ⟨fT, rfl, hsz8, hlat⟩ 15 (by decide) (by omega) (by omega) _) (cwV 1 hw (zz_gV kw_696 kw_698 kw_41 kw_65 kw_699) rfl rfl rfl (by decide +kernel) ⟨Nat.le_of_ble_eq_true rfl, Nat.le_of_ble_eq_true rfl⟩) (zz_preV hK hG hA hP hD hS [0, 1, 2, 3, 4, 5, 6, 7, 8, 9, 10, 11, 12, 13, 14, 15, 16, 17, 18, 19, 20] rfl (by decide) rfl rfl) rfl rfl hl.1 rfl (lv_room (Nat.le_of_ble_eq_true rfl)) dc_M_type_29 ⟨Nat.le_of_ble_eq_true rfl, Nat.le_of_ble_eq_true rfl⟩) (fun r hr9 => ?_)
      subst hr9
      refine lv_if_eq (tgt := 39) hx hb dc_M_type_32 (by decide) (fun c_3 => ?_) (fun c_3 => ?_)
      · skip
        have c_3 := zz_bF c_3
        refine lv_aload_n hx hb dc_M_type_39 rfl (lv_at hl 0 rfl) ?_
        refine va_ldcS hx hb hown (hG.2.2.2.2.2.2 16 (by decide)).1 dc_M_type_40 ?_
        refine vp_callSi (W.runV (As := [.ref (Y.2.2.1 16)]) (rest := []) ⟨hx, hb, hml, hown, hw⟩ (ct_M_is l Y (wc := [(hm, .inr (4, [.int thr, .ref (ad 0), .int (nI size), .int flt, .int plc, .int (nI pp), .int tok, .int (nI att), .long spl, .int val, .int (nI defs), .ref (ad 1), .ref (ad 2), .ref (ad 3), .ref (ad 4), .ref (ad 5), .ref (ad 6), .ref (ad 7), .ref (ad 8), .int (nI nodes), .ref (ad 9), .ref (ad 10), .ref (ad 11), .ref (ad 12), .ref (ad 13), .ref (ad 14), .ref (ad 15), .ref (ad 16), .ref (ad 17), .ref (ad 18), .ref (ad 19), .int (nI dues), .int thn])), (ad 0, .inl (Y.2.1.1, 8192, .inl fT)), (ad 1, .inl (Y.2.1.2.1, 64, .inl aChg)), (ad 2, .inl (Y.2.1.2.1, 64, .inl aTyp)), (ad 3, .inl (Y.2.1.2.1, 64, .inl aPar)), (ad 4, .inl (Y.2.1.2.1, 64, .inl aFst)), (ad 5, .inl (Y.2.1.2.1, 64, .inl aTpl)), (ad 6, .inl (Y.2.1.2.2, 64, .inr (.inl aTit))), (ad 7, .inl (Y.2.1.2.2, 512, .inr (.inl aPnm))), (ad 8, .inl (Y.2.1.2.1, 512, .inl aPty)), (ad 9, .inl (Y.2.1.2.1, 8192, .inl aKnd)), (ad 10, .inl (Y.2.1.2.1, 8192, .inl aPrn)), (ad 11, .inl (Y.2.1.2.1, 8192, .inl aPlc)), (ad 12, .inl (Y.2.1.2.1, 8192, .inl aNpl)), (ad 13, .inl (Y.2.1.2.1, 8192, .inl aSpl)), (ad 14, .inl (Y.2.1.2.1, 8192, .inl aVar)), (ad 15, .inl (Y.2.1.2.1, 8192, .inl aVal)), (ad 16, .inl (Y.2.1.2.2, 8192, .inr (.inl aNam))), (ad 17, .inl (Y.2.1.2.2, 8192, .inr (.inl aSec))), (ad 18, .inl (Y.2.1.1, 33000, .inl aDue)), (ad 19, .inl (Y.2.1.2.1, 33000, .inl aDof))]) ⟨fT, rfl, hsz8, hlat⟩ 16 (by decide) (by omega) (by omega) _) (cwV 1 hw (zz_gV kw_696 kw_698 kw_41 kw_65 kw_699) rfl rfl rfl (by decide +kernel) ⟨Nat.le_of_ble_eq_true rfl, Nat.le_of_ble_eq_true rfl⟩) (zz_preV hK hG hA hP hD hS [0, 1, 2, 3, 4, 5, 6, 7, 8, 9, 10, 11, 12, 13, 14, 15, 16, 17, 18, 19, 20] rfl (by decide) rfl rfl) rfl rfl hl.1 rfl (lv_room (Nat.le_of_ble_eq_true rfl)) dc_M_type_42 ⟨Nat.le_of_ble_eq_true rfl, Nat.le_of_ble_eq_true rfl⟩) (fun r hr9 => ?_)
        subst hr9
        refine lv_if_eq (tgt := 52) hx hb dc_M_type_45 (by decide) (fun c_4 => ?_) (fun c_4 => ?_)
        · skip
          have c_4 := zz_bF c_4
          refine lv_iconst (v := (-1)) hx hb dc_M_type_52 (by decide) ?_
          have eF : zm_type tx pp tok att = (-1) := by rw [zm_type, if_neg c_1, if_neg c_2, if_neg c_3, if_neg c_4]
          exact zz_iret0 hx hb hr rfl hlocks (by rw [eF]) dc_M_type_53
        · skip
          have c_4 := zz_bT c_4
          refine lv_iconst (v := 3) hx hb dc_M_type_48 (by decide) ?_
          refine lv_goto (tgt := 53) hx hb dc_M_type_49 (by decide) ?_
          have eF : zm_type tx pp tok att = 3 := by rw [zm_type, if_neg c_1, if_neg c_2, if_neg c_3, if_pos c_4]
          exact zz_iret0 hx hb hr rfl hlocks (by rw [eF]) dc_M_type_53
      · skip
        have c_3 := zz_bT c_3
        refine lv_iconst (v := 2) hx hb dc_M_type_35 (by decide) ?_
        refine lv_goto (tgt := 53) hx hb dc_M_type_36 (by decide) ?_
        have eF : zm_type tx pp tok att = 2 := by rw [zm_type, if_neg c_1, if_neg c_2, if_pos c_3]
        exact zz_iret0 hx hb hr rfl hlocks (by rw [eF]) dc_M_type_53
    · skip
      have c_2 := zz_bT c_2
      refine lv_iconst (v := 1) hx hb dc_M_type_22 (by decide) ?_
      refine lv_goto (tgt := 53) hx hb dc_M_type_23 (by decide) ?_
      have eF : zm_type tx pp tok att = 1 := by rw [zm_type, if_neg c_1, if_pos c_2]
      exact zz_iret0 hx hb hr rfl hlocks (by rw [eF]) dc_M_type_53
  · skip
    have c_1 := zz_bT c_1
    refine lv_iconst (v := 0) hx hb dc_M_type_9 (by decide) ?_
    refine lv_goto (tgt := 53) hx hb dc_M_type_10 (by decide) ?_
    have eF : zm_type tx pp tok att = 0 := by rw [zm_type, if_pos c_1]
    exact zz_iret0 hx hb hr rfl hlocks (by rw [eF]) dc_M_type_53

def zm_operation (tx : Nat → Nat) (pp : Nat) (tok : Int32) (att : Nat)  : Int32 :=
  if (zm_is tx pp tok att 17) = true then 3 else if (zm_is tx pp tok att 18) = true then 4 else if (zm_is tx pp tok att 19) = true then 5 else if (zm_is tx pp tok att 20) = true then 6 else if (zm_is tx pp tok att 21) = true then 7 else if (zm_is tx pp tok att 22) = true then 8 else if (zm_is tx pp tok att 23) = true then 9 else (-1)
set_option maxHeartbeats 4000000 in
set_option maxRecDepth 100000 in
theorem ct_M_operation (l : Launch) (Y : zz_Y) {hm : Nat} {ad : Nat → Nat} {tx : Nat → Nat} {thr : Int32} {size : Nat} {flt : Int32} {plc : Int32} {pp : Nat} {tok : Int32} {att : Nat} {spl : Int64} {val : Int32} {defs : Nat} {nodes : Nat} {dues : Nat} {thn : Int32} {aChg : Nat → Int32} {aTyp : Nat → Int32} {aPar : Nat → Int32} {aFst : Nat → Int32} {aTpl : Nat → Int32} {aTit : Nat → Int64} {aPnm : Nat → Int64} {aPty : Nat → Int32} {aKnd : Nat → Int32} {aPrn : Nat → Int32} {aPlc : Nat → Int32} {aNpl : Nat → Int32} {aSpl : Nat → Int32} {aVar : Nat → Int32} {aVal : Nat → Int32} {aNam : Nat → Int64} {aSec : Nat → Int64} {aDue : Nat → Int32} {aDof : Nat → Int32} {wc : va_W} (hok : zm_OK Y hm ad tx thr size flt plc pp tok att spl val defs nodes dues thn aChg aTyp aPar aFst aTpl aTit aPnm aPty aKnd aPrn aPlc aNpl aSpl aVar aVal aNam aSec aDue aDof wc) (hat : att ≤ pp) (hps : pp ≤ size) : zz_I0 l Y yn_M_operation bc_M_operation 1 (some .int) { frames := 5, cells := 0, slots := 0, locals := 108 } [.ref hm] wc (fun r => r = zm_operation tx pp tok att) := by
  intro sz
  obtain ⟨fT, rfl, hsz8, hlat⟩ := hok
  refine zz_of (cc := bc_M_operation) (maxL := 1) (ret := (some .int)) (by decide) (Nat.le_of_ble_eq_true rfl) ?_
  intro p e s m below meth c A ls hsz C0 hl
  subst hsz
  obtain ⟨hx, hb, hr, hml, hlocks, hin, hown, hw, hAe, hA, hK, hG, hP, hD, hS⟩ := id C0
  have hown : s.vm.findClass "TwoLevelParserModel" = some m.cls := hown
  have hl : lv_has ls 1 [(0, .ref hm)] := hl
  refine lv_aload_n hx hb dc_M_operation_0 rfl (lv_at hl 0 rfl) ?_
  refine va_ldcS hx hb hown (hG.2.2.2.2.2.2 17 (by decide)).1 dc_M_operation_1 ?_
  refine vp_callSi (W.runV (As := [.ref (Y.2.2.1 17)]) (rest := []) ⟨hx, hb, hml, hown, hw⟩ (ct_M_is l Y (wc := [(hm, .inr (4, [.int thr, .ref (ad 0), .int (nI size), .int flt, .int plc, .int (nI pp), .int tok, .int (nI att), .long spl, .int val, .int (nI defs), .ref (ad 1), .ref (ad 2), .ref (ad 3), .ref (ad 4), .ref (ad 5), .ref (ad 6), .ref (ad 7), .ref (ad 8), .int (nI nodes), .ref (ad 9), .ref (ad 10), .ref (ad 11), .ref (ad 12), .ref (ad 13), .ref (ad 14), .ref (ad 15), .ref (ad 16), .ref (ad 17), .ref (ad 18), .ref (ad 19), .int (nI dues), .int thn])), (ad 0, .inl (Y.2.1.1, 8192, .inl fT)), (ad 1, .inl (Y.2.1.2.1, 64, .inl aChg)), (ad 2, .inl (Y.2.1.2.1, 64, .inl aTyp)), (ad 3, .inl (Y.2.1.2.1, 64, .inl aPar)), (ad 4, .inl (Y.2.1.2.1, 64, .inl aFst)), (ad 5, .inl (Y.2.1.2.1, 64, .inl aTpl)), (ad 6, .inl (Y.2.1.2.2, 64, .inr (.inl aTit))), (ad 7, .inl (Y.2.1.2.2, 512, .inr (.inl aPnm))), (ad 8, .inl (Y.2.1.2.1, 512, .inl aPty)), (ad 9, .inl (Y.2.1.2.1, 8192, .inl aKnd)), (ad 10, .inl (Y.2.1.2.1, 8192, .inl aPrn)), (ad 11, .inl (Y.2.1.2.1, 8192, .inl aPlc)), (ad 12, .inl (Y.2.1.2.1, 8192, .inl aNpl)), (ad 13, .inl (Y.2.1.2.1, 8192, .inl aSpl)), (ad 14, .inl (Y.2.1.2.1, 8192, .inl aVar)), (ad 15, .inl (Y.2.1.2.1, 8192, .inl aVal)), (ad 16, .inl (Y.2.1.2.2, 8192, .inr (.inl aNam))), (ad 17, .inl (Y.2.1.2.2, 8192, .inr (.inl aSec))), (ad 18, .inl (Y.2.1.1, 33000, .inl aDue)), (ad 19, .inl (Y.2.1.2.1, 33000, .inl aDof))]) ⟨fT, rfl, hsz8, hlat⟩ 17 (by decide) (by omega) (by omega) _) (cwV 1 hw (zz_gV kw_696 kw_698 kw_41 kw_65 kw_699) rfl rfl rfl (by decide +kernel) ⟨Nat.le_of_ble_eq_true rfl, Nat.le_of_ble_eq_true rfl⟩) (zz_preV hK hG hA hP hD hS [0, 1, 2, 3, 4, 5, 6, 7, 8, 9, 10, 11, 12, 13, 14, 15, 16, 17, 18, 19, 20] rfl (by decide) rfl rfl) rfl rfl hl.1 rfl (lv_room (Nat.le_of_ble_eq_true rfl)) dc_M_operation_3 ⟨Nat.le_of_ble_eq_true rfl, Nat.le_of_ble_eq_true rfl⟩) (fun r hr9 => ?_)
  subst hr9
  refine lv_if_eq (tgt := 13) hx hb dc_M_operation_6 (by decide) (fun c_1 => ?_) (fun c_1 => ?_)
  · skip
    have c_1 := zz_bF c_1
    refine lv_aload_n hx hb dc_M_operation_13 rfl (lv_at hl 0 rfl) ?_
    refine va_ldcS hx hb hown (hG.2.2.2.2.2.2 18 (by decide)).1 dc_M_operation_14 ?_
    refine vp_callSi (W.runV (As := [.ref (Y.2.2.1 18)]) (rest := []) ⟨hx, hb, hml, hown, hw⟩ (ct_M_is l Y (wc := [(hm, .inr (4, [.int thr, .ref (ad 0), .int (nI size), .int flt, .int plc, .int (nI pp), .int tok, .int (nI att), .long spl, .int val, .int (nI defs), .ref (ad 1), .ref (ad 2), .ref (ad 3), .ref (ad 4), .ref (ad 5), .ref (ad 6), .ref (ad 7), .ref (ad 8), .int (nI nodes), .ref (ad 9), .ref (ad 10), .ref (ad 11), .ref (ad 12), .ref (ad 13), .ref (ad 14), .ref (ad 15), .ref (ad 16), .ref (ad 17), .ref (ad 18), .ref (ad 19), .int (nI dues), .int thn])), (ad 0, .inl (Y.2.1.1, 8192, .inl fT)), (ad 1, .inl (Y.2.1.2.1, 64, .inl aChg)), (ad 2, .inl (Y.2.1.2.1, 64, .inl aTyp)), (ad 3, .inl (Y.2.1.2.1, 64, .inl aPar)), (ad 4, .inl (Y.2.1.2.1, 64, .inl aFst)), (ad 5, .inl (Y.2.1.2.1, 64, .inl aTpl)), (ad 6, .inl (Y.2.1.2.2, 64, .inr (.inl aTit))), (ad 7, .inl (Y.2.1.2.2, 512, .inr (.inl aPnm))), (ad 8, .inl (Y.2.1.2.1, 512, .inl aPty)), (ad 9, .inl (Y.2.1.2.1, 8192, .inl aKnd)), (ad 10, .inl (Y.2.1.2.1, 8192, .inl aPrn)), (ad 11, .inl (Y.2.1.2.1, 8192, .inl aPlc)), (ad 12, .inl (Y.2.1.2.1, 8192, .inl aNpl)), (ad 13, .inl (Y.2.1.2.1, 8192, .inl aSpl)), (ad 14, .inl (Y.2.1.2.1, 8192, .inl aVar)), (ad 15, .inl (Y.2.1.2.1, 8192, .inl aVal)), (ad 16, .inl (Y.2.1.2.2, 8192, .inr (.inl aNam))), (ad 17, .inl (Y.2.1.2.2, 8192, .inr (.inl aSec))), (ad 18, .inl (Y.2.1.1, 33000, .inl aDue)), (ad 19, .inl (Y.2.1.2.1, 33000, .inl aDof))]) ⟨fT, rfl, hsz8, hlat⟩ 18 (by decide) (by omega) (by omega) _) (cwV 1 hw (zz_gV kw_696 kw_698 kw_41 kw_65 kw_699) rfl rfl rfl (by decide +kernel) ⟨Nat.le_of_ble_eq_true rfl, Nat.le_of_ble_eq_true rfl⟩) (zz_preV hK hG hA hP hD hS [0, 1, 2, 3, 4, 5, 6, 7, 8, 9, 10, 11, 12, 13, 14, 15, 16, 17, 18, 19, 20] rfl (by decide) rfl rfl) rfl rfl hl.1 rfl (lv_room (Nat.le_of_ble_eq_true rfl)) dc_M_operation_16 ⟨Nat.le_of_ble_eq_true rfl, Nat.le_of_ble_eq_true rfl⟩) (fun r hr9 => ?_)
    subst hr9
    refine lv_if_eq (tgt := 26) hx hb dc_M_operation_19 (by decide) (fun c_2 => ?_) (fun c_2 => ?_)
    · skip
      have c_2 := zz_bF c_2
      refine lv_aload_n hx hb dc_M_operation_26 rfl (lv_at hl 0 rfl) ?_
      refine va_ldcS hx hb hown (hG.2.2.2.2.2.2 19 (by decide)).1 dc_M_operation_27 ?_
      refine vp_callSi (W.runV (As := [.ref (Y.2.2.1 19)]) (rest := []) ⟨hx, hb, hml, hown, hw⟩ (ct_M_is l Y (wc := [(hm, .inr (4, [.int thr, .ref (ad 0), .int (nI size), .int flt, .int plc, .int (nI pp), .int tok, .int (nI att), .long spl, .int val, .int (nI defs), .ref (ad 1), .ref (ad 2), .ref (ad 3), .ref (ad 4), .ref (ad 5), .ref (ad 6), .ref (ad 7), .ref (ad 8), .int (nI nodes), .ref (ad 9), .ref (ad 10), .ref (ad 11), .ref (ad 12), .ref (ad 13), .ref (ad 14), .ref (ad 15), .ref (ad 16), .ref (ad 17), .ref (ad 18), .ref (ad 19), .int (nI dues), .int thn])), (ad 0, .inl (Y.2.1.1, 8192, .inl fT)), (ad 1, .inl (Y.2.1.2.1, 64, .inl aChg)), (ad 2, .inl (Y.2.1.2.1, 64, .inl aTyp)), (ad 3, .inl (Y.2.1.2.1, 64, .inl aPar)), (ad 4, .inl (Y.2.1.2.1, 64, .inl aFst)), (ad 5, .inl (Y.2.1.2.1, 64, .inl aTpl)), (ad 6, .inl (Y.2.1.2.2, 64, .inr (.inl aTit))), (ad 7, .inl (Y.2.1.2.2, 512, .inr (.inl aPnm))), (ad 8, .inl (Y.2.1.2.1, 512, .inl aPty)), (ad 9, .inl (Y.2.1.2.1, 8192, .inl aKnd)), (ad 10, .inl (Y.2.1.2.1, 8192, .inl aPrn)), (ad 11, .inl (Y.2.1.2.1, 8192, .inl aPlc)), (ad 12, .inl (Y.2.1.2.1, 8192, .inl aNpl)), (ad 13, .inl (Y.2.1.2.1, 8192, .inl aSpl)), (ad 14, .inl (Y.2.1.2.1, 8192, .inl aVar)), (ad 15, .inl (Y.2.1.2.1, 8192, .inl aVal)), (ad 16, .inl (Y.2.1.2.2, 8192, .inr (.inl aNam))), (ad 17, .inl (Y.2.1.2.2, 8192, .inr (.inl aSec))), (ad 18, .inl (Y.2.1.1, 33000, .inl aDue)), (ad 19, .inl (Y.2.1.2.1, 33000, .inl aDof))]) ⟨fT, rfl, hsz8, hlat⟩ 19 (by decide) (by omega) (by omega) _) (cwV 1 hw (zz_gV kw_696 kw_698 kw_41 kw_65 kw_699) rfl rfl rfl (by decide +kernel) ⟨Nat.le_of_ble_eq_true rfl, Nat.le_of_ble_eq_true rfl⟩) (zz_preV hK hG hA hP hD hS [0, 1, 2, 3, 4, 5, 6, 7, 8, 9, 10, 11, 12, 13, 14, 15, 16, 17, 18, 19, 20] rfl (by decide) rfl rfl) rfl rfl hl.1 rfl (lv_room (Nat.le_of_ble_eq_true rfl)) dc_M_operation_29 ⟨Nat.le_of_ble_eq_true rfl, Nat.le_of_ble_eq_true rfl⟩) (fun r hr9 => ?_)
      subst hr9
      refine lv_if_eq (tgt := 39) hx hb dc_M_operation_32 (by decide) (fun c_3 => ?_) (fun c_3 => ?_)
      · skip
        have c_3 := zz_bF c_3
        refine lv_aload_n hx hb dc_M_operation_39 rfl (lv_at hl 0 rfl) ?_
        refine va_ldcS hx hb hown (hG.2.2.2.2.2.2 20 (by decide)).1 dc_M_operation_40 ?_
        refine vp_callSi (W.runV (As := [.ref (Y.2.2.1 20)]) (rest := []) ⟨hx, hb, hml, hown, hw⟩ (ct_M_is l Y (wc := [(hm, .inr (4, [.int thr, .ref (ad 0), .int (nI size), .int flt, .int plc, .int (nI pp), .int tok, .int (nI att), .long spl, .int val, .int (nI defs), .ref (ad 1), .ref (ad 2), .ref (ad 3), .ref (ad 4), .ref (ad 5), .ref (ad 6), .ref (ad 7), .ref (ad 8), .int (nI nodes), .ref (ad 9), .ref (ad 10), .ref (ad 11), .ref (ad 12), .ref (ad 13), .ref (ad 14), .ref (ad 15), .ref (ad 16), .ref (ad 17), .ref (ad 18), .ref (ad 19), .int (nI dues), .int thn])), (ad 0, .inl (Y.2.1.1, 8192, .inl fT)), (ad 1, .inl (Y.2.1.2.1, 64, .inl aChg)), (ad 2, .inl (Y.2.1.2.1, 64, .inl aTyp)), (ad 3, .inl (Y.2.1.2.1, 64, .inl aPar)), (ad 4, .inl (Y.2.1.2.1, 64, .inl aFst)), (ad 5, .inl (Y.2.1.2.1, 64, .inl aTpl)), (ad 6, .inl (Y.2.1.2.2, 64, .inr (.inl aTit))), (ad 7, .inl (Y.2.1.2.2, 512, .inr (.inl aPnm))), (ad 8, .inl (Y.2.1.2.1, 512, .inl aPty)), (ad 9, .inl (Y.2.1.2.1, 8192, .inl aKnd)), (ad 10, .inl (Y.2.1.2.1, 8192, .inl aPrn)), (ad 11, .inl (Y.2.1.2.1, 8192, .inl aPlc)), (ad 12, .inl (Y.2.1.2.1, 8192, .inl aNpl)), (ad 13, .inl (Y.2.1.2.1, 8192, .inl aSpl)), (ad 14, .inl (Y.2.1.2.1, 8192, .inl aVar)), (ad 15, .inl (Y.2.1.2.1, 8192, .inl aVal)), (ad 16, .inl (Y.2.1.2.2, 8192, .inr (.inl aNam))), (ad 17, .inl (Y.2.1.2.2, 8192, .inr (.inl aSec))), (ad 18, .inl (Y.2.1.1, 33000, .inl aDue)), (ad 19, .inl (Y.2.1.2.1, 33000, .inl aDof))]) ⟨fT, rfl, hsz8, hlat⟩ 20 (by decide) (by omega) (by omega) _) (cwV 1 hw (zz_gV kw_696 kw_698 kw_41 kw_65 kw_699) rfl rfl rfl (by decide +kernel) ⟨Nat.le_of_ble_eq_true rfl, Nat.le_of_ble_eq_true rfl⟩) (zz_preV hK hG hA hP hD hS [0, 1, 2, 3, 4, 5, 6, 7, 8, 9, 10, 11, 12, 13, 14, 15, 16, 17, 18, 19, 20] rfl (by decide) rfl rfl) rfl rfl hl.1 rfl (lv_room (Nat.le_of_ble_eq_true rfl)) dc_M_operation_42 ⟨Nat.le_of_ble_eq_true rfl, Nat.le_of_ble_eq_true rfl⟩) (fun r hr9 => ?_)
        subst hr9
        refine lv_if_eq (tgt := 53) hx hb dc_M_operation_45 (by decide) (fun c_4 => ?_) (fun c_4 => ?_)
        · skip
          have c_4 := zz_bF c_4
          refine lv_aload_n hx hb dc_M_operation_53 rfl (lv_at hl 0 rfl) ?_
          refine va_ldcS hx hb hown (hG.2.2.2.2.2.2 21 (by decide)).1 dc_M_operation_54 ?_
          refine vp_callSi (W.runV (As := [.ref (Y.2.2.1 21)]) (rest := []) ⟨hx, hb, hml, hown, hw⟩ (ct_M_is l Y (wc := [(hm, .inr (4, [.int thr, .ref (ad 0), .int (nI size), .int flt, .int plc, .int (nI pp), .int tok, .int (nI att), .long spl, .int val, .int (nI defs), .ref (ad 1), .ref (ad 2), .ref (ad 3), .ref (ad 4), .ref (ad 5), .ref (ad 6), .ref (ad 7), .ref (ad 8), .int (nI nodes), .ref (ad 9), .ref (ad 10), .ref (ad 11), .ref (ad 12), .ref (ad 13), .ref (ad 14), .ref (ad 15), .ref (ad 16), .ref (ad 17), .ref (ad 18), .ref (ad 19), .int (nI dues), .int thn])), (ad 0, .inl (Y.2.1.1, 8192, .inl fT)), (ad 1, .inl (Y.2.1.2.1, 64, .inl aChg)), (ad 2, .inl (Y.2.1.2.1, 64, .inl aTyp)), (ad 3, .inl (Y.2.1.2.1, 64, .inl aPar)), (ad 4, .inl (Y.2.1.2.1, 64, .inl aFst)), (ad 5, .inl (Y.2.1.2.1, 64, .inl aTpl)), (ad 6, .inl (Y.2.1.2.2, 64, .inr (.inl aTit))), (ad 7, .inl (Y.2.1.2.2, 512, .inr (.inl aPnm))), (ad 8, .inl (Y.2.1.2.1, 512, .inl aPty)), (ad 9, .inl (Y.2.1.2.1, 8192, .inl aKnd)), (ad 10, .inl (Y.2.1.2.1, 8192, .inl aPrn)), (ad 11, .inl (Y.2.1.2.1, 8192, .inl aPlc)), (ad 12, .inl (Y.2.1.2.1, 8192, .inl aNpl)), (ad 13, .inl (Y.2.1.2.1, 8192, .inl aSpl)), (ad 14, .inl (Y.2.1.2.1, 8192, .inl aVar)), (ad 15, .inl (Y.2.1.2.1, 8192, .inl aVal)), (ad 16, .inl (Y.2.1.2.2, 8192, .inr (.inl aNam))), (ad 17, .inl (Y.2.1.2.2, 8192, .inr (.inl aSec))), (ad 18, .inl (Y.2.1.1, 33000, .inl aDue)), (ad 19, .inl (Y.2.1.2.1, 33000, .inl aDof))]) ⟨fT, rfl, hsz8, hlat⟩ 21 (by decide) (by omega) (by omega) _) (cwV 1 hw (zz_gV kw_696 kw_698 kw_41 kw_65 kw_699) rfl rfl rfl (by decide +kernel) ⟨Nat.le_of_ble_eq_true rfl, Nat.le_of_ble_eq_true rfl⟩) (zz_preV hK hG hA hP hD hS [0, 1, 2, 3, 4, 5, 6, 7, 8, 9, 10, 11, 12, 13, 14, 15, 16, 17, 18, 19, 20] rfl (by decide) rfl rfl) rfl rfl hl.1 rfl (lv_room (Nat.le_of_ble_eq_true rfl)) dc_M_operation_56 ⟨Nat.le_of_ble_eq_true rfl, Nat.le_of_ble_eq_true rfl⟩) (fun r hr9 => ?_)
          subst hr9
          refine lv_if_eq (tgt := 67) hx hb dc_M_operation_59 (by decide) (fun c_5 => ?_) (fun c_5 => ?_)
          · skip
            have c_5 := zz_bF c_5
            refine lv_aload_n hx hb dc_M_operation_67 rfl (lv_at hl 0 rfl) ?_
            refine va_ldcS hx hb hown (hG.2.2.2.2.2.2 22 (by decide)).1 dc_M_operation_68 ?_
            refine vp_callSi (W.runV (As := [.ref (Y.2.2.1 22)]) (rest := []) ⟨hx, hb, hml, hown, hw⟩ (ct_M_is l Y (wc := [(hm, .inr (4, [.int thr, .ref (ad 0), .int (nI size), .int flt, .int plc, .int (nI pp), .int tok, .int (nI att), .long spl, .int val, .int (nI defs), .ref (ad 1), .ref (ad 2), .ref (ad 3), .ref (ad 4), .ref (ad 5), .ref (ad 6), .ref (ad 7), .ref (ad 8), .int (nI nodes), .ref (ad 9), .ref (ad 10), .ref (ad 11), .ref (ad 12), .ref (ad 13), .ref (ad 14), .ref (ad 15), .ref (ad 16), .ref (ad 17), .ref (ad 18), .ref (ad 19), .int (nI dues), .int thn])), (ad 0, .inl (Y.2.1.1, 8192, .inl fT)), (ad 1, .inl (Y.2.1.2.1, 64, .inl aChg)), (ad 2, .inl (Y.2.1.2.1, 64, .inl aTyp)), (ad 3, .inl (Y.2.1.2.1, 64, .inl aPar)), (ad 4, .inl (Y.2.1.2.1, 64, .inl aFst)), (ad 5, .inl (Y.2.1.2.1, 64, .inl aTpl)), (ad 6, .inl (Y.2.1.2.2, 64, .inr (.inl aTit))), (ad 7, .inl (Y.2.1.2.2, 512, .inr (.inl aPnm))), (ad 8, .inl (Y.2.1.2.1, 512, .inl aPty)), (ad 9, .inl (Y.2.1.2.1, 8192, .inl aKnd)), (ad 10, .inl (Y.2.1.2.1, 8192, .inl aPrn)), (ad 11, .inl (Y.2.1.2.1, 8192, .inl aPlc)), (ad 12, .inl (Y.2.1.2.1, 8192, .inl aNpl)), (ad 13, .inl (Y.2.1.2.1, 8192, .inl aSpl)), (ad 14, .inl (Y.2.1.2.1, 8192, .inl aVar)), (ad 15, .inl (Y.2.1.2.1, 8192, .inl aVal)), (ad 16, .inl (Y.2.1.2.2, 8192, .inr (.inl aNam))), (ad 17, .inl (Y.2.1.2.2, 8192, .inr (.inl aSec))), (ad 18, .inl (Y.2.1.1, 33000, .inl aDue)), (ad 19, .inl (Y.2.1.2.1, 33000, .inl aDof))]) ⟨fT, rfl, hsz8, hlat⟩ 22 (by decide) (by omega) (by omega) _) (cwV 1 hw (zz_gV kw_696 kw_698 kw_41 kw_65 kw_699) rfl rfl rfl (by decide +kernel) ⟨Nat.le_of_ble_eq_true rfl, Nat.le_of_ble_eq_true rfl⟩) (zz_preV hK hG hA hP hD hS [0, 1, 2, 3, 4, 5, 6, 7, 8, 9, 10, 11, 12, 13, 14, 15, 16, 17, 18, 19, 20] rfl (by decide) rfl rfl) rfl rfl hl.1 rfl (lv_room (Nat.le_of_ble_eq_true rfl)) dc_M_operation_70 ⟨Nat.le_of_ble_eq_true rfl, Nat.le_of_ble_eq_true rfl⟩) (fun r hr9 => ?_)
            subst hr9
            refine lv_if_eq (tgt := 81) hx hb dc_M_operation_73 (by decide) (fun c_6 => ?_) (fun c_6 => ?_)
            · skip
              have c_6 := zz_bF c_6
              refine lv_aload_n hx hb dc_M_operation_81 rfl (lv_at hl 0 rfl) ?_
              refine va_ldcS hx hb hown (hG.2.2.2.2.2.2 23 (by decide)).1 dc_M_operation_82 ?_
              refine vp_callSi (W.runV (As := [.ref (Y.2.2.1 23)]) (rest := []) ⟨hx, hb, hml, hown, hw⟩ (ct_M_is l Y (wc := [(hm, .inr (4, [.int thr, .ref (ad 0), .int (nI size), .int flt, .int plc, .int (nI pp), .int tok, .int (nI att), .long spl, .int val, .int (nI defs), .ref (ad 1), .ref (ad 2), .ref (ad 3), .ref (ad 4), .ref (ad 5), .ref (ad 6), .ref (ad 7), .ref (ad 8), .int (nI nodes), .ref (ad 9), .ref (ad 10), .ref (ad 11), .ref (ad 12), .ref (ad 13), .ref (ad 14), .ref (ad 15), .ref (ad 16), .ref (ad 17), .ref (ad 18), .ref (ad 19), .int (nI dues), .int thn])), (ad 0, .inl (Y.2.1.1, 8192, .inl fT)), (ad 1, .inl (Y.2.1.2.1, 64, .inl aChg)), (ad 2, .inl (Y.2.1.2.1, 64, .inl aTyp)), (ad 3, .inl (Y.2.1.2.1, 64, .inl aPar)), (ad 4, .inl (Y.2.1.2.1, 64, .inl aFst)), (ad 5, .inl (Y.2.1.2.1, 64, .inl aTpl)), (ad 6, .inl (Y.2.1.2.2, 64, .inr (.inl aTit))), (ad 7, .inl (Y.2.1.2.2, 512, .inr (.inl aPnm))), (ad 8, .inl (Y.2.1.2.1, 512, .inl aPty)), (ad 9, .inl (Y.2.1.2.1, 8192, .inl aKnd)), (ad 10, .inl (Y.2.1.2.1, 8192, .inl aPrn)), (ad 11, .inl (Y.2.1.2.1, 8192, .inl aPlc)), (ad 12, .inl (Y.2.1.2.1, 8192, .inl aNpl)), (ad 13, .inl (Y.2.1.2.1, 8192, .inl aSpl)), (ad 14, .inl (Y.2.1.2.1, 8192, .inl aVar)), (ad 15, .inl (Y.2.1.2.1, 8192, .inl aVal)), (ad 16, .inl (Y.2.1.2.2, 8192, .inr (.inl aNam))), (ad 17, .inl (Y.2.1.2.2, 8192, .inr (.inl aSec))), (ad 18, .inl (Y.2.1.1, 33000, .inl aDue)), (ad 19, .inl (Y.2.1.2.1, 33000, .inl aDof))]) ⟨fT, rfl, hsz8, hlat⟩ 23 (by decide) (by omega) (by omega) _) (cwV 1 hw (zz_gV kw_696 kw_698 kw_41 kw_65 kw_699) rfl rfl rfl (by decide +kernel) ⟨Nat.le_of_ble_eq_true rfl, Nat.le_of_ble_eq_true rfl⟩) (zz_preV hK hG hA hP hD hS [0, 1, 2, 3, 4, 5, 6, 7, 8, 9, 10, 11, 12, 13, 14, 15, 16, 17, 18, 19, 20] rfl (by decide) rfl rfl) rfl rfl hl.1 rfl (lv_room (Nat.le_of_ble_eq_true rfl)) dc_M_operation_84 ⟨Nat.le_of_ble_eq_true rfl, Nat.le_of_ble_eq_true rfl⟩) (fun r hr9 => ?_)
              subst hr9
              refine lv_if_eq (tgt := 95) hx hb dc_M_operation_87 (by decide) (fun c_7 => ?_) (fun c_7 => ?_)
              · skip
                have c_7 := zz_bF c_7
                refine lv_iconst (v := (-1)) hx hb dc_M_operation_95 (by decide) ?_
                have eF : zm_operation tx pp tok att = (-1) := by rw [zm_operation, if_neg c_1, if_neg c_2, if_neg c_3, if_neg c_4, if_neg c_5, if_neg c_6, if_neg c_7]
                exact zz_iret0 hx hb hr rfl hlocks (by rw [eF]) dc_M_operation_96
              · skip
                have c_7 := zz_bT c_7
                refine lv_bipush (v := 9) hx hb dc_M_operation_90 (by decide) ?_
                refine lv_goto (tgt := 96) hx hb dc_M_operation_92 (by decide) ?_
                have eF : zm_operation tx pp tok att = 9 := by rw [zm_operation, if_neg c_1, if_neg c_2, if_neg c_3, if_neg c_4, if_neg c_5, if_neg c_6, if_pos c_7]
                exact zz_iret0 hx hb hr rfl hlocks (by rw [eF]) dc_M_operation_96
            · skip
              have c_6 := zz_bT c_6
              refine lv_bipush (v := 8) hx hb dc_M_operation_76 (by decide) ?_
              refine lv_goto (tgt := 96) hx hb dc_M_operation_78 (by decide) ?_
              have eF : zm_operation tx pp tok att = 8 := by rw [zm_operation, if_neg c_1, if_neg c_2, if_neg c_3, if_neg c_4, if_neg c_5, if_pos c_6]
              exact zz_iret0 hx hb hr rfl hlocks (by rw [eF]) dc_M_operation_96
          · skip
            have c_5 := zz_bT c_5
            refine lv_bipush (v := 7) hx hb dc_M_operation_62 (by decide) ?_
            refine lv_goto (tgt := 96) hx hb dc_M_operation_64 (by decide) ?_
            have eF : zm_operation tx pp tok att = 7 := by rw [zm_operation, if_neg c_1, if_neg c_2, if_neg c_3, if_neg c_4, if_pos c_5]
            exact zz_iret0 hx hb hr rfl hlocks (by rw [eF]) dc_M_operation_96
        · skip
          have c_4 := zz_bT c_4
          refine lv_bipush (v := 6) hx hb dc_M_operation_48 (by decide) ?_
          refine lv_goto (tgt := 96) hx hb dc_M_operation_50 (by decide) ?_
          have eF : zm_operation tx pp tok att = 6 := by rw [zm_operation, if_neg c_1, if_neg c_2, if_neg c_3, if_pos c_4]
          exact zz_iret0 hx hb hr rfl hlocks (by rw [eF]) dc_M_operation_96
      · skip
        have c_3 := zz_bT c_3
        refine lv_iconst (v := 5) hx hb dc_M_operation_35 (by decide) ?_
        refine lv_goto (tgt := 96) hx hb dc_M_operation_36 (by decide) ?_
        have eF : zm_operation tx pp tok att = 5 := by rw [zm_operation, if_neg c_1, if_neg c_2, if_pos c_3]
        exact zz_iret0 hx hb hr rfl hlocks (by rw [eF]) dc_M_operation_96
    · skip
      have c_2 := zz_bT c_2
      refine lv_iconst (v := 4) hx hb dc_M_operation_22 (by decide) ?_
      refine lv_goto (tgt := 96) hx hb dc_M_operation_23 (by decide) ?_
      have eF : zm_operation tx pp tok att = 4 := by rw [zm_operation, if_neg c_1, if_pos c_2]
      exact zz_iret0 hx hb hr rfl hlocks (by rw [eF]) dc_M_operation_96
  · skip
    have c_1 := zz_bT c_1
    refine lv_iconst (v := 3) hx hb dc_M_operation_9 (by decide) ?_
    refine lv_goto (tgt := 96) hx hb dc_M_operation_10 (by decide) ?_
    have eF : zm_operation tx pp tok att = 3 := by rw [zm_operation, if_pos c_1]
    exact zz_iret0 hx hb hr rfl hlocks (by rw [eF]) dc_M_operation_96

def zm_changeableKind (tx : Nat → Nat) (pp : Nat) (tok : Int32) (att : Nat)  : Int32 :=
  if (zm_is tx pp tok att 30) = true then 18 else if (zm_is tx pp tok att 31) = true then 19 else if (zm_is tx pp tok att 24) = true then 20 else if (zm_is tx pp tok att 25) = true then 21 else if (zm_is tx pp tok att 26) = true then 22 else if (zm_is tx pp tok att 32) = true then 23 else (-1)
set_option maxHeartbeats 4000000 in
set_option maxRecDepth 100000 in
theorem ct_M_changeableKind (l : Launch) (Y : zz_Y) {hm : Nat} {ad : Nat → Nat} {tx : Nat → Nat} {thr : Int32} {size : Nat} {flt : Int32} {plc : Int32} {pp : Nat} {tok : Int32} {att : Nat} {spl : Int64} {val : Int32} {defs : Nat} {nodes : Nat} {dues : Nat} {thn : Int32} {aChg : Nat → Int32} {aTyp : Nat → Int32} {aPar : Nat → Int32} {aFst : Nat → Int32} {aTpl : Nat → Int32} {aTit : Nat → Int64} {aPnm : Nat → Int64} {aPty : Nat → Int32} {aKnd : Nat → Int32} {aPrn : Nat → Int32} {aPlc : Nat → Int32} {aNpl : Nat → Int32} {aSpl : Nat → Int32} {aVar : Nat → Int32} {aVal : Nat → Int32} {aNam : Nat → Int64} {aSec : Nat → Int64} {aDue : Nat → Int32} {aDof : Nat → Int32} {wc : va_W} (hok : zm_OK Y hm ad tx thr size flt plc pp tok att spl val defs nodes dues thn aChg aTyp aPar aFst aTpl aTit aPnm aPty aKnd aPrn aPlc aNpl aSpl aVar aVal aNam aSec aDue aDof wc) (hat : att ≤ pp) (hps : pp ≤ size) : zz_I0 l Y yn_M_changeableKind bc_M_changeableKind 1 (some .int) { frames := 5, cells := 0, slots := 0, locals := 108 } [.ref hm] wc (fun r => r = zm_changeableKind tx pp tok att) := by
  intro sz
  obtain ⟨fT, rfl, hsz8, hlat⟩ := hok
  refine zz_of (cc := bc_M_changeableKind) (maxL := 1) (ret := (some .int)) (by decide) (Nat.le_of_ble_eq_true rfl) ?_
  intro p e s m below meth c A ls hsz C0 hl
  subst hsz
  obtain ⟨hx, hb, hr, hml, hlocks, hin, hown, hw, hAe, hA, hK, hG, hP, hD, hS⟩ := id C0
  have hown : s.vm.findClass "TwoLevelParserModel" = some m.cls := hown
  have hl : lv_has ls 1 [(0, .ref hm)] := hl
  refine lv_aload_n hx hb dc_M_changeableKind_0 rfl (lv_at hl 0 rfl) ?_
  refine va_ldcS hx hb hown (hG.2.2.2.2.2.2 30 (by decide)).1 dc_M_changeableKind_1 ?_
  refine vp_callSi (W.runV (As := [.ref (Y.2.2.1 30)]) (rest := []) ⟨hx, hb, hml, hown, hw⟩ (ct_M_is l Y (wc := [(hm, .inr (4, [.int thr, .ref (ad 0), .int (nI size), .int flt, .int plc, .int (nI pp), .int tok, .int (nI att), .long spl, .int val, .int (nI defs), .ref (ad 1), .ref (ad 2), .ref (ad 3), .ref (ad 4), .ref (ad 5), .ref (ad 6), .ref (ad 7), .ref (ad 8), .int (nI nodes), .ref (ad 9), .ref (ad 10), .ref (ad 11), .ref (ad 12), .ref (ad 13), .ref (ad 14), .ref (ad 15), .ref (ad 16), .ref (ad 17), .ref (ad 18), .ref (ad 19), .int (nI dues), .int thn])), (ad 0, .inl (Y.2.1.1, 8192, .inl fT)), (ad 1, .inl (Y.2.1.2.1, 64, .inl aChg)), (ad 2, .inl (Y.2.1.2.1, 64, .inl aTyp)), (ad 3, .inl (Y.2.1.2.1, 64, .inl aPar)), (ad 4, .inl (Y.2.1.2.1, 64, .inl aFst)), (ad 5, .inl (Y.2.1.2.1, 64, .inl aTpl)), (ad 6, .inl (Y.2.1.2.2, 64, .inr (.inl aTit))), (ad 7, .inl (Y.2.1.2.2, 512, .inr (.inl aPnm))), (ad 8, .inl (Y.2.1.2.1, 512, .inl aPty)), (ad 9, .inl (Y.2.1.2.1, 8192, .inl aKnd)), (ad 10, .inl (Y.2.1.2.1, 8192, .inl aPrn)), (ad 11, .inl (Y.2.1.2.1, 8192, .inl aPlc)), (ad 12, .inl (Y.2.1.2.1, 8192, .inl aNpl)), (ad 13, .inl (Y.2.1.2.1, 8192, .inl aSpl)), (ad 14, .inl (Y.2.1.2.1, 8192, .inl aVar)), (ad 15, .inl (Y.2.1.2.1, 8192, .inl aVal)), (ad 16, .inl (Y.2.1.2.2, 8192, .inr (.inl aNam))), (ad 17, .inl (Y.2.1.2.2, 8192, .inr (.inl aSec))), (ad 18, .inl (Y.2.1.1, 33000, .inl aDue)), (ad 19, .inl (Y.2.1.2.1, 33000, .inl aDof))]) ⟨fT, rfl, hsz8, hlat⟩ 30 (by decide) (by omega) (by omega) _) (cwV 1 hw (zz_gV kw_696 kw_698 kw_41 kw_65 kw_699) rfl rfl rfl (by decide +kernel) ⟨Nat.le_of_ble_eq_true rfl, Nat.le_of_ble_eq_true rfl⟩) (zz_preV hK hG hA hP hD hS [0, 1, 2, 3, 4, 5, 6, 7, 8, 9, 10, 11, 12, 13, 14, 15, 16, 17, 18, 19, 20] rfl (by decide) rfl rfl) rfl rfl hl.1 rfl (lv_room (Nat.le_of_ble_eq_true rfl)) dc_M_changeableKind_3 ⟨Nat.le_of_ble_eq_true rfl, Nat.le_of_ble_eq_true rfl⟩) (fun r hr9 => ?_)
  subst hr9
  refine lv_if_eq (tgt := 14) hx hb dc_M_changeableKind_6 (by decide) (fun c_1 => ?_) (fun c_1 => ?_)
  · skip
    have c_1 := zz_bF c_1
    refine lv_aload_n hx hb dc_M_changeableKind_14 rfl (lv_at hl 0 rfl) ?_
    refine va_ldcS hx hb hown (hG.2.2.2.2.2.2 31 (by decide)).1 dc_M_changeableKind_15 ?_
    refine vp_callSi (W.runV (As := [.ref (Y.2.2.1 31)]) (rest := []) ⟨hx, hb, hml, hown, hw⟩ (ct_M_is l Y (wc := [(hm, .inr (4, [.int thr, .ref (ad 0), .int (nI size), .int flt, .int plc, .int (nI pp), .int tok, .int (nI att), .long spl, .int val, .int (nI defs), .ref (ad 1), .ref (ad 2), .ref (ad 3), .ref (ad 4), .ref (ad 5), .ref (ad 6), .ref (ad 7), .ref (ad 8), .int (nI nodes), .ref (ad 9), .ref (ad 10), .ref (ad 11), .ref (ad 12), .ref (ad 13), .ref (ad 14), .ref (ad 15), .ref (ad 16), .ref (ad 17), .ref (ad 18), .ref (ad 19), .int (nI dues), .int thn])), (ad 0, .inl (Y.2.1.1, 8192, .inl fT)), (ad 1, .inl (Y.2.1.2.1, 64, .inl aChg)), (ad 2, .inl (Y.2.1.2.1, 64, .inl aTyp)), (ad 3, .inl (Y.2.1.2.1, 64, .inl aPar)), (ad 4, .inl (Y.2.1.2.1, 64, .inl aFst)), (ad 5, .inl (Y.2.1.2.1, 64, .inl aTpl)), (ad 6, .inl (Y.2.1.2.2, 64, .inr (.inl aTit))), (ad 7, .inl (Y.2.1.2.2, 512, .inr (.inl aPnm))), (ad 8, .inl (Y.2.1.2.1, 512, .inl aPty)), (ad 9, .inl (Y.2.1.2.1, 8192, .inl aKnd)), (ad 10, .inl (Y.2.1.2.1, 8192, .inl aPrn)), (ad 11, .inl (Y.2.1.2.1, 8192, .inl aPlc)), (ad 12, .inl (Y.2.1.2.1, 8192, .inl aNpl)), (ad 13, .inl (Y.2.1.2.1, 8192, .inl aSpl)), (ad 14, .inl (Y.2.1.2.1, 8192, .inl aVar)), (ad 15, .inl (Y.2.1.2.1, 8192, .inl aVal)), (ad 16, .inl (Y.2.1.2.2, 8192, .inr (.inl aNam))), (ad 17, .inl (Y.2.1.2.2, 8192, .inr (.inl aSec))), (ad 18, .inl (Y.2.1.1, 33000, .inl aDue)), (ad 19, .inl (Y.2.1.2.1, 33000, .inl aDof))]) ⟨fT, rfl, hsz8, hlat⟩ 31 (by decide) (by omega) (by omega) _) (cwV 1 hw (zz_gV kw_696 kw_698 kw_41 kw_65 kw_699) rfl rfl rfl (by decide +kernel) ⟨Nat.le_of_ble_eq_true rfl, Nat.le_of_ble_eq_true rfl⟩) (zz_preV hK hG hA hP hD hS [0, 1, 2, 3, 4, 5, 6, 7, 8, 9, 10, 11, 12, 13, 14, 15, 16, 17, 18, 19, 20] rfl (by decide) rfl rfl) rfl rfl hl.1 rfl (lv_room (Nat.le_of_ble_eq_true rfl)) dc_M_changeableKind_17 ⟨Nat.le_of_ble_eq_true rfl, Nat.le_of_ble_eq_true rfl⟩) (fun r hr9 => ?_)
    subst hr9
    refine lv_if_eq (tgt := 28) hx hb dc_M_changeableKind_20 (by decide) (fun c_2 => ?_) (fun c_2 => ?_)
    · skip
      have c_2 := zz_bF c_2
      refine lv_aload_n hx hb dc_M_changeableKind_28 rfl (lv_at hl 0 rfl) ?_
      refine va_ldcS hx hb hown (hG.2.2.2.2.2.2 24 (by decide)).1 dc_M_changeableKind_29 ?_
      refine vp_callSi (W.runV (As := [.ref (Y.2.2.1 24)]) (rest := []) ⟨hx, hb, hml, hown, hw⟩ (ct_M_is l Y (wc := [(hm, .inr (4, [.int thr, .ref (ad 0), .int (nI size), .int flt, .int plc, .int (nI pp), .int tok, .int (nI att), .long spl, .int val, .int (nI defs), .ref (ad 1), .ref (ad 2), .ref (ad 3), .ref (ad 4), .ref (ad 5), .ref (ad 6), .ref (ad 7), .ref (ad 8), .int (nI nodes), .ref (ad 9), .ref (ad 10), .ref (ad 11), .ref (ad 12), .ref (ad 13), .ref (ad 14), .ref (ad 15), .ref (ad 16), .ref (ad 17), .ref (ad 18), .ref (ad 19), .int (nI dues), .int thn])), (ad 0, .inl (Y.2.1.1, 8192, .inl fT)), (ad 1, .inl (Y.2.1.2.1, 64, .inl aChg)), (ad 2, .inl (Y.2.1.2.1, 64, .inl aTyp)), (ad 3, .inl (Y.2.1.2.1, 64, .inl aPar)), (ad 4, .inl (Y.2.1.2.1, 64, .inl aFst)), (ad 5, .inl (Y.2.1.2.1, 64, .inl aTpl)), (ad 6, .inl (Y.2.1.2.2, 64, .inr (.inl aTit))), (ad 7, .inl (Y.2.1.2.2, 512, .inr (.inl aPnm))), (ad 8, .inl (Y.2.1.2.1, 512, .inl aPty)), (ad 9, .inl (Y.2.1.2.1, 8192, .inl aKnd)), (ad 10, .inl (Y.2.1.2.1, 8192, .inl aPrn)), (ad 11, .inl (Y.2.1.2.1, 8192, .inl aPlc)), (ad 12, .inl (Y.2.1.2.1, 8192, .inl aNpl)), (ad 13, .inl (Y.2.1.2.1, 8192, .inl aSpl)), (ad 14, .inl (Y.2.1.2.1, 8192, .inl aVar)), (ad 15, .inl (Y.2.1.2.1, 8192, .inl aVal)), (ad 16, .inl (Y.2.1.2.2, 8192, .inr (.inl aNam))), (ad 17, .inl (Y.2.1.2.2, 8192, .inr (.inl aSec))), (ad 18, .inl (Y.2.1.1, 33000, .inl aDue)), (ad 19, .inl (Y.2.1.2.1, 33000, .inl aDof))]) ⟨fT, rfl, hsz8, hlat⟩ 24 (by decide) (by omega) (by omega) _) (cwV 1 hw (zz_gV kw_696 kw_698 kw_41 kw_65 kw_699) rfl rfl rfl (by decide +kernel) ⟨Nat.le_of_ble_eq_true rfl, Nat.le_of_ble_eq_true rfl⟩) (zz_preV hK hG hA hP hD hS [0, 1, 2, 3, 4, 5, 6, 7, 8, 9, 10, 11, 12, 13, 14, 15, 16, 17, 18, 19, 20] rfl (by decide) rfl rfl) rfl rfl hl.1 rfl (lv_room (Nat.le_of_ble_eq_true rfl)) dc_M_changeableKind_31 ⟨Nat.le_of_ble_eq_true rfl, Nat.le_of_ble_eq_true rfl⟩) (fun r hr9 => ?_)
      subst hr9
      refine lv_if_eq (tgt := 42) hx hb dc_M_changeableKind_34 (by decide) (fun c_3 => ?_) (fun c_3 => ?_)
      · skip
        have c_3 := zz_bF c_3
        refine lv_aload_n hx hb dc_M_changeableKind_42 rfl (lv_at hl 0 rfl) ?_
        refine va_ldcS hx hb hown (hG.2.2.2.2.2.2 25 (by decide)).1 dc_M_changeableKind_43 ?_
        refine vp_callSi (W.runV (As := [.ref (Y.2.2.1 25)]) (rest := []) ⟨hx, hb, hml, hown, hw⟩ (ct_M_is l Y (wc := [(hm, .inr (4, [.int thr, .ref (ad 0), .int (nI size), .int flt, .int plc, .int (nI pp), .int tok, .int (nI att), .long spl, .int val, .int (nI defs), .ref (ad 1), .ref (ad 2), .ref (ad 3), .ref (ad 4), .ref (ad 5), .ref (ad 6), .ref (ad 7), .ref (ad 8), .int (nI nodes), .ref (ad 9), .ref (ad 10), .ref (ad 11), .ref (ad 12), .ref (ad 13), .ref (ad 14), .ref (ad 15), .ref (ad 16), .ref (ad 17), .ref (ad 18), .ref (ad 19), .int (nI dues), .int thn])), (ad 0, .inl (Y.2.1.1, 8192, .inl fT)), (ad 1, .inl (Y.2.1.2.1, 64, .inl aChg)), (ad 2, .inl (Y.2.1.2.1, 64, .inl aTyp)), (ad 3, .inl (Y.2.1.2.1, 64, .inl aPar)), (ad 4, .inl (Y.2.1.2.1, 64, .inl aFst)), (ad 5, .inl (Y.2.1.2.1, 64, .inl aTpl)), (ad 6, .inl (Y.2.1.2.2, 64, .inr (.inl aTit))), (ad 7, .inl (Y.2.1.2.2, 512, .inr (.inl aPnm))), (ad 8, .inl (Y.2.1.2.1, 512, .inl aPty)), (ad 9, .inl (Y.2.1.2.1, 8192, .inl aKnd)), (ad 10, .inl (Y.2.1.2.1, 8192, .inl aPrn)), (ad 11, .inl (Y.2.1.2.1, 8192, .inl aPlc)), (ad 12, .inl (Y.2.1.2.1, 8192, .inl aNpl)), (ad 13, .inl (Y.2.1.2.1, 8192, .inl aSpl)), (ad 14, .inl (Y.2.1.2.1, 8192, .inl aVar)), (ad 15, .inl (Y.2.1.2.1, 8192, .inl aVal)), (ad 16, .inl (Y.2.1.2.2, 8192, .inr (.inl aNam))), (ad 17, .inl (Y.2.1.2.2, 8192, .inr (.inl aSec))), (ad 18, .inl (Y.2.1.1, 33000, .inl aDue)), (ad 19, .inl (Y.2.1.2.1, 33000, .inl aDof))]) ⟨fT, rfl, hsz8, hlat⟩ 25 (by decide) (by omega) (by omega) _) (cwV 1 hw (zz_gV kw_696 kw_698 kw_41 kw_65 kw_699) rfl rfl rfl (by decide +kernel) ⟨Nat.le_of_ble_eq_true rfl, Nat.le_of_ble_eq_true rfl⟩) (zz_preV hK hG hA hP hD hS [0, 1, 2, 3, 4, 5, 6, 7, 8, 9, 10, 11, 12, 13, 14, 15, 16, 17, 18, 19, 20] rfl (by decide) rfl rfl) rfl rfl hl.1 rfl (lv_room (Nat.le_of_ble_eq_true rfl)) dc_M_changeableKind_45 ⟨Nat.le_of_ble_eq_true rfl, Nat.le_of_ble_eq_true rfl⟩) (fun r hr9 => ?_)
        subst hr9
        refine lv_if_eq (tgt := 56) hx hb dc_M_changeableKind_48 (by decide) (fun c_4 => ?_) (fun c_4 => ?_)
        · skip
          have c_4 := zz_bF c_4
          refine lv_aload_n hx hb dc_M_changeableKind_56 rfl (lv_at hl 0 rfl) ?_
          refine va_ldcS hx hb hown (hG.2.2.2.2.2.2 26 (by decide)).1 dc_M_changeableKind_57 ?_
          refine vp_callSi (W.runV (As := [.ref (Y.2.2.1 26)]) (rest := []) ⟨hx, hb, hml, hown, hw⟩ (ct_M_is l Y (wc := [(hm, .inr (4, [.int thr, .ref (ad 0), .int (nI size), .int flt, .int plc, .int (nI pp), .int tok, .int (nI att), .long spl, .int val, .int (nI defs), .ref (ad 1), .ref (ad 2), .ref (ad 3), .ref (ad 4), .ref (ad 5), .ref (ad 6), .ref (ad 7), .ref (ad 8), .int (nI nodes), .ref (ad 9), .ref (ad 10), .ref (ad 11), .ref (ad 12), .ref (ad 13), .ref (ad 14), .ref (ad 15), .ref (ad 16), .ref (ad 17), .ref (ad 18), .ref (ad 19), .int (nI dues), .int thn])), (ad 0, .inl (Y.2.1.1, 8192, .inl fT)), (ad 1, .inl (Y.2.1.2.1, 64, .inl aChg)), (ad 2, .inl (Y.2.1.2.1, 64, .inl aTyp)), (ad 3, .inl (Y.2.1.2.1, 64, .inl aPar)), (ad 4, .inl (Y.2.1.2.1, 64, .inl aFst)), (ad 5, .inl (Y.2.1.2.1, 64, .inl aTpl)), (ad 6, .inl (Y.2.1.2.2, 64, .inr (.inl aTit))), (ad 7, .inl (Y.2.1.2.2, 512, .inr (.inl aPnm))), (ad 8, .inl (Y.2.1.2.1, 512, .inl aPty)), (ad 9, .inl (Y.2.1.2.1, 8192, .inl aKnd)), (ad 10, .inl (Y.2.1.2.1, 8192, .inl aPrn)), (ad 11, .inl (Y.2.1.2.1, 8192, .inl aPlc)), (ad 12, .inl (Y.2.1.2.1, 8192, .inl aNpl)), (ad 13, .inl (Y.2.1.2.1, 8192, .inl aSpl)), (ad 14, .inl (Y.2.1.2.1, 8192, .inl aVar)), (ad 15, .inl (Y.2.1.2.1, 8192, .inl aVal)), (ad 16, .inl (Y.2.1.2.2, 8192, .inr (.inl aNam))), (ad 17, .inl (Y.2.1.2.2, 8192, .inr (.inl aSec))), (ad 18, .inl (Y.2.1.1, 33000, .inl aDue)), (ad 19, .inl (Y.2.1.2.1, 33000, .inl aDof))]) ⟨fT, rfl, hsz8, hlat⟩ 26 (by decide) (by omega) (by omega) _) (cwV 1 hw (zz_gV kw_696 kw_698 kw_41 kw_65 kw_699) rfl rfl rfl (by decide +kernel) ⟨Nat.le_of_ble_eq_true rfl, Nat.le_of_ble_eq_true rfl⟩) (zz_preV hK hG hA hP hD hS [0, 1, 2, 3, 4, 5, 6, 7, 8, 9, 10, 11, 12, 13, 14, 15, 16, 17, 18, 19, 20] rfl (by decide) rfl rfl) rfl rfl hl.1 rfl (lv_room (Nat.le_of_ble_eq_true rfl)) dc_M_changeableKind_59 ⟨Nat.le_of_ble_eq_true rfl, Nat.le_of_ble_eq_true rfl⟩) (fun r hr9 => ?_)
          subst hr9
          refine lv_if_eq (tgt := 70) hx hb dc_M_changeableKind_62 (by decide) (fun c_5 => ?_) (fun c_5 => ?_)
          · skip
            have c_5 := zz_bF c_5
            refine lv_aload_n hx hb dc_M_changeableKind_70 rfl (lv_at hl 0 rfl) ?_
            refine va_ldcS hx hb hown (hG.2.2.2.2.2.2 32 (by decide)).1 dc_M_changeableKind_71 ?_
            refine vp_callSi (W.runV (As := [.ref (Y.2.2.1 32)]) (rest := []) ⟨hx, hb, hml, hown, hw⟩ (ct_M_is l Y (wc := [(hm, .inr (4, [.int thr, .ref (ad 0), .int (nI size), .int flt, .int plc, .int (nI pp), .int tok, .int (nI att), .long spl, .int val, .int (nI defs), .ref (ad 1), .ref (ad 2), .ref (ad 3), .ref (ad 4), .ref (ad 5), .ref (ad 6), .ref (ad 7), .ref (ad 8), .int (nI nodes), .ref (ad 9), .ref (ad 10), .ref (ad 11), .ref (ad 12), .ref (ad 13), .ref (ad 14), .ref (ad 15), .ref (ad 16), .ref (ad 17), .ref (ad 18), .ref (ad 19), .int (nI dues), .int thn])), (ad 0, .inl (Y.2.1.1, 8192, .inl fT)), (ad 1, .inl (Y.2.1.2.1, 64, .inl aChg)), (ad 2, .inl (Y.2.1.2.1, 64, .inl aTyp)), (ad 3, .inl (Y.2.1.2.1, 64, .inl aPar)), (ad 4, .inl (Y.2.1.2.1, 64, .inl aFst)), (ad 5, .inl (Y.2.1.2.1, 64, .inl aTpl)), (ad 6, .inl (Y.2.1.2.2, 64, .inr (.inl aTit))), (ad 7, .inl (Y.2.1.2.2, 512, .inr (.inl aPnm))), (ad 8, .inl (Y.2.1.2.1, 512, .inl aPty)), (ad 9, .inl (Y.2.1.2.1, 8192, .inl aKnd)), (ad 10, .inl (Y.2.1.2.1, 8192, .inl aPrn)), (ad 11, .inl (Y.2.1.2.1, 8192, .inl aPlc)), (ad 12, .inl (Y.2.1.2.1, 8192, .inl aNpl)), (ad 13, .inl (Y.2.1.2.1, 8192, .inl aSpl)), (ad 14, .inl (Y.2.1.2.1, 8192, .inl aVar)), (ad 15, .inl (Y.2.1.2.1, 8192, .inl aVal)), (ad 16, .inl (Y.2.1.2.2, 8192, .inr (.inl aNam))), (ad 17, .inl (Y.2.1.2.2, 8192, .inr (.inl aSec))), (ad 18, .inl (Y.2.1.1, 33000, .inl aDue)), (ad 19, .inl (Y.2.1.2.1, 33000, .inl aDof))]) ⟨fT, rfl, hsz8, hlat⟩ 32 (by decide) (by omega) (by omega) _) (cwV 1 hw (zz_gV kw_696 kw_698 kw_41 kw_65 kw_699) rfl rfl rfl (by decide +kernel) ⟨Nat.le_of_ble_eq_true rfl, Nat.le_of_ble_eq_true rfl⟩) (zz_preV hK hG hA hP hD hS [0, 1, 2, 3, 4, 5, 6, 7, 8, 9, 10, 11, 12, 13, 14, 15, 16, 17, 18, 19, 20] rfl (by decide) rfl rfl) rfl rfl hl.1 rfl (lv_room (Nat.le_of_ble_eq_true rfl)) dc_M_changeableKind_73 ⟨Nat.le_of_ble_eq_true rfl, Nat.le_of_ble_eq_true rfl⟩) (fun r hr9 => ?_)
            subst hr9
            refine lv_if_eq (tgt := 84) hx hb dc_M_changeableKind_76 (by decide) (fun c_6 => ?_) (fun c_6 => ?_)
            · skip
              have c_6 := zz_bF c_6
              refine lv_iconst (v := (-1)) hx hb dc_M_changeableKind_84 (by decide) ?_
              have eF : zm_changeableKind tx pp tok att = (-1) := by rw [zm_changeableKind, if_neg c_1, if_neg c_2, if_neg c_3, if_neg c_4, if_neg c_5, if_neg c_6]
              exact zz_iret0 hx hb hr rfl hlocks (by rw [eF]) dc_M_changeableKind_85
            · skip
              have c_6 := zz_bT c_6
              refine lv_bipush (v := 23) hx hb dc_M_changeableKind_79 (by decide) ?_
              refine lv_goto (tgt := 85) hx hb dc_M_changeableKind_81 (by decide) ?_
              have eF : zm_changeableKind tx pp tok att = 23 := by rw [zm_changeableKind, if_neg c_1, if_neg c_2, if_neg c_3, if_neg c_4, if_neg c_5, if_pos c_6]
              exact zz_iret0 hx hb hr rfl hlocks (by rw [eF]) dc_M_changeableKind_85
          · skip
            have c_5 := zz_bT c_5
            refine lv_bipush (v := 22) hx hb dc_M_changeableKind_65 (by decide) ?_
            refine lv_goto (tgt := 85) hx hb dc_M_changeableKind_67 (by decide) ?_
            have eF : zm_changeableKind tx pp tok att = 22 := by rw [zm_changeableKind, if_neg c_1, if_neg c_2, if_neg c_3, if_neg c_4, if_pos c_5]
            exact zz_iret0 hx hb hr rfl hlocks (by rw [eF]) dc_M_changeableKind_85
        · skip
          have c_4 := zz_bT c_4
          refine lv_bipush (v := 21) hx hb dc_M_changeableKind_51 (by decide) ?_
          refine lv_goto (tgt := 85) hx hb dc_M_changeableKind_53 (by decide) ?_
          have eF : zm_changeableKind tx pp tok att = 21 := by rw [zm_changeableKind, if_neg c_1, if_neg c_2, if_neg c_3, if_pos c_4]
          exact zz_iret0 hx hb hr rfl hlocks (by rw [eF]) dc_M_changeableKind_85
      · skip
        have c_3 := zz_bT c_3
        refine lv_bipush (v := 20) hx hb dc_M_changeableKind_37 (by decide) ?_
        refine lv_goto (tgt := 85) hx hb dc_M_changeableKind_39 (by decide) ?_
        have eF : zm_changeableKind tx pp tok att = 20 := by rw [zm_changeableKind, if_neg c_1, if_neg c_2, if_pos c_3]
        exact zz_iret0 hx hb hr rfl hlocks (by rw [eF]) dc_M_changeableKind_85
    · skip
      have c_2 := zz_bT c_2
      refine lv_bipush (v := 19) hx hb dc_M_changeableKind_23 (by decide) ?_
      refine lv_goto (tgt := 85) hx hb dc_M_changeableKind_25 (by decide) ?_
      have eF : zm_changeableKind tx pp tok att = 19 := by rw [zm_changeableKind, if_neg c_1, if_pos c_2]
      exact zz_iret0 hx hb hr rfl hlocks (by rw [eF]) dc_M_changeableKind_85
  · skip
    have c_1 := zz_bT c_1
    refine lv_bipush (v := 18) hx hb dc_M_changeableKind_9 (by decide) ?_
    refine lv_goto (tgt := 85) hx hb dc_M_changeableKind_11 (by decide) ?_
    have eF : zm_changeableKind tx pp tok att = 18 := by rw [zm_changeableKind, if_pos c_1]
    exact zz_iret0 hx hb hr rfl hlocks (by rw [eF]) dc_M_changeableKind_85

def zm_stableKind (tx : Nat → Nat) (pp : Nat) (tok : Int32) (att : Nat)  : Int32 :=
  if (zm_operation tx pp tok att) < 0 then if (zm_is tx pp tok att 24) = true then 10 else if (zm_is tx pp tok att 25) = true then 11 else if (zm_is tx pp tok att 26) = true then 12 else if (zm_is tx pp tok att 27) = true then 13 else if (zm_is tx pp tok att 28) = true then 14 else if (zm_is tx pp tok att 29) = true then 15 else if (zm_is tx pp tok att 15) = true then 16 else if (zm_is tx pp tok att 16) = true then 17 else (-1) else zm_operation tx pp tok att
set_option maxHeartbeats 4000000 in
set_option maxRecDepth 100000 in
theorem ct_M_stableKind (l : Launch) (Y : zz_Y) {hm : Nat} {ad : Nat → Nat} {tx : Nat → Nat} {thr : Int32} {size : Nat} {flt : Int32} {plc : Int32} {pp : Nat} {tok : Int32} {att : Nat} {spl : Int64} {val : Int32} {defs : Nat} {nodes : Nat} {dues : Nat} {thn : Int32} {aChg : Nat → Int32} {aTyp : Nat → Int32} {aPar : Nat → Int32} {aFst : Nat → Int32} {aTpl : Nat → Int32} {aTit : Nat → Int64} {aPnm : Nat → Int64} {aPty : Nat → Int32} {aKnd : Nat → Int32} {aPrn : Nat → Int32} {aPlc : Nat → Int32} {aNpl : Nat → Int32} {aSpl : Nat → Int32} {aVar : Nat → Int32} {aVal : Nat → Int32} {aNam : Nat → Int64} {aSec : Nat → Int64} {aDue : Nat → Int32} {aDof : Nat → Int32} {wc : va_W} (hok : zm_OK Y hm ad tx thr size flt plc pp tok att spl val defs nodes dues thn aChg aTyp aPar aFst aTpl aTit aPnm aPty aKnd aPrn aPlc aNpl aSpl aVar aVal aNam aSec aDue aDof wc) (hat : att ≤ pp) (hps : pp ≤ size) : zz_I0 l Y yn_M_stableKind bc_M_stableKind 1 (some .int) { frames := 6, cells := 0, slots := 0, locals := 128 } [.ref hm] wc (fun r => r = zm_stableKind tx pp tok att) := by
  intro sz
  obtain ⟨fT, rfl, hsz8, hlat⟩ := hok
  refine zz_of (cc := bc_M_stableKind) (maxL := 1) (ret := (some .int)) (by decide) (Nat.le_of_ble_eq_true rfl) ?_
  intro p e s m below meth c A ls hsz C0 hl
  subst hsz
  obtain ⟨hx, hb, hr, hml, hlocks, hin, hown, hw, hAe, hA, hK, hG, hP, hD, hS⟩ := id C0
  have hown : s.vm.findClass "TwoLevelParserModel" = some m.cls := hown
  have hl : lv_has ls 1 [(0, .ref hm)] := hl
  refine lv_aload_n hx hb dc_M_stableKind_0 rfl (lv_at hl 0 rfl) ?_
  refine vp_callSi (W.runV (As := []) (rest := []) ⟨hx, hb, hml, hown, hw⟩ (ct_M_operation l Y (wc := [(hm, .inr (4, [.int thr, .ref (ad 0), .int (nI size), .int flt, .int plc, .int (nI pp), .int tok, .int (nI att), .long spl, .int val, .int (nI defs), .ref (ad 1), .ref (ad 2), .ref (ad 3), .ref (ad 4), .ref (ad 5), .ref (ad 6), .ref (ad 7), .ref (ad 8), .int (nI nodes), .ref (ad 9), .ref (ad 10), .ref (ad 11), .ref (ad 12), .ref (ad 13), .ref (ad 14), .ref (ad 15), .ref (ad 16), .ref (ad 17), .ref (ad 18), .ref (ad 19), .int (nI dues), .int thn])), (ad 0, .inl (Y.2.1.1, 8192, .inl fT)), (ad 1, .inl (Y.2.1.2.1, 64, .inl aChg)), (ad 2, .inl (Y.2.1.2.1, 64, .inl aTyp)), (ad 3, .inl (Y.2.1.2.1, 64, .inl aPar)), (ad 4, .inl (Y.2.1.2.1, 64, .inl aFst)), (ad 5, .inl (Y.2.1.2.1, 64, .inl aTpl)), (ad 6, .inl (Y.2.1.2.2, 64, .inr (.inl aTit))), (ad 7, .inl (Y.2.1.2.2, 512, .inr (.inl aPnm))), (ad 8, .inl (Y.2.1.2.1, 512, .inl aPty)), (ad 9, .inl (Y.2.1.2.1, 8192, .inl aKnd)), (ad 10, .inl (Y.2.1.2.1, 8192, .inl aPrn)), (ad 11, .inl (Y.2.1.2.1, 8192, .inl aPlc)), (ad 12, .inl (Y.2.1.2.1, 8192, .inl aNpl)), (ad 13, .inl (Y.2.1.2.1, 8192, .inl aSpl)), (ad 14, .inl (Y.2.1.2.1, 8192, .inl aVar)), (ad 15, .inl (Y.2.1.2.1, 8192, .inl aVal)), (ad 16, .inl (Y.2.1.2.2, 8192, .inr (.inl aNam))), (ad 17, .inl (Y.2.1.2.2, 8192, .inr (.inl aSec))), (ad 18, .inl (Y.2.1.1, 33000, .inl aDue)), (ad 19, .inl (Y.2.1.2.1, 33000, .inl aDof))]) ⟨fT, rfl, hsz8, hlat⟩  (by omega) (by omega) _) (cwV 0 hw (zz_gV kw_719 kw_721 kw_45 kw_65 kw_722) rfl rfl rfl (by decide +kernel) ⟨Nat.le_of_ble_eq_true rfl, Nat.le_of_ble_eq_true rfl⟩) (zz_preV hK hG hA hP hD hS [0, 1, 2, 3, 4, 5, 6, 7, 8, 9, 10, 11, 12, 13, 14, 15, 16, 17, 18, 19, 20] rfl (by decide) rfl rfl) rfl rfl hl.1 rfl (lv_room (Nat.le_of_ble_eq_true rfl)) dc_M_stableKind_1 ⟨Nat.le_of_ble_eq_true rfl, Nat.le_of_ble_eq_true rfl⟩) (fun r hr9 => ?_)
  subst hr9
  refine lv_if_lt (tgt := 12) hx hb dc_M_stableKind_4 (by decide) (fun c_1 => ?_) (fun c_1 => ?_)
  · skip
    refine lv_aload_n hx hb dc_M_stableKind_12 rfl (lv_at hl 0 rfl) ?_
    refine va_ldcS hx hb hown (hG.2.2.2.2.2.2 24 (by decide)).1 dc_M_stableKind_13 ?_
    refine vp_callSi (W.runV (As := [.ref (Y.2.2.1 24)]) (rest := []) ⟨hx, hb, hml, hown, hw⟩ (ct_M_is l Y (wc := [(hm, .inr (4, [.int thr, .ref (ad 0), .int (nI size), .int flt, .int plc, .int (nI pp), .int tok, .int (nI att), .long spl, .int val, .int (nI defs), .ref (ad 1), .ref (ad 2), .ref (ad 3), .ref (ad 4), .ref (ad 5), .ref (ad 6), .ref (ad 7), .ref (ad 8), .int (nI nodes), .ref (ad 9), .ref (ad 10), .ref (ad 11), .ref (ad 12), .ref (ad 13), .ref (ad 14), .ref (ad 15), .ref (ad 16), .ref (ad 17), .ref (ad 18), .ref (ad 19), .int (nI dues), .int thn])), (ad 0, .inl (Y.2.1.1, 8192, .inl fT)), (ad 1, .inl (Y.2.1.2.1, 64, .inl aChg)), (ad 2, .inl (Y.2.1.2.1, 64, .inl aTyp)), (ad 3, .inl (Y.2.1.2.1, 64, .inl aPar)), (ad 4, .inl (Y.2.1.2.1, 64, .inl aFst)), (ad 5, .inl (Y.2.1.2.1, 64, .inl aTpl)), (ad 6, .inl (Y.2.1.2.2, 64, .inr (.inl aTit))), (ad 7, .inl (Y.2.1.2.2, 512, .inr (.inl aPnm))), (ad 8, .inl (Y.2.1.2.1, 512, .inl aPty)), (ad 9, .inl (Y.2.1.2.1, 8192, .inl aKnd)), (ad 10, .inl (Y.2.1.2.1, 8192, .inl aPrn)), (ad 11, .inl (Y.2.1.2.1, 8192, .inl aPlc)), (ad 12, .inl (Y.2.1.2.1, 8192, .inl aNpl)), (ad 13, .inl (Y.2.1.2.1, 8192, .inl aSpl)), (ad 14, .inl (Y.2.1.2.1, 8192, .inl aVar)), (ad 15, .inl (Y.2.1.2.1, 8192, .inl aVal)), (ad 16, .inl (Y.2.1.2.2, 8192, .inr (.inl aNam))), (ad 17, .inl (Y.2.1.2.2, 8192, .inr (.inl aSec))), (ad 18, .inl (Y.2.1.1, 33000, .inl aDue)), (ad 19, .inl (Y.2.1.2.1, 33000, .inl aDof))]) ⟨fT, rfl, hsz8, hlat⟩ 24 (by decide) (by omega) (by omega) _) (cwV 1 hw (zz_gV kw_696 kw_698 kw_41 kw_65 kw_699) rfl rfl rfl (by decide +kernel) ⟨Nat.le_of_ble_eq_true rfl, Nat.le_of_ble_eq_true rfl⟩) (zz_preV hK hG hA hP hD hS [0, 1, 2, 3, 4, 5, 6, 7, 8, 9, 10, 11, 12, 13, 14, 15, 16, 17, 18, 19, 20] rfl (by decide) rfl rfl) rfl rfl hl.1 rfl (lv_room (Nat.le_of_ble_eq_true rfl)) dc_M_stableKind_15 ⟨Nat.le_of_ble_eq_true rfl, Nat.le_of_ble_eq_true rfl⟩) (fun r hr9 => ?_)
    subst hr9
    refine lv_if_eq (tgt := 26) hx hb dc_M_stableKind_18 (by decide) (fun c_2 => ?_) (fun c_2 => ?_)
    · skip
      have c_2 := zz_bF c_2
      refine lv_aload_n hx hb dc_M_stableKind_26 rfl (lv_at hl 0 rfl) ?_
      refine va_ldcS hx hb hown (hG.2.2.2.2.2.2 25 (by decide)).1 dc_M_stableKind_27 ?_
      refine vp_callSi (W.runV (As := [.ref (Y.2.2.1 25)]) (rest := []) ⟨hx, hb, hml, hown, hw⟩ (ct_M_is l Y (wc := [(hm, .inr (4, [.int thr, .ref (ad 0), .int (nI size), .int flt, .int plc, .int (nI pp), .int tok, .int (nI att), .long spl, .int val, .int (nI defs), .ref (ad 1), .ref (ad 2), .ref (ad 3), .ref (ad 4), .ref (ad 5), .ref (ad 6), .ref (ad 7), .ref (ad 8), .int (nI nodes), .ref (ad 9), .ref (ad 10), .ref (ad 11), .ref (ad 12), .ref (ad 13), .ref (ad 14), .ref (ad 15), .ref (ad 16), .ref (ad 17), .ref (ad 18), .ref (ad 19), .int (nI dues), .int thn])), (ad 0, .inl (Y.2.1.1, 8192, .inl fT)), (ad 1, .inl (Y.2.1.2.1, 64, .inl aChg)), (ad 2, .inl (Y.2.1.2.1, 64, .inl aTyp)), (ad 3, .inl (Y.2.1.2.1, 64, .inl aPar)), (ad 4, .inl (Y.2.1.2.1, 64, .inl aFst)), (ad 5, .inl (Y.2.1.2.1, 64, .inl aTpl)), (ad 6, .inl (Y.2.1.2.2, 64, .inr (.inl aTit))), (ad 7, .inl (Y.2.1.2.2, 512, .inr (.inl aPnm))), (ad 8, .inl (Y.2.1.2.1, 512, .inl aPty)), (ad 9, .inl (Y.2.1.2.1, 8192, .inl aKnd)), (ad 10, .inl (Y.2.1.2.1, 8192, .inl aPrn)), (ad 11, .inl (Y.2.1.2.1, 8192, .inl aPlc)), (ad 12, .inl (Y.2.1.2.1, 8192, .inl aNpl)), (ad 13, .inl (Y.2.1.2.1, 8192, .inl aSpl)), (ad 14, .inl (Y.2.1.2.1, 8192, .inl aVar)), (ad 15, .inl (Y.2.1.2.1, 8192, .inl aVal)), (ad 16, .inl (Y.2.1.2.2, 8192, .inr (.inl aNam))), (ad 17, .inl (Y.2.1.2.2, 8192, .inr (.inl aSec))), (ad 18, .inl (Y.2.1.1, 33000, .inl aDue)), (ad 19, .inl (Y.2.1.2.1, 33000, .inl aDof))]) ⟨fT, rfl, hsz8, hlat⟩ 25 (by decide) (by omega) (by omega) _) (cwV 1 hw (zz_gV kw_696 kw_698 kw_41 kw_65 kw_699) rfl rfl rfl (by decide +kernel) ⟨Nat.le_of_ble_eq_true rfl, Nat.le_of_ble_eq_true rfl⟩) (zz_preV hK hG hA hP hD hS [0, 1, 2, 3, 4, 5, 6, 7, 8, 9, 10, 11, 12, 13, 14, 15, 16, 17, 18, 19, 20] rfl (by decide) rfl rfl) rfl rfl hl.1 rfl (lv_room (Nat.le_of_ble_eq_true rfl)) dc_M_stableKind_29 ⟨Nat.le_of_ble_eq_true rfl, Nat.le_of_ble_eq_true rfl⟩) (fun r hr9 => ?_)
      subst hr9
      refine lv_if_eq (tgt := 40) hx hb dc_M_stableKind_32 (by decide) (fun c_3 => ?_) (fun c_3 => ?_)
      · skip
        have c_3 := zz_bF c_3
        refine lv_aload_n hx hb dc_M_stableKind_40 rfl (lv_at hl 0 rfl) ?_
        refine va_ldcS hx hb hown (hG.2.2.2.2.2.2 26 (by decide)).1 dc_M_stableKind_41 ?_
        refine vp_callSi (W.runV (As := [.ref (Y.2.2.1 26)]) (rest := []) ⟨hx, hb, hml, hown, hw⟩ (ct_M_is l Y (wc := [(hm, .inr (4, [.int thr, .ref (ad 0), .int (nI size), .int flt, .int plc, .int (nI pp), .int tok, .int (nI att), .long spl, .int val, .int (nI defs), .ref (ad 1), .ref (ad 2), .ref (ad 3), .ref (ad 4), .ref (ad 5), .ref (ad 6), .ref (ad 7), .ref (ad 8), .int (nI nodes), .ref (ad 9), .ref (ad 10), .ref (ad 11), .ref (ad 12), .ref (ad 13), .ref (ad 14), .ref (ad 15), .ref (ad 16), .ref (ad 17), .ref (ad 18), .ref (ad 19), .int (nI dues), .int thn])), (ad 0, .inl (Y.2.1.1, 8192, .inl fT)), (ad 1, .inl (Y.2.1.2.1, 64, .inl aChg)), (ad 2, .inl (Y.2.1.2.1, 64, .inl aTyp)), (ad 3, .inl (Y.2.1.2.1, 64, .inl aPar)), (ad 4, .inl (Y.2.1.2.1, 64, .inl aFst)), (ad 5, .inl (Y.2.1.2.1, 64, .inl aTpl)), (ad 6, .inl (Y.2.1.2.2, 64, .inr (.inl aTit))), (ad 7, .inl (Y.2.1.2.2, 512, .inr (.inl aPnm))), (ad 8, .inl (Y.2.1.2.1, 512, .inl aPty)), (ad 9, .inl (Y.2.1.2.1, 8192, .inl aKnd)), (ad 10, .inl (Y.2.1.2.1, 8192, .inl aPrn)), (ad 11, .inl (Y.2.1.2.1, 8192, .inl aPlc)), (ad 12, .inl (Y.2.1.2.1, 8192, .inl aNpl)), (ad 13, .inl (Y.2.1.2.1, 8192, .inl aSpl)), (ad 14, .inl (Y.2.1.2.1, 8192, .inl aVar)), (ad 15, .inl (Y.2.1.2.1, 8192, .inl aVal)), (ad 16, .inl (Y.2.1.2.2, 8192, .inr (.inl aNam))), (ad 17, .inl (Y.2.1.2.2, 8192, .inr (.inl aSec))), (ad 18, .inl (Y.2.1.1, 33000, .inl aDue)), (ad 19, .inl (Y.2.1.2.1, 33000, .inl aDof))]) ⟨fT, rfl, hsz8, hlat⟩ 26 (by decide) (by omega) (by omega) _) (cwV 1 hw (zz_gV kw_696 kw_698 kw_41 kw_65 kw_699) rfl rfl rfl (by decide +kernel) ⟨Nat.le_of_ble_eq_true rfl, Nat.le_of_ble_eq_true rfl⟩) (zz_preV hK hG hA hP hD hS [0, 1, 2, 3, 4, 5, 6, 7, 8, 9, 10, 11, 12, 13, 14, 15, 16, 17, 18, 19, 20] rfl (by decide) rfl rfl) rfl rfl hl.1 rfl (lv_room (Nat.le_of_ble_eq_true rfl)) dc_M_stableKind_43 ⟨Nat.le_of_ble_eq_true rfl, Nat.le_of_ble_eq_true rfl⟩) (fun r hr9 => ?_)
        subst hr9
        refine lv_if_eq (tgt := 54) hx hb dc_M_stableKind_46 (by decide) (fun c_4 => ?_) (fun c_4 => ?_)
        · skip
          have c_4 := zz_bF c_4
          refine lv_aload_n hx hb dc_M_stableKind_54 rfl (lv_at hl 0 rfl) ?_
          refine va_ldcS hx hb hown (hG.2.2.2.2.2.2 27 (by decide)).1 dc_M_stableKind_55 ?_
          refine vp_callSi (W.runV (As := [.ref (Y.2.2.1 27)]) (rest := []) ⟨hx, hb, hml, hown, hw⟩ (ct_M_is l Y (wc := [(hm, .inr (4, [.int thr, .ref (ad 0), .int (nI size), .int flt, .int plc, .int (nI pp), .int tok, .int (nI att), .long spl, .int val, .int (nI defs), .ref (ad 1), .ref (ad 2), .ref (ad 3), .ref (ad 4), .ref (ad 5), .ref (ad 6), .ref (ad 7), .ref (ad 8), .int (nI nodes), .ref (ad 9), .ref (ad 10), .ref (ad 11), .ref (ad 12), .ref (ad 13), .ref (ad 14), .ref (ad 15), .ref (ad 16), .ref (ad 17), .ref (ad 18), .ref (ad 19), .int (nI dues), .int thn])), (ad 0, .inl (Y.2.1.1, 8192, .inl fT)), (ad 1, .inl (Y.2.1.2.1, 64, .inl aChg)), (ad 2, .inl (Y.2.1.2.1, 64, .inl aTyp)), (ad 3, .inl (Y.2.1.2.1, 64, .inl aPar)), (ad 4, .inl (Y.2.1.2.1, 64, .inl aFst)), (ad 5, .inl (Y.2.1.2.1, 64, .inl aTpl)), (ad 6, .inl (Y.2.1.2.2, 64, .inr (.inl aTit))), (ad 7, .inl (Y.2.1.2.2, 512, .inr (.inl aPnm))), (ad 8, .inl (Y.2.1.2.1, 512, .inl aPty)), (ad 9, .inl (Y.2.1.2.1, 8192, .inl aKnd)), (ad 10, .inl (Y.2.1.2.1, 8192, .inl aPrn)), (ad 11, .inl (Y.2.1.2.1, 8192, .inl aPlc)), (ad 12, .inl (Y.2.1.2.1, 8192, .inl aNpl)), (ad 13, .inl (Y.2.1.2.1, 8192, .inl aSpl)), (ad 14, .inl (Y.2.1.2.1, 8192, .inl aVar)), (ad 15, .inl (Y.2.1.2.1, 8192, .inl aVal)), (ad 16, .inl (Y.2.1.2.2, 8192, .inr (.inl aNam))), (ad 17, .inl (Y.2.1.2.2, 8192, .inr (.inl aSec))), (ad 18, .inl (Y.2.1.1, 33000, .inl aDue)), (ad 19, .inl (Y.2.1.2.1, 33000, .inl aDof))]) ⟨fT, rfl, hsz8, hlat⟩ 27 (by decide) (by omega) (by omega) _) (cwV 1 hw (zz_gV kw_696 kw_698 kw_41 kw_65 kw_699) rfl rfl rfl (by decide +kernel) ⟨Nat.le_of_ble_eq_true rfl, Nat.le_of_ble_eq_true rfl⟩) (zz_preV hK hG hA hP hD hS [0, 1, 2, 3, 4, 5, 6, 7, 8, 9, 10, 11, 12, 13, 14, 15, 16, 17, 18, 19, 20] rfl (by decide) rfl rfl) rfl rfl hl.1 rfl (lv_room (Nat.le_of_ble_eq_true rfl)) dc_M_stableKind_57 ⟨Nat.le_of_ble_eq_true rfl, Nat.le_of_ble_eq_true rfl⟩) (fun r hr9 => ?_)
          subst hr9
          refine lv_if_eq (tgt := 68) hx hb dc_M_stableKind_60 (by decide) (fun c_5 => ?_) (fun c_5 => ?_)
          · skip
            have c_5 := zz_bF c_5
            refine lv_aload_n hx hb dc_M_stableKind_68 rfl (lv_at hl 0 rfl) ?_
            refine va_ldcS hx hb hown (hG.2.2.2.2.2.2 28 (by decide)).1 dc_M_stableKind_69 ?_
            refine vp_callSi (W.runV (As := [.ref (Y.2.2.1 28)]) (rest := []) ⟨hx, hb, hml, hown, hw⟩ (ct_M_is l Y (wc := [(hm, .inr (4, [.int thr, .ref (ad 0), .int (nI size), .int flt, .int plc, .int (nI pp), .int tok, .int (nI att), .long spl, .int val, .int (nI defs), .ref (ad 1), .ref (ad 2), .ref (ad 3), .ref (ad 4), .ref (ad 5), .ref (ad 6), .ref (ad 7), .ref (ad 8), .int (nI nodes), .ref (ad 9), .ref (ad 10), .ref (ad 11), .ref (ad 12), .ref (ad 13), .ref (ad 14), .ref (ad 15), .ref (ad 16), .ref (ad 17), .ref (ad 18), .ref (ad 19), .int (nI dues), .int thn])), (ad 0, .inl (Y.2.1.1, 8192, .inl fT)), (ad 1, .inl (Y.2.1.2.1, 64, .inl aChg)), (ad 2, .inl (Y.2.1.2.1, 64, .inl aTyp)), (ad 3, .inl (Y.2.1.2.1, 64, .inl aPar)), (ad 4, .inl (Y.2.1.2.1, 64, .inl aFst)), (ad 5, .inl (Y.2.1.2.1, 64, .inl aTpl)), (ad 6, .inl (Y.2.1.2.2, 64, .inr (.inl aTit))), (ad 7, .inl (Y.2.1.2.2, 512, .inr (.inl aPnm))), (ad 8, .inl (Y.2.1.2.1, 512, .inl aPty)), (ad 9, .inl (Y.2.1.2.1, 8192, .inl aKnd)), (ad 10, .inl (Y.2.1.2.1, 8192, .inl aPrn)), (ad 11, .inl (Y.2.1.2.1, 8192, .inl aPlc)), (ad 12, .inl (Y.2.1.2.1, 8192, .inl aNpl)), (ad 13, .inl (Y.2.1.2.1, 8192, .inl aSpl)), (ad 14, .inl (Y.2.1.2.1, 8192, .inl aVar)), (ad 15, .inl (Y.2.1.2.1, 8192, .inl aVal)), (ad 16, .inl (Y.2.1.2.2, 8192, .inr (.inl aNam))), (ad 17, .inl (Y.2.1.2.2, 8192, .inr (.inl aSec))), (ad 18, .inl (Y.2.1.1, 33000, .inl aDue)), (ad 19, .inl (Y.2.1.2.1, 33000, .inl aDof))]) ⟨fT, rfl, hsz8, hlat⟩ 28 (by decide) (by omega) (by omega) _) (cwV 1 hw (zz_gV kw_696 kw_698 kw_41 kw_65 kw_699) rfl rfl rfl (by decide +kernel) ⟨Nat.le_of_ble_eq_true rfl, Nat.le_of_ble_eq_true rfl⟩) (zz_preV hK hG hA hP hD hS [0, 1, 2, 3, 4, 5, 6, 7, 8, 9, 10, 11, 12, 13, 14, 15, 16, 17, 18, 19, 20] rfl (by decide) rfl rfl) rfl rfl hl.1 rfl (lv_room (Nat.le_of_ble_eq_true rfl)) dc_M_stableKind_71 ⟨Nat.le_of_ble_eq_true rfl, Nat.le_of_ble_eq_true rfl⟩) (fun r hr9 => ?_)
            subst hr9
            refine lv_if_eq (tgt := 82) hx hb dc_M_stableKind_74 (by decide) (fun c_6 => ?_) (fun c_6 => ?_)
            · skip
              have c_6 := zz_bF c_6
              refine lv_aload_n hx hb dc_M_stableKind_82 rfl (lv_at hl 0 rfl) ?_
              refine va_ldcS hx hb hown (hG.2.2.2.2.2.2 29 (by decide)).1 dc_M_stableKind_83 ?_
              refine vp_callSi (W.runV (As := [.ref (Y.2.2.1 29)]) (rest := []) ⟨hx, hb, hml, hown, hw⟩ (ct_M_is l Y (wc := [(hm, .inr (4, [.int thr, .ref (ad 0), .int (nI size), .int flt, .int plc, .int (nI pp), .int tok, .int (nI att), .long spl, .int val, .int (nI defs), .ref (ad 1), .ref (ad 2), .ref (ad 3), .ref (ad 4), .ref (ad 5), .ref (ad 6), .ref (ad 7), .ref (ad 8), .int (nI nodes), .ref (ad 9), .ref (ad 10), .ref (ad 11), .ref (ad 12), .ref (ad 13), .ref (ad 14), .ref (ad 15), .ref (ad 16), .ref (ad 17), .ref (ad 18), .ref (ad 19), .int (nI dues), .int thn])), (ad 0, .inl (Y.2.1.1, 8192, .inl fT)), (ad 1, .inl (Y.2.1.2.1, 64, .inl aChg)), (ad 2, .inl (Y.2.1.2.1, 64, .inl aTyp)), (ad 3, .inl (Y.2.1.2.1, 64, .inl aPar)), (ad 4, .inl (Y.2.1.2.1, 64, .inl aFst)), (ad 5, .inl (Y.2.1.2.1, 64, .inl aTpl)), (ad 6, .inl (Y.2.1.2.2, 64, .inr (.inl aTit))), (ad 7, .inl (Y.2.1.2.2, 512, .inr (.inl aPnm))), (ad 8, .inl (Y.2.1.2.1, 512, .inl aPty)), (ad 9, .inl (Y.2.1.2.1, 8192, .inl aKnd)), (ad 10, .inl (Y.2.1.2.1, 8192, .inl aPrn)), (ad 11, .inl (Y.2.1.2.1, 8192, .inl aPlc)), (ad 12, .inl (Y.2.1.2.1, 8192, .inl aNpl)), (ad 13, .inl (Y.2.1.2.1, 8192, .inl aSpl)), (ad 14, .inl (Y.2.1.2.1, 8192, .inl aVar)), (ad 15, .inl (Y.2.1.2.1, 8192, .inl aVal)), (ad 16, .inl (Y.2.1.2.2, 8192, .inr (.inl aNam))), (ad 17, .inl (Y.2.1.2.2, 8192, .inr (.inl aSec))), (ad 18, .inl (Y.2.1.1, 33000, .inl aDue)), (ad 19, .inl (Y.2.1.2.1, 33000, .inl aDof))]) ⟨fT, rfl, hsz8, hlat⟩ 29 (by decide) (by omega) (by omega) _) (cwV 1 hw (zz_gV kw_696 kw_698 kw_41 kw_65 kw_699) rfl rfl rfl (by decide +kernel) ⟨Nat.le_of_ble_eq_true rfl, Nat.le_of_ble_eq_true rfl⟩) (zz_preV hK hG hA hP hD hS [0, 1, 2, 3, 4, 5, 6, 7, 8, 9, 10, 11, 12, 13, 14, 15, 16, 17, 18, 19, 20] rfl (by decide) rfl rfl) rfl rfl hl.1 rfl (lv_room (Nat.le_of_ble_eq_true rfl)) dc_M_stableKind_85 ⟨Nat.le_of_ble_eq_true rfl, Nat.le_of_ble_eq_true rfl⟩) (fun r hr9 => ?_)
              subst hr9
              refine lv_if_eq (tgt := 96) hx hb dc_M_stableKind_88 (by decide) (fun c_7 => ?_) (fun c_7 => ?_)
              · skip
                have c_7 := zz_bF c_7
                refine lv_aload_n hx hb dc_M_stableKind_96 rfl (lv_at hl 0 rfl) ?_
                refine va_ldcS hx hb hown (hG.2.2.2.2.2.2 15 (by decide)).1 dc_M_stableKind_97 ?_
                refine vp_callSi (W.runV (As := [.ref (Y.2.2.1 15)]) (rest := []) ⟨hx, hb, hml, hown, hw⟩ (ct_M_is l Y (wc := [(hm, .inr (4, [.int thr, .ref (ad 0), .int (nI size), .int flt, .int plc, .int (nI pp), .int tok, .int (nI att), .long spl, .int val, .int (nI defs), .ref (ad 1), .ref (ad 2), .ref (ad 3), .ref (ad 4), .ref (ad 5), .ref (ad 6), .ref (ad 7), .ref (ad 8), .int (nI nodes), .ref (ad 9), .ref (ad 10), .ref (ad 11), .ref (ad 12), .ref (ad 13), .ref (ad 14), .ref (ad 15), .ref (ad 16), .ref (ad 17), .ref (ad 18), .ref (ad 19), .int (nI dues), .int thn])), (ad 0, .inl (Y.2.1.1, 8192, .inl fT)), (ad 1, .inl (Y.2.1.2.1, 64, .inl aChg)), (ad 2, .inl (Y.2.1.2.1, 64, .inl aTyp)), (ad 3, .inl (Y.2.1.2.1, 64, .inl aPar)), (ad 4, .inl (Y.2.1.2.1, 64, .inl aFst)), (ad 5, .inl (Y.2.1.2.1, 64, .inl aTpl)), (ad 6, .inl (Y.2.1.2.2, 64, .inr (.inl aTit))), (ad 7, .inl (Y.2.1.2.2, 512, .inr (.inl aPnm))), (ad 8, .inl (Y.2.1.2.1, 512, .inl aPty)), (ad 9, .inl (Y.2.1.2.1, 8192, .inl aKnd)), (ad 10, .inl (Y.2.1.2.1, 8192, .inl aPrn)), (ad 11, .inl (Y.2.1.2.1, 8192, .inl aPlc)), (ad 12, .inl (Y.2.1.2.1, 8192, .inl aNpl)), (ad 13, .inl (Y.2.1.2.1, 8192, .inl aSpl)), (ad 14, .inl (Y.2.1.2.1, 8192, .inl aVar)), (ad 15, .inl (Y.2.1.2.1, 8192, .inl aVal)), (ad 16, .inl (Y.2.1.2.2, 8192, .inr (.inl aNam))), (ad 17, .inl (Y.2.1.2.2, 8192, .inr (.inl aSec))), (ad 18, .inl (Y.2.1.1, 33000, .inl aDue)), (ad 19, .inl (Y.2.1.2.1, 33000, .inl aDof))]) ⟨fT, rfl, hsz8, hlat⟩ 15 (by decide) (by omega) (by omega) _) (cwV 1 hw (zz_gV kw_696 kw_698 kw_41 kw_65 kw_699) rfl rfl rfl (by decide +kernel) ⟨Nat.le_of_ble_eq_true rfl, Nat.le_of_ble_eq_true rfl⟩) (zz_preV hK hG hA hP hD hS [0, 1, 2, 3, 4, 5, 6, 7, 8, 9, 10, 11, 12, 13, 14, 15, 16, 17, 18, 19, 20] rfl (by decide) rfl rfl) rfl rfl hl.1 rfl (lv_room (Nat.le_of_ble_eq_true rfl)) dc_M_stableKind_99 ⟨Nat.le_of_ble_eq_true rfl, Nat.le_of_ble_eq_true rfl⟩) (fun r hr9 => ?_)
                subst hr9
                refine lv_if_eq (tgt := 110) hx hb dc_M_stableKind_102 (by decide) (fun c_8 => ?_) (fun c_8 => ?_)
                · skip
                  have c_8 := zz_bF c_8
                  refine lv_aload_n hx hb dc_M_stableKind_110 rfl (lv_at hl 0 rfl) ?_
                  refine va_ldcS hx hb hown (hG.2.2.2.2.2.2 16 (by decide)).1 dc_M_stableKind_111 ?_
                  refine vp_callSi (W.runV (As := [.ref (Y.2.2.1 16)]) (rest := []) ⟨hx, hb, hml, hown, hw⟩ (ct_M_is l Y (wc := [(hm, .inr (4, [.int thr, .ref (ad 0), .int (nI size), .int flt, .int plc, .int (nI pp), .int tok, .int (nI att), .long spl, .int val, .int (nI defs), .ref (ad 1), .ref (ad 2), .ref (ad 3), .ref (ad 4), .ref (ad 5), .ref (ad 6), .ref (ad 7), .ref (ad 8), .int (nI nodes), .ref (ad 9), .ref (ad 10), .ref (ad 11), .ref (ad 12), .ref (ad 13), .ref (ad 14), .ref (ad 15), .ref (ad 16), .ref (ad 17), .ref (ad 18), .ref (ad 19), .int (nI dues), .int thn])), (ad 0, .inl (Y.2.1.1, 8192, .inl fT)), (ad 1, .inl (Y.2.1.2.1, 64, .inl aChg)), (ad 2, .inl (Y.2.1.2.1, 64, .inl aTyp)), (ad 3, .inl (Y.2.1.2.1, 64, .inl aPar)), (ad 4, .inl (Y.2.1.2.1, 64, .inl aFst)), (ad 5, .inl (Y.2.1.2.1, 64, .inl aTpl)), (ad 6, .inl (Y.2.1.2.2, 64, .inr (.inl aTit))), (ad 7, .inl (Y.2.1.2.2, 512, .inr (.inl aPnm))), (ad 8, .inl (Y.2.1.2.1, 512, .inl aPty)), (ad 9, .inl (Y.2.1.2.1, 8192, .inl aKnd)), (ad 10, .inl (Y.2.1.2.1, 8192, .inl aPrn)), (ad 11, .inl (Y.2.1.2.1, 8192, .inl aPlc)), (ad 12, .inl (Y.2.1.2.1, 8192, .inl aNpl)), (ad 13, .inl (Y.2.1.2.1, 8192, .inl aSpl)), (ad 14, .inl (Y.2.1.2.1, 8192, .inl aVar)), (ad 15, .inl (Y.2.1.2.1, 8192, .inl aVal)), (ad 16, .inl (Y.2.1.2.2, 8192, .inr (.inl aNam))), (ad 17, .inl (Y.2.1.2.2, 8192, .inr (.inl aSec))), (ad 18, .inl (Y.2.1.1, 33000, .inl aDue)), (ad 19, .inl (Y.2.1.2.1, 33000, .inl aDof))]) ⟨fT, rfl, hsz8, hlat⟩ 16 (by decide) (by omega) (by omega) _) (cwV 1 hw (zz_gV kw_696 kw_698 kw_41 kw_65 kw_699) rfl rfl rfl (by decide +kernel) ⟨Nat.le_of_ble_eq_true rfl, Nat.le_of_ble_eq_true rfl⟩) (zz_preV hK hG hA hP hD hS [0, 1, 2, 3, 4, 5, 6, 7, 8, 9, 10, 11, 12, 13, 14, 15, 16, 17, 18, 19, 20] rfl (by decide) rfl rfl) rfl rfl hl.1 rfl (lv_room (Nat.le_of_ble_eq_true rfl)) dc_M_stableKind_113 ⟨Nat.le_of_ble_eq_true rfl, Nat.le_of_ble_eq_true rfl⟩) (fun r hr9 => ?_)
                  subst hr9
                  refine lv_if_eq (tgt := 124) hx hb dc_M_stableKind_116 (by decide) (fun c_9 => ?_) (fun c_9 => ?_)
                  · skip
                    have c_9 := zz_bF c_9
                    refine lv_iconst (v := (-1)) hx hb dc_M_stableKind_124 (by decide) ?_
                    have eF : zm_stableKind tx pp tok att = (-1) := by rw [zm_stableKind, if_pos c_1, if_neg c_2, if_neg c_3, if_neg c_4, if_neg c_5, if_neg c_6, if_neg c_7, if_neg c_8, if_neg c_9]
                    exact zz_iret0 hx hb hr rfl hlocks (by rw [eF]) dc_M_stableKind_125
                  · skip
                    have c_9 := zz_bT c_9
                    refine lv_bipush (v := 17) hx hb dc_M_stableKind_119 (by decide) ?_
                    refine lv_goto (tgt := 125) hx hb dc_M_stableKind_121 (by decide) ?_
                    have eF : zm_stableKind tx pp tok att = 17 := by rw [zm_stableKind, if_pos c_1, if_neg c_2, if_neg c_3, if_neg c_4, if_neg c_5, if_neg c_6, if_neg c_7, if_neg c_8, if_pos c_9]
                    exact zz_iret0 hx hb hr rfl hlocks (by rw [eF]) dc_M_stableKind_125
                · skip
                  have c_8 := zz_bT c_8
                  refine lv_bipush (v := 16) hx hb dc_M_stableKind_105 (by decide) ?_
                  refine lv_goto (tgt := 125) hx hb dc_M_stableKind_107 (by decide) ?_
                  have eF : zm_stableKind tx pp tok att = 16 := by rw [zm_stableKind, if_pos c_1, if_neg c_2, if_neg c_3, if_neg c_4, if_neg c_5, if_neg c_6, if_neg c_7, if_pos c_8]
                  exact zz_iret0 hx hb hr rfl hlocks (by rw [eF]) dc_M_stableKind_125
              · skip
                have c_7 := zz_bT c_7
                refine lv_bipush (v := 15) hx hb dc_M_stableKind_91 (by decide) ?_
                refine lv_goto (tgt := 125) hx hb dc_M_stableKind_93 (by decide) ?_
                have eF : zm_stableKind tx pp tok att = 15 := by rw [zm_stableKind, if_pos c_1, if_neg c_2, if_neg c_3, if_neg c_4, if_neg c_5, if_neg c_6, if_pos c_7]
                exact zz_iret0 hx hb hr rfl hlocks (by rw [eF]) dc_M_stableKind_125
            · skip
              have c_6 := zz_bT c_6
              refine lv_bipush (v := 14) hx hb dc_M_stableKind_77 (by decide) ?_
              refine lv_goto (tgt := 125) hx hb dc_M_stableKind_79 (by decide) ?_
              have eF : zm_stableKind tx pp tok att = 14 := by rw [zm_stableKind, if_pos c_1, if_neg c_2, if_neg c_3, if_neg c_4, if_neg c_5, if_pos c_6]
              exact zz_iret0 hx hb hr rfl hlocks (by rw [eF]) dc_M_stableKind_125
          · skip
            have c_5 := zz_bT c_5
            refine lv_bipush (v := 13) hx hb dc_M_stableKind_63 (by decide) ?_
            refine lv_goto (tgt := 125) hx hb dc_M_stableKind_65 (by decide) ?_
            have eF : zm_stableKind tx pp tok att = 13 := by rw [zm_stableKind, if_pos c_1, if_neg c_2, if_neg c_3, if_neg c_4, if_pos c_5]
            exact zz_iret0 hx hb hr rfl hlocks (by rw [eF]) dc_M_stableKind_125
        · skip
          have c_4 := zz_bT c_4
          refine lv_bipush (v := 12) hx hb dc_M_stableKind_49 (by decide) ?_
          refine lv_goto (tgt := 125) hx hb dc_M_stableKind_51 (by decide) ?_
          have eF : zm_stableKind tx pp tok att = 12 := by rw [zm_stableKind, if_pos c_1, if_neg c_2, if_neg c_3, if_pos c_4]
          exact zz_iret0 hx hb hr rfl hlocks (by rw [eF]) dc_M_stableKind_125
      · skip
        have c_3 := zz_bT c_3
        refine lv_bipush (v := 11) hx hb dc_M_stableKind_35 (by decide) ?_
        refine lv_goto (tgt := 125) hx hb dc_M_stableKind_37 (by decide) ?_
        have eF : zm_stableKind tx pp tok att = 11 := by rw [zm_stableKind, if_pos c_1, if_neg c_2, if_pos c_3]
        exact zz_iret0 hx hb hr rfl hlocks (by rw [eF]) dc_M_stableKind_125
    · skip
      have c_2 := zz_bT c_2
      refine lv_bipush (v := 10) hx hb dc_M_stableKind_21 (by decide) ?_
      refine lv_goto (tgt := 125) hx hb dc_M_stableKind_23 (by decide) ?_
      have eF : zm_stableKind tx pp tok att = 10 := by rw [zm_stableKind, if_pos c_1, if_pos c_2]
      exact zz_iret0 hx hb hr rfl hlocks (by rw [eF]) dc_M_stableKind_125
  · skip
    refine lv_aload_n hx hb dc_M_stableKind_7 rfl (lv_at hl 0 rfl) ?_
    refine vp_callSi (W.runV (As := []) (rest := []) ⟨hx, hb, hml, hown, hw⟩ (ct_M_operation l Y (wc := [(hm, .inr (4, [.int thr, .ref (ad 0), .int (nI size), .int flt, .int plc, .int (nI pp), .int tok, .int (nI att), .long spl, .int val, .int (nI defs), .ref (ad 1), .ref (ad 2), .ref (ad 3), .ref (ad 4), .ref (ad 5), .ref (ad 6), .ref (ad 7), .ref (ad 8), .int (nI nodes), .ref (ad 9), .ref (ad 10), .ref (ad 11), .ref (ad 12), .ref (ad 13), .ref (ad 14), .ref (ad 15), .ref (ad 16), .ref (ad 17), .ref (ad 18), .ref (ad 19), .int (nI dues), .int thn])), (ad 0, .inl (Y.2.1.1, 8192, .inl fT)), (ad 1, .inl (Y.2.1.2.1, 64, .inl aChg)), (ad 2, .inl (Y.2.1.2.1, 64, .inl aTyp)), (ad 3, .inl (Y.2.1.2.1, 64, .inl aPar)), (ad 4, .inl (Y.2.1.2.1, 64, .inl aFst)), (ad 5, .inl (Y.2.1.2.1, 64, .inl aTpl)), (ad 6, .inl (Y.2.1.2.2, 64, .inr (.inl aTit))), (ad 7, .inl (Y.2.1.2.2, 512, .inr (.inl aPnm))), (ad 8, .inl (Y.2.1.2.1, 512, .inl aPty)), (ad 9, .inl (Y.2.1.2.1, 8192, .inl aKnd)), (ad 10, .inl (Y.2.1.2.1, 8192, .inl aPrn)), (ad 11, .inl (Y.2.1.2.1, 8192, .inl aPlc)), (ad 12, .inl (Y.2.1.2.1, 8192, .inl aNpl)), (ad 13, .inl (Y.2.1.2.1, 8192, .inl aSpl)), (ad 14, .inl (Y.2.1.2.1, 8192, .inl aVar)), (ad 15, .inl (Y.2.1.2.1, 8192, .inl aVal)), (ad 16, .inl (Y.2.1.2.2, 8192, .inr (.inl aNam))), (ad 17, .inl (Y.2.1.2.2, 8192, .inr (.inl aSec))), (ad 18, .inl (Y.2.1.1, 33000, .inl aDue)), (ad 19, .inl (Y.2.1.2.1, 33000, .inl aDof))]) ⟨fT, rfl, hsz8, hlat⟩  (by omega) (by omega) _) (cwV 0 hw (zz_gV kw_719 kw_721 kw_45 kw_65 kw_722) rfl rfl rfl (by decide +kernel) ⟨Nat.le_of_ble_eq_true rfl, Nat.le_of_ble_eq_true rfl⟩) (zz_preV hK hG hA hP hD hS [0, 1, 2, 3, 4, 5, 6, 7, 8, 9, 10, 11, 12, 13, 14, 15, 16, 17, 18, 19, 20] rfl (by decide) rfl rfl) rfl rfl hl.1 rfl (lv_room (Nat.le_of_ble_eq_true rfl)) dc_M_stableKind_8 ⟨Nat.le_of_ble_eq_true rfl, Nat.le_of_ble_eq_true rfl⟩) (fun r hr9 => ?_)
    subst hr9
    have eF : zm_stableKind tx pp tok att = zm_operation tx pp tok att := by rw [zm_stableKind, if_neg c_1]
    exact zz_iret0 hx hb hr rfl hlocks (by rw [eF]) dc_M_stableKind_11

def zm_isOwn (tx : Nat → Nat) (pp : Nat) (tok : Int32) (att : Nat)  : Bool :=
  if tok = 2 then if 0 ≤ (zm_type tx pp tok att) then false else if 0 ≤ (zm_stableKind tx pp tok att) then false else if 0 ≤ (zm_changeableKind tx pp tok att) then false else if (zm_is tx pp tok att 11) = true then false else if (zm_is tx pp tok att 12) = true then false else if (zm_is tx pp tok att 33) = true then false else true else false
set_option maxHeartbeats 4000000 in
set_option maxRecDepth 100000 in
theorem ct_M_isOwn (l : Launch) (Y : zz_Y) {hm : Nat} {ad : Nat → Nat} {tx : Nat → Nat} {thr : Int32} {size : Nat} {flt : Int32} {plc : Int32} {pp : Nat} {tok : Int32} {att : Nat} {spl : Int64} {val : Int32} {defs : Nat} {nodes : Nat} {dues : Nat} {thn : Int32} {aChg : Nat → Int32} {aTyp : Nat → Int32} {aPar : Nat → Int32} {aFst : Nat → Int32} {aTpl : Nat → Int32} {aTit : Nat → Int64} {aPnm : Nat → Int64} {aPty : Nat → Int32} {aKnd : Nat → Int32} {aPrn : Nat → Int32} {aPlc : Nat → Int32} {aNpl : Nat → Int32} {aSpl : Nat → Int32} {aVar : Nat → Int32} {aVal : Nat → Int32} {aNam : Nat → Int64} {aSec : Nat → Int64} {aDue : Nat → Int32} {aDof : Nat → Int32} {wc : va_W} (hok : zm_OK Y hm ad tx thr size flt plc pp tok att spl val defs nodes dues thn aChg aTyp aPar aFst aTpl aTit aPnm aPty aKnd aPrn aPlc aNpl aSpl aVar aVal aNam aSec aDue aDof wc) (hat : att ≤ pp) (hps : pp ≤ size) : zz_I0 l Y yn_M_isOwn bc_M_isOwn 1 (some .boolean) { frames := 7, cells := 0, slots := 0, locals := 148 } [.ref hm] wc (fun r => r = zz_b (zm_isOwn tx pp tok att)) := by
  intro sz
  obtain ⟨fT, rfl, hsz8, hlat⟩ := hok
  refine zz_of (cc := bc_M_isOwn) (maxL := 1) (ret := (some .boolean)) (by decide) (Nat.le_of_ble_eq_true rfl) ?_
  intro p e s m below meth c A ls hsz C0 hl
  subst hsz
  obtain ⟨hx, hb, hr, hml, hlocks, hin, hown, hw, hAe, hA, hK, hG, hP, hD, hS⟩ := id C0
  have hown : s.vm.findClass "TwoLevelParserModel" = some m.cls := hown
  have hl : lv_has ls 1 [(0, .ref hm)] := hl
  refine lv_aload_n hx hb dc_M_isOwn_0 rfl (lv_at hl 0 rfl) ?_
  refine va_get (D := Y.1) (ci := 4) (v := .int tok) (C := rn_M) (T := tf_M) (N := 33) hx hb hw wi_M hown hK hP 0 rfl rfl 6 (by decide) (hw _ kw_550) (fun _ h9 => h9) rfl dc_M_isOwn_1 ?_
  refine lv_iconst (v := 2) hx hb dc_M_isOwn_4 (by decide) ?_
  refine lv_icmp_ne (tgt := 60) hx hb dc_M_isOwn_5 (by decide) (fun c_1 => ?_) (fun c_1 => ?_)
  · skip
    refine lv_iconst (v := 0) hx hb dc_M_isOwn_60 (by decide) ?_
    have eF : zm_isOwn tx pp tok att = false := by rw [zm_isOwn, if_neg c_1]
    exact zz_iret0 hx hb hr rfl hlocks (by rw [eF]; rfl) dc_M_isOwn_61
  · skip
    refine lv_aload_n hx hb dc_M_isOwn_8 rfl (lv_at hl 0 rfl) ?_
    refine vp_callSi (W.runV (As := []) (rest := []) ⟨hx, hb, hml, hown, hw⟩ (ct_M_type l Y (wc := [(hm, .inr (4, [.int thr, .ref (ad 0), .int (nI size), .int flt, .int plc, .int (nI pp), .int tok, .int (nI att), .long spl, .int val, .int (nI defs), .ref (ad 1), .ref (ad 2), .ref (ad 3), .ref (ad 4), .ref (ad 5), .ref (ad 6), .ref (ad 7), .ref (ad 8), .int (nI nodes), .ref (ad 9), .ref (ad 10), .ref (ad 11), .ref (ad 12), .ref (ad 13), .ref (ad 14), .ref (ad 15), .ref (ad 16), .ref (ad 17), .ref (ad 18), .ref (ad 19), .int (nI dues), .int thn])), (ad 0, .inl (Y.2.1.1, 8192, .inl fT)), (ad 1, .inl (Y.2.1.2.1, 64, .inl aChg)), (ad 2, .inl (Y.2.1.2.1, 64, .inl aTyp)), (ad 3, .inl (Y.2.1.2.1, 64, .inl aPar)), (ad 4, .inl (Y.2.1.2.1, 64, .inl aFst)), (ad 5, .inl (Y.2.1.2.1, 64, .inl aTpl)), (ad 6, .inl (Y.2.1.2.2, 64, .inr (.inl aTit))), (ad 7, .inl (Y.2.1.2.2, 512, .inr (.inl aPnm))), (ad 8, .inl (Y.2.1.2.1, 512, .inl aPty)), (ad 9, .inl (Y.2.1.2.1, 8192, .inl aKnd)), (ad 10, .inl (Y.2.1.2.1, 8192, .inl aPrn)), (ad 11, .inl (Y.2.1.2.1, 8192, .inl aPlc)), (ad 12, .inl (Y.2.1.2.1, 8192, .inl aNpl)), (ad 13, .inl (Y.2.1.2.1, 8192, .inl aSpl)), (ad 14, .inl (Y.2.1.2.1, 8192, .inl aVar)), (ad 15, .inl (Y.2.1.2.1, 8192, .inl aVal)), (ad 16, .inl (Y.2.1.2.2, 8192, .inr (.inl aNam))), (ad 17, .inl (Y.2.1.2.2, 8192, .inr (.inl aSec))), (ad 18, .inl (Y.2.1.1, 33000, .inl aDue)), (ad 19, .inl (Y.2.1.2.1, 33000, .inl aDof))]) ⟨fT, rfl, hsz8, hlat⟩  (by omega) (by omega) _) (cwV 0 hw (zz_gV kw_707 kw_709 kw_43 kw_65 kw_710) rfl rfl rfl (by decide +kernel) ⟨Nat.le_of_ble_eq_true rfl, Nat.le_of_ble_eq_true rfl⟩) (zz_preV hK hG hA hP hD hS [0, 1, 2, 3, 4, 5, 6, 7, 8, 9, 10, 11, 12, 13, 14, 15, 16, 17, 18, 19, 20] rfl (by decide) rfl rfl) rfl rfl hl.1 rfl (lv_room (Nat.le_of_ble_eq_true rfl)) dc_M_isOwn_9 ⟨Nat.le_of_ble_eq_true rfl, Nat.le_of_ble_eq_true rfl⟩) (fun r hr9 => ?_)
    subst hr9
    refine lv_if_ge (tgt := 60) hx hb dc_M_isOwn_12 (by decide) (fun c_2 => ?_) (fun c_2 => ?_)
    · skip
      refine lv_iconst (v := 0) hx hb dc_M_isOwn_60 (by decide) ?_
      have eF : zm_isOwn tx pp tok att = false := by rw [zm_isOwn, if_pos c_1, if_pos c_2]
      exact zz_iret0 hx hb hr rfl hlocks (by rw [eF]; rfl) dc_M_isOwn_61
    · skip
      refine lv_aload_n hx hb dc_M_isOwn_15 rfl (lv_at hl 0 rfl) ?_
      refine vp_callSi (W.runV (As := []) (rest := []) ⟨hx, hb, hml, hown, hw⟩ (ct_M_stableKind l Y (wc := [(hm, .inr (4, [.int thr, .ref (ad 0), .int (nI size), .int flt, .int plc, .int (nI pp), .int tok, .int (nI att), .long spl, .int val, .int (nI defs), .ref (ad 1), .ref (ad 2), .ref (ad 3), .ref (ad 4), .ref (ad 5), .ref (ad 6), .ref (ad 7), .ref (ad 8), .int (nI nodes), .ref (ad 9), .ref (ad 10), .ref (ad 11), .ref (ad 12), .ref (ad 13), .ref (ad 14), .ref (ad 15), .ref (ad 16), .ref (ad 17), .ref (ad 18), .ref (ad 19), .int (nI dues), .int thn])), (ad 0, .inl (Y.2.1.1, 8192, .inl fT)), (ad 1, .inl (Y.2.1.2.1, 64, .inl aChg)), (ad 2, .inl (Y.2.1.2.1, 64, .inl aTyp)), (ad 3, .inl (Y.2.1.2.1, 64, .inl aPar)), (ad 4, .inl (Y.2.1.2.1, 64, .inl aFst)), (ad 5, .inl (Y.2.1.2.1, 64, .inl aTpl)), (ad 6, .inl (Y.2.1.2.2, 64, .inr (.inl aTit))), (ad 7, .inl (Y.2.1.2.2, 512, .inr (.inl aPnm))), (ad 8, .inl (Y.2.1.2.1, 512, .inl aPty)), (ad 9, .inl (Y.2.1.2.1, 8192, .inl aKnd)), (ad 10, .inl (Y.2.1.2.1, 8192, .inl aPrn)), (ad 11, .inl (Y.2.1.2.1, 8192, .inl aPlc)), (ad 12, .inl (Y.2.1.2.1, 8192, .inl aNpl)), (ad 13, .inl (Y.2.1.2.1, 8192, .inl aSpl)), (ad 14, .inl (Y.2.1.2.1, 8192, .inl aVar)), (ad 15, .inl (Y.2.1.2.1, 8192, .inl aVal)), (ad 16, .inl (Y.2.1.2.2, 8192, .inr (.inl aNam))), (ad 17, .inl (Y.2.1.2.2, 8192, .inr (.inl aSec))), (ad 18, .inl (Y.2.1.1, 33000, .inl aDue)), (ad 19, .inl (Y.2.1.2.1, 33000, .inl aDof))]) ⟨fT, rfl, hsz8, hlat⟩  (by omega) (by omega) _) (cwV 0 hw (zz_gV kw_715 kw_717 kw_44 kw_65 kw_718) rfl rfl rfl (by decide +kernel) ⟨Nat.le_of_ble_eq_true rfl, Nat.le_of_ble_eq_true rfl⟩) (zz_preV hK hG hA hP hD hS [0, 1, 2, 3, 4, 5, 6, 7, 8, 9, 10, 11, 12, 13, 14, 15, 16, 17, 18, 19, 20] rfl (by decide) rfl rfl) rfl rfl hl.1 rfl (lv_room (Nat.le_of_ble_eq_true rfl)) dc_M_isOwn_16 ⟨Nat.le_of_ble_eq_true rfl, Nat.le_of_ble_eq_true rfl⟩) (fun r hr9 => ?_)
      subst hr9
      refine lv_if_ge (tgt := 60) hx hb dc_M_isOwn_19 (by decide) (fun c_3 => ?_) (fun c_3 => ?_)
      · skip
        refine lv_iconst (v := 0) hx hb dc_M_isOwn_60 (by decide) ?_
        have eF : zm_isOwn tx pp tok att = false := by rw [zm_isOwn, if_pos c_1, if_neg c_2, if_pos c_3]
        exact zz_iret0 hx hb hr rfl hlocks (by rw [eF]; rfl) dc_M_isOwn_61
      · skip
        refine lv_aload_n hx hb dc_M_isOwn_22 rfl (lv_at hl 0 rfl) ?_
        refine vp_callSi (W.runV (As := []) (rest := []) ⟨hx, hb, hml, hown, hw⟩ (ct_M_changeableKind l Y (wc := [(hm, .inr (4, [.int thr, .ref (ad 0), .int (nI size), .int flt, .int plc, .int (nI pp), .int tok, .int (nI att), .long spl, .int val, .int (nI defs), .ref (ad 1), .ref (ad 2), .ref (ad 3), .ref (ad 4), .ref (ad 5), .ref (ad 6), .ref (ad 7), .ref (ad 8), .int (nI nodes), .ref (ad 9), .ref (ad 10), .ref (ad 11), .ref (ad 12), .ref (ad 13), .ref (ad 14), .ref (ad 15), .ref (ad 16), .ref (ad 17), .ref (ad 18), .ref (ad 19), .int (nI dues), .int thn])), (ad 0, .inl (Y.2.1.1, 8192, .inl fT)), (ad 1, .inl (Y.2.1.2.1, 64, .inl aChg)), (ad 2, .inl (Y.2.1.2.1, 64, .inl aTyp)), (ad 3, .inl (Y.2.1.2.1, 64, .inl aPar)), (ad 4, .inl (Y.2.1.2.1, 64, .inl aFst)), (ad 5, .inl (Y.2.1.2.1, 64, .inl aTpl)), (ad 6, .inl (Y.2.1.2.2, 64, .inr (.inl aTit))), (ad 7, .inl (Y.2.1.2.2, 512, .inr (.inl aPnm))), (ad 8, .inl (Y.2.1.2.1, 512, .inl aPty)), (ad 9, .inl (Y.2.1.2.1, 8192, .inl aKnd)), (ad 10, .inl (Y.2.1.2.1, 8192, .inl aPrn)), (ad 11, .inl (Y.2.1.2.1, 8192, .inl aPlc)), (ad 12, .inl (Y.2.1.2.1, 8192, .inl aNpl)), (ad 13, .inl (Y.2.1.2.1, 8192, .inl aSpl)), (ad 14, .inl (Y.2.1.2.1, 8192, .inl aVar)), (ad 15, .inl (Y.2.1.2.1, 8192, .inl aVal)), (ad 16, .inl (Y.2.1.2.2, 8192, .inr (.inl aNam))), (ad 17, .inl (Y.2.1.2.2, 8192, .inr (.inl aSec))), (ad 18, .inl (Y.2.1.1, 33000, .inl aDue)), (ad 19, .inl (Y.2.1.2.1, 33000, .inl aDof))]) ⟨fT, rfl, hsz8, hlat⟩  (by omega) (by omega) _) (cwV 0 hw (zz_gV kw_736 kw_738 kw_46 kw_65 kw_739) rfl rfl rfl (by decide +kernel) ⟨Nat.le_of_ble_eq_true rfl, Nat.le_of_ble_eq_true rfl⟩) (zz_preV hK hG hA hP hD hS [0, 1, 2, 3, 4, 5, 6, 7, 8, 9, 10, 11, 12, 13, 14, 15, 16, 17, 18, 19, 20] rfl (by decide) rfl rfl) rfl rfl hl.1 rfl (lv_room (Nat.le_of_ble_eq_true rfl)) dc_M_isOwn_23 ⟨Nat.le_of_ble_eq_true rfl, Nat.le_of_ble_eq_true rfl⟩) (fun r hr9 => ?_)
        subst hr9
        refine lv_if_ge (tgt := 60) hx hb dc_M_isOwn_26 (by decide) (fun c_4 => ?_) (fun c_4 => ?_)
        · skip
          refine lv_iconst (v := 0) hx hb dc_M_isOwn_60 (by decide) ?_
          have eF : zm_isOwn tx pp tok att = false := by rw [zm_isOwn, if_pos c_1, if_neg c_2, if_neg c_3, if_pos c_4]
          exact zz_iret0 hx hb hr rfl hlocks (by rw [eF]; rfl) dc_M_isOwn_61
        · skip
          refine lv_aload_n hx hb dc_M_isOwn_29 rfl (lv_at hl 0 rfl) ?_
          refine va_ldcS hx hb hown (hG.2.2.2.2.2.2 11 (by decide)).1 dc_M_isOwn_30 ?_
          refine vp_callSi (W.runV (As := [.ref (Y.2.2.1 11)]) (rest := []) ⟨hx, hb, hml, hown, hw⟩ (ct_M_is l Y (wc := [(hm, .inr (4, [.int thr, .ref (ad 0), .int (nI size), .int flt, .int plc, .int (nI pp), .int tok, .int (nI att), .long spl, .int val, .int (nI defs), .ref (ad 1), .ref (ad 2), .ref (ad 3), .ref (ad 4), .ref (ad 5), .ref (ad 6), .ref (ad 7), .ref (ad 8), .int (nI nodes), .ref (ad 9), .ref (ad 10), .ref (ad 11), .ref (ad 12), .ref (ad 13), .ref (ad 14), .ref (ad 15), .ref (ad 16), .ref (ad 17), .ref (ad 18), .ref (ad 19), .int (nI dues), .int thn])), (ad 0, .inl (Y.2.1.1, 8192, .inl fT)), (ad 1, .inl (Y.2.1.2.1, 64, .inl aChg)), (ad 2, .inl (Y.2.1.2.1, 64, .inl aTyp)), (ad 3, .inl (Y.2.1.2.1, 64, .inl aPar)), (ad 4, .inl (Y.2.1.2.1, 64, .inl aFst)), (ad 5, .inl (Y.2.1.2.1, 64, .inl aTpl)), (ad 6, .inl (Y.2.1.2.2, 64, .inr (.inl aTit))), (ad 7, .inl (Y.2.1.2.2, 512, .inr (.inl aPnm))), (ad 8, .inl (Y.2.1.2.1, 512, .inl aPty)), (ad 9, .inl (Y.2.1.2.1, 8192, .inl aKnd)), (ad 10, .inl (Y.2.1.2.1, 8192, .inl aPrn)), (ad 11, .inl (Y.2.1.2.1, 8192, .inl aPlc)), (ad 12, .inl (Y.2.1.2.1, 8192, .inl aNpl)), (ad 13, .inl (Y.2.1.2.1, 8192, .inl aSpl)), (ad 14, .inl (Y.2.1.2.1, 8192, .inl aVar)), (ad 15, .inl (Y.2.1.2.1, 8192, .inl aVal)), (ad 16, .inl (Y.2.1.2.2, 8192, .inr (.inl aNam))), (ad 17, .inl (Y.2.1.2.2, 8192, .inr (.inl aSec))), (ad 18, .inl (Y.2.1.1, 33000, .inl aDue)), (ad 19, .inl (Y.2.1.2.1, 33000, .inl aDof))]) ⟨fT, rfl, hsz8, hlat⟩ 11 (by decide) (by omega) (by omega) _) (cwV 1 hw (zz_gV kw_696 kw_698 kw_41 kw_65 kw_699) rfl rfl rfl (by decide +kernel) ⟨Nat.le_of_ble_eq_true rfl, Nat.le_of_ble_eq_true rfl⟩) (zz_preV hK hG hA hP hD hS [0, 1, 2, 3, 4, 5, 6, 7, 8, 9, 10, 11, 12, 13, 14, 15, 16, 17, 18, 19, 20] rfl (by decide) rfl rfl) rfl rfl hl.1 rfl (lv_room (Nat.le_of_ble_eq_true rfl)) dc_M_isOwn_32 ⟨Nat.le_of_ble_eq_true rfl, Nat.le_of_ble_eq_true rfl⟩) (fun r hr9 => ?_)
          subst hr9
          refine lv_if_ne (tgt := 60) hx hb dc_M_isOwn_35 (by decide) (fun c_5 => ?_) (fun c_5 => ?_)
          · skip
            have c_5 := zz_bT c_5
            refine lv_iconst (v := 0) hx hb dc_M_isOwn_60 (by decide) ?_
            have eF : zm_isOwn tx pp tok att = false := by rw [zm_isOwn, if_pos c_1, if_neg c_2, if_neg c_3, if_neg c_4, if_pos c_5]
            exact zz_iret0 hx hb hr rfl hlocks (by rw [eF]; rfl) dc_M_isOwn_61
          · skip
            have c_5 := zz_bF c_5
            refine lv_aload_n hx hb dc_M_isOwn_38 rfl (lv_at hl 0 rfl) ?_
            refine va_ldcS hx hb hown (hG.2.2.2.2.2.2 12 (by decide)).1 dc_M_isOwn_39 ?_
            refine vp_callSi (W.runV (As := [.ref (Y.2.2.1 12)]) (rest := []) ⟨hx, hb, hml, hown, hw⟩ (ct_M_is l Y (wc := [(hm, .inr (4, [.int thr, .ref (ad 0), .int (nI size), .int flt, .int plc, .int (nI pp), .int tok, .int (nI att), .long spl, .int val, .int (nI defs), .ref (ad 1), .ref (ad 2), .ref (ad 3), .ref (ad 4), .ref (ad 5), .ref (ad 6), .ref (ad 7), .ref (ad 8), .int (nI nodes), .ref (ad 9), .ref (ad 10), .ref (ad 11), .ref (ad 12), .ref (ad 13), .ref (ad 14), .ref (ad 15), .ref (ad 16), .ref (ad 17), .ref (ad 18), .ref (ad 19), .int (nI dues), .int thn])), (ad 0, .inl (Y.2.1.1, 8192, .inl fT)), (ad 1, .inl (Y.2.1.2.1, 64, .inl aChg)), (ad 2, .inl (Y.2.1.2.1, 64, .inl aTyp)), (ad 3, .inl (Y.2.1.2.1, 64, .inl aPar)), (ad 4, .inl (Y.2.1.2.1, 64, .inl aFst)), (ad 5, .inl (Y.2.1.2.1, 64, .inl aTpl)), (ad 6, .inl (Y.2.1.2.2, 64, .inr (.inl aTit))), (ad 7, .inl (Y.2.1.2.2, 512, .inr (.inl aPnm))), (ad 8, .inl (Y.2.1.2.1, 512, .inl aPty)), (ad 9, .inl (Y.2.1.2.1, 8192, .inl aKnd)), (ad 10, .inl (Y.2.1.2.1, 8192, .inl aPrn)), (ad 11, .inl (Y.2.1.2.1, 8192, .inl aPlc)), (ad 12, .inl (Y.2.1.2.1, 8192, .inl aNpl)), (ad 13, .inl (Y.2.1.2.1, 8192, .inl aSpl)), (ad 14, .inl (Y.2.1.2.1, 8192, .inl aVar)), (ad 15, .inl (Y.2.1.2.1, 8192, .inl aVal)), (ad 16, .inl (Y.2.1.2.2, 8192, .inr (.inl aNam))), (ad 17, .inl (Y.2.1.2.2, 8192, .inr (.inl aSec))), (ad 18, .inl (Y.2.1.1, 33000, .inl aDue)), (ad 19, .inl (Y.2.1.2.1, 33000, .inl aDof))]) ⟨fT, rfl, hsz8, hlat⟩ 12 (by decide) (by omega) (by omega) _) (cwV 1 hw (zz_gV kw_696 kw_698 kw_41 kw_65 kw_699) rfl rfl rfl (by decide +kernel) ⟨Nat.le_of_ble_eq_true rfl, Nat.le_of_ble_eq_true rfl⟩) (zz_preV hK hG hA hP hD hS [0, 1, 2, 3, 4, 5, 6, 7, 8, 9, 10, 11, 12, 13, 14, 15, 16, 17, 18, 19, 20] rfl (by decide) rfl rfl) rfl rfl hl.1 rfl (lv_room (Nat.le_of_ble_eq_true rfl)) dc_M_isOwn_41 ⟨Nat.le_of_ble_eq_true rfl, Nat.le_of_ble_eq_true rfl⟩) (fun r hr9 => ?_)
            subst hr9
            refine lv_if_ne (tgt := 60) hx hb dc_M_isOwn_44 (by decide) (fun c_6 => ?_) (fun c_6 => ?_)
            · skip
              have c_6 := zz_bT c_6
              refine lv_iconst (v := 0) hx hb dc_M_isOwn_60 (by decide) ?_
              have eF : zm_isOwn tx pp tok att = false := by rw [zm_isOwn, if_pos c_1, if_neg c_2, if_neg c_3, if_neg c_4, if_neg c_5, if_pos c_6]
              exact zz_iret0 hx hb hr rfl hlocks (by rw [eF]; rfl) dc_M_isOwn_61
            · skip
              have c_6 := zz_bF c_6
              refine lv_aload_n hx hb dc_M_isOwn_47 rfl (lv_at hl 0 rfl) ?_
              refine va_ldcS hx hb hown (hG.2.2.2.2.2.2 33 (by decide)).1 dc_M_isOwn_48 ?_
              refine vp_callSi (W.runV (As := [.ref (Y.2.2.1 33)]) (rest := []) ⟨hx, hb, hml, hown, hw⟩ (ct_M_is l Y (wc := [(hm, .inr (4, [.int thr, .ref (ad 0), .int (nI size), .int flt, .int plc, .int (nI pp), .int tok, .int (nI att), .long spl, .int val, .int (nI defs), .ref (ad 1), .ref (ad 2), .ref (ad 3), .ref (ad 4), .ref (ad 5), .ref (ad 6), .ref (ad 7), .ref (ad 8), .int (nI nodes), .ref (ad 9), .ref (ad 10), .ref (ad 11), .ref (ad 12), .ref (ad 13), .ref (ad 14), .ref (ad 15), .ref (ad 16), .ref (ad 17), .ref (ad 18), .ref (ad 19), .int (nI dues), .int thn])), (ad 0, .inl (Y.2.1.1, 8192, .inl fT)), (ad 1, .inl (Y.2.1.2.1, 64, .inl aChg)), (ad 2, .inl (Y.2.1.2.1, 64, .inl aTyp)), (ad 3, .inl (Y.2.1.2.1, 64, .inl aPar)), (ad 4, .inl (Y.2.1.2.1, 64, .inl aFst)), (ad 5, .inl (Y.2.1.2.1, 64, .inl aTpl)), (ad 6, .inl (Y.2.1.2.2, 64, .inr (.inl aTit))), (ad 7, .inl (Y.2.1.2.2, 512, .inr (.inl aPnm))), (ad 8, .inl (Y.2.1.2.1, 512, .inl aPty)), (ad 9, .inl (Y.2.1.2.1, 8192, .inl aKnd)), (ad 10, .inl (Y.2.1.2.1, 8192, .inl aPrn)), (ad 11, .inl (Y.2.1.2.1, 8192, .inl aPlc)), (ad 12, .inl (Y.2.1.2.1, 8192, .inl aNpl)), (ad 13, .inl (Y.2.1.2.1, 8192, .inl aSpl)), (ad 14, .inl (Y.2.1.2.1, 8192, .inl aVar)), (ad 15, .inl (Y.2.1.2.1, 8192, .inl aVal)), (ad 16, .inl (Y.2.1.2.2, 8192, .inr (.inl aNam))), (ad 17, .inl (Y.2.1.2.2, 8192, .inr (.inl aSec))), (ad 18, .inl (Y.2.1.1, 33000, .inl aDue)), (ad 19, .inl (Y.2.1.2.1, 33000, .inl aDof))]) ⟨fT, rfl, hsz8, hlat⟩ 33 (by decide) (by omega) (by omega) _) (cwV 1 hw (zz_gV kw_696 kw_698 kw_41 kw_65 kw_699) rfl rfl rfl (by decide +kernel) ⟨Nat.le_of_ble_eq_true rfl, Nat.le_of_ble_eq_true rfl⟩) (zz_preV hK hG hA hP hD hS [0, 1, 2, 3, 4, 5, 6, 7, 8, 9, 10, 11, 12, 13, 14, 15, 16, 17, 18, 19, 20] rfl (by decide) rfl rfl) rfl rfl hl.1 rfl (lv_room (Nat.le_of_ble_eq_true rfl)) dc_M_isOwn_50 ⟨Nat.le_of_ble_eq_true rfl, Nat.le_of_ble_eq_true rfl⟩) (fun r hr9 => ?_)
              subst hr9
              refine lv_if_ne (tgt := 60) hx hb dc_M_isOwn_53 (by decide) (fun c_7 => ?_) (fun c_7 => ?_)
              · skip
                have c_7 := zz_bT c_7
                refine lv_iconst (v := 0) hx hb dc_M_isOwn_60 (by decide) ?_
                have eF : zm_isOwn tx pp tok att = false := by rw [zm_isOwn, if_pos c_1, if_neg c_2, if_neg c_3, if_neg c_4, if_neg c_5, if_neg c_6, if_pos c_7]
                exact zz_iret0 hx hb hr rfl hlocks (by rw [eF]; rfl) dc_M_isOwn_61
              · skip
                have c_7 := zz_bF c_7
                refine lv_iconst (v := 1) hx hb dc_M_isOwn_56 (by decide) ?_
                refine lv_goto (tgt := 61) hx hb dc_M_isOwn_57 (by decide) ?_
                have eF : zm_isOwn tx pp tok att = true := by rw [zm_isOwn, if_pos c_1, if_neg c_2, if_neg c_3, if_neg c_4, if_neg c_5, if_neg c_6, if_neg c_7]
                exact zz_iret0 hx hb hr rfl hlocks (by rw [eF]; rfl) dc_M_isOwn_61
