/-! STRING CONSTANTS: length and charAt -/
def zs_ch (i k : Nat) : Int32 := (zz_sb.getD i []).getD k 0
theorem zs_all : ∀ i, i < 34 → zz_sl.getD i 0 ≤ 7 ∧ ∀ k, k < zz_sl.getD i 0 → ((zs_ch i k &&& 255).toUInt32 % 65536).toInt32 = zs_ch i k ∧ narrow .char (.int (zs_ch i k)) = .int (zs_ch i k) ∧ fits .char (.int (zs_ch i k)) = true := by decide +kernel
def zz_V0 (l : Launch) (Y : zz_Y) (y : MethodName) (cc : ByteArray) (maxL : Nat) (ret : Option FieldType) (rm : Room) (av : List Value) (wc : va_W) : Prop :=
  ∀ sz : Nat, Met l y (zz_ws y cc maxL ret) rm (va_Pc av (zz_B Y wc sz)) (va_Sv (fun _ => True)) 0 0 (fun _ => False)
section ZJ
variable {p : Program} {l : Launch} {e : Env} {R : Room} {s : State} {m : MethodId} {args : Array Value} {below : List Frame} {meth : Method} {c : Code} {H : Heap} {locs : List Loc} {cells slots : Nat}
variable {pc : Nat} {ls : Array Slot} {Y : zz_Y} {A : Nat → Prop} {w0 wc : va_W} {cc : ByteArray}
theorem zz_vret0 (hx : p.tables.exec = Jvm.exec) (hb : c.code = cc) (hr : meth.sig.returnType = none) (hlocks : meth.locks = false) (hdg : decode cc pc = .ok (.return_, 1)) :
    W p l e R s m args below meth c s.heap [] 0 0 (MQ below (va_Sv (fun _ => True)) args s 0 0 (fun _ => False)) (F0 m pc ls []) :=
  W.vret hx hb hr (fun t ht hW => ⟨rfl, trivial, ht⟩) (fun q h => by cases h) hdg hlocks
theorem zz_preJ {C : String} {b : Nat} {As : List Value} (hrec : ∃ cell : Cell, H[b]? = some cell ∧ cell.vm.isStatics = false ∧ s.vm.findClass C = some cell.cls) (hK : va_K Y.1 vwCl (zz_ty Y) s) (hG : zz_G Y.2.2 A s s.heap) (hA : ∀ q : Nat, s.heap.size ≤ q → A q) (hP : va_P Y.1 vwCl w0 H) (hD : va_D A w0) (hS : va_S A s.heap H locs) :
    PreV s H C b (va_Pc (.ref b :: As) (zz_B Y [] H.size)) As :=
  ⟨zz_blind, hrec, zz_pre hK hG hA hP hD hS [] rfl (by decide)⟩
end ZJ

set_option maxHeartbeats 4000000 in
set_option maxRecDepth 100000 in
theorem ct_Js_coder (l : Launch) (Y : zz_Y) {i : Nat} (hi : i < 34) : zz_I0 l Y yn_Js_coder bc_Js_coder 1 (some .byte) { frames := 0, cells := 0, slots := 0, locals := 0 } [.ref (Y.2.2.1 i)] [] (fun r => r = 0) := by
  intro sz
  refine zz_of (cc := bc_Js_coder) (maxL := 1) (ret := (some .byte)) (by decide) (Nat.le_of_ble_eq_true rfl) ?_
  intro p e s m below meth c A ls hsz C0 hl
  subst hsz
  obtain ⟨hx, hb, hr, hml, hlocks, hin, hown, hw, hAe, hA, hK, hG, hP, hD, hS⟩ := C0
  have hown : s.vm.findClass "java/lang/String" = some m.cls := hown
  have hl : lv_has ls 1 [(0, .ref (Y.2.2.1 i))] := hl
  obtain ⟨hR, hV⟩ := hG.2.2.2.2.2.2 i hi
  refine va_gets hx hb hG.2.2.2.2.1 hS hown (hw _ kw_314) (fun _ h9 => h9) dc_Js_coder_0 ?_
  refine lv_if_eq (tgt := 13) hx hb dc_Js_coder_3 (by decide) (fun c9 => absurd c9 (by decide)) (fun _ => ?_)
  refine lv_aload_n hx hb dc_Js_coder_6 rfl (lv_at hl 0 rfl) ?_
  refine vk_getf hx hb (hV.1 0 Nat.zero_lt_one).2.1 hS hown (hw _ kw_822) (fun _ h9 => h9) dc_Js_coder_7 ?_
  refine lv_goto (tgt := 14) hx hb dc_Js_coder_10 (by decide) ?_
  exact zz_iret0 hx hb hr rfl hlocks rfl dc_Js_coder_14

set_option maxHeartbeats 4000000 in
set_option maxRecDepth 100000 in
theorem ct_Js_isLatin1 (l : Launch) (Y : zz_Y) {i : Nat} (hi : i < 34) : zz_I0 l Y yn_Js_isLatin1 bc_Js_isLatin1 1 (some .boolean) { frames := 0, cells := 0, slots := 0, locals := 0 } [.ref (Y.2.2.1 i)] [] (fun r => r = 1) := by
  intro sz
  refine zz_of (cc := bc_Js_isLatin1) (maxL := 1) (ret := (some .boolean)) (by decide) (Nat.le_of_ble_eq_true rfl) ?_
  intro p e s m below meth c A ls hsz C0 hl
  subst hsz
  obtain ⟨hx, hb, hr, hml, hlocks, hin, hown, hw, hAe, hA, hK, hG, hP, hD, hS⟩ := C0
  have hown : s.vm.findClass "java/lang/String" = some m.cls := hown
  have hl : lv_has ls 1 [(0, .ref (Y.2.2.1 i))] := hl
  obtain ⟨hR, hV⟩ := hG.2.2.2.2.2.2 i hi
  refine va_gets hx hb hG.2.2.2.2.1 hS hown (hw _ kw_314) (fun _ h9 => h9) dc_Js_isLatin1_0 ?_
  refine lv_if_eq (tgt := 17) hx hb dc_Js_isLatin1_3 (by decide) (fun c9 => absurd c9 (by decide)) (fun _ => ?_)
  refine lv_aload_n hx hb dc_Js_isLatin1_6 rfl (lv_at hl 0 rfl) ?_
  refine vk_getf hx hb (hV.1 0 Nat.zero_lt_one).2.1 hS hown (hw _ kw_822) (fun _ h9 => h9) dc_Js_isLatin1_7 ?_
  refine lv_if_ne (tgt := 17) hx hb dc_Js_isLatin1_10 (by decide) (fun c9 => absurd c9 (by decide)) (fun _ => ?_)
  refine lv_iconst (v := 1) hx hb dc_Js_isLatin1_13 (by decide) ?_
  refine lv_goto (tgt := 18) hx hb dc_Js_isLatin1_14 (by decide) ?_
  exact zz_iret0 hx hb hr rfl hlocks rfl dc_Js_isLatin1_18

set_option maxHeartbeats 4000000 in
set_option maxRecDepth 100000 in
theorem ct_Js_length (l : Launch) (Y : zz_Y) {i : Nat} (hi : i < 34) : zz_I0 l Y yn_Js_length bc_Js_length 1 (some .int) { frames := 1, cells := 0, slots := 0, locals := 20 } [.ref (Y.2.2.1 i)] [] (fun r => r = nI (zz_sl.getD i 0)) := by
  intro sz
  refine zz_of (cc := bc_Js_length) (maxL := 1) (ret := (some .int)) (by decide) (Nat.le_of_ble_eq_true rfl) ?_
  intro p e s m below meth c A ls hsz C0 hl
  subst hsz
  obtain ⟨hx, hb, hr, hml, hlocks, hin, hown, hw, hAe, hA, hK, hG, hP, hD, hS⟩ := C0
  have hown : s.vm.findClass "java/lang/String" = some m.cls := hown
  have hl : lv_has ls 1 [(0, .ref (Y.2.2.1 i))] := hl
  obtain ⟨hR, hV⟩ := hG.2.2.2.2.2.2 i hi
  refine lv_aload_n hx hb dc_Js_length_0 rfl (lv_at hl 0 rfl) ?_
  refine vk_getf hx hb (hV.1 0 Nat.zero_lt_one).2.2.1 hS hown (hw _ kw_821) (fun _ h9 => h9) dc_Js_length_1 ?_
  refine va_tlen (v := nI (zz_sl.getD i 0)) hx hb (hV.1 0 Nat.zero_lt_one).2.2.2 hS rfl dc_Js_length_4 ?_
  refine lv_aload_n hx hb dc_Js_length_5 rfl (lv_at hl 0 rfl) ?_
  refine vp_callSi (W.runV (As := []) (rest := [.int (nI (zz_sl.getD i 0))]) ⟨hx, hb, hml, hown, hw⟩ (ct_Js_coder l Y hi _) (cwV 0 hw (zz_gV kw_310 kw_311 kw_312 kw_68 kw_313) rfl rfl rfl (by decide +kernel) ⟨Nat.le_of_ble_eq_true rfl, Nat.le_of_ble_eq_true rfl⟩) (zz_preJ (vk_recv (i := 0) hV Nat.zero_lt_one hS) hK hG hA hP hD hS) rfl rfl hl.1 rfl (lv_room (Nat.le_of_ble_eq_true rfl)) dc_Js_length_6 ⟨Nat.le_of_ble_eq_true rfl, Nat.le_of_ble_eq_true rfl⟩) (fun r hr9 => ?_)
  subst hr9
  refine lv_ishr hx hb dc_Js_length_9 ?_
  exact zz_iret0 hx hb hr rfl hlocks (sc_shr0 (by have := (zs_all i hi).1; omega)) dc_Js_length_10

set_option maxHeartbeats 4000000 in
set_option maxRecDepth 100000 in
theorem ct_Jp_checkIndex (l : Launch) (Y : zz_Y) {i n : Nat} (hi : i < n) (hn : n < 2 ^ 31) (v9 : Value) (h9 : v9 = .null ∨ ∃ t : Nat, v9 = .ref t) : zz_I0 l Y yn_Jp_checkIndex bc_Jp_checkIndex 3 (some .int) { frames := 0, cells := 0, slots := 0, locals := 0 } [.int (nI i), .int (nI n), v9] [] (fun r => r = nI i) := by
  intro sz
  rcases h9 with rfl | ⟨t9, rfl⟩
  · skip
    refine zz_of (cc := bc_Jp_checkIndex) (maxL := 3) (ret := (some .int)) (by decide) (Nat.le_of_ble_eq_true rfl) ?_
    intro p e s m below meth c A ls hsz C0 hl
    subst hsz
    obtain ⟨hx, hb, hr, hml, hlocks, hin, hown, hw, hAe, hA, hK, hG, hP, hD, hS⟩ := C0
    have hown : s.vm.findClass "jdk/internal/util/Preconditions" = some m.cls := hown
    have hl : lv_has ls 3 [(0, .int (nI i)), (1, .int (nI n)), (2, .null)] := hl
    refine lv_iload_n hx hb dc_Jp_checkIndex_0 rfl (lv_at hl 0 rfl) ?_
    refine lv_if_lt (tgt := 9) hx hb dc_Jp_checkIndex_1 (by decide) (fun c9 => absurd c9 (nI_pos (by omega))) (fun _ => ?_)
    refine lv_iload_n hx hb dc_Jp_checkIndex_4 rfl (lv_at hl 0 rfl) ?_
    refine lv_iload_n hx hb dc_Jp_checkIndex_5 rfl (lv_at hl 1 rfl) ?_
    refine lv_icmp_lt (tgt := 16) hx hb dc_Jp_checkIndex_6 (by decide) (fun _ => ?_) (fun c9 => absurd (nI_lt hi hn) c9)
    refine lv_iload_n hx hb dc_Jp_checkIndex_16 rfl (lv_at hl 0 rfl) ?_
    exact zz_iret0 hx hb hr rfl hlocks rfl dc_Jp_checkIndex_17
  · skip
    refine zz_of (cc := bc_Jp_checkIndex) (maxL := 3) (ret := (some .int)) (by decide) (Nat.le_of_ble_eq_true rfl) ?_
    intro p e s m below meth c A ls hsz C0 hl
    subst hsz
    obtain ⟨hx, hb, hr, hml, hlocks, hin, hown, hw, hAe, hA, hK, hG, hP, hD, hS⟩ := C0
    have hown : s.vm.findClass "jdk/internal/util/Preconditions" = some m.cls := hown
    have hl : lv_has ls 3 [(0, .int (nI i)), (1, .int (nI n)), (2, .ref t9)] := hl
    refine lv_iload_n hx hb dc_Jp_checkIndex_0 rfl (lv_at hl 0 rfl) ?_
    refine lv_if_lt (tgt := 9) hx hb dc_Jp_checkIndex_1 (by decide) (fun c9 => absurd c9 (nI_pos (by omega))) (fun _ => ?_)
    refine lv_iload_n hx hb dc_Jp_checkIndex_4 rfl (lv_at hl 0 rfl) ?_
    refine lv_iload_n hx hb dc_Jp_checkIndex_5 rfl (lv_at hl 1 rfl) ?_
    refine lv_icmp_lt (tgt := 16) hx hb dc_Jp_checkIndex_6 (by decide) (fun _ => ?_) (fun c9 => absurd (nI_lt hi hn) c9)
    refine lv_iload_n hx hb dc_Jp_checkIndex_16 rfl (lv_at hl 0 rfl) ?_
    exact zz_iret0 hx hb hr rfl hlocks rfl dc_Jp_checkIndex_17

set_option maxHeartbeats 4000000 in
set_option maxRecDepth 100000 in
theorem ct_Js_checkIndex (l : Launch) (Y : zz_Y) {i n : Nat} (hi : i < n) (hn : n < 2 ^ 31) : zz_V0 l Y yn_Js_checkIndex bc_Js_checkIndex 2 none { frames := 1, cells := 0, slots := 0, locals := 22 } [.int (nI i), .int (nI n)] [] := by
  intro sz
  refine zz_of (cc := bc_Js_checkIndex) (maxL := 2) (ret := none) (by decide) (Nat.le_of_ble_eq_true rfl) ?_
  intro p e s m below meth c A ls hsz C0 hl
  subst hsz
  obtain ⟨hx, hb, hr, hml, hlocks, hin, hown, hw, hAe, hA, hK, hG, hP, hD, hS⟩ := C0
  have hown : s.vm.findClass "java/lang/String" = some m.cls := hown
  have hl : lv_has ls 2 [(0, .int (nI i)), (1, .int (nI n))] := hl
  rcases hG.2.2.2.2.2.1 with hZ | ⟨t9, hZ⟩
  · skip
    refine lv_iload_n hx hb dc_Js_checkIndex_0 rfl (lv_at hl 0 rfl) ?_
    refine lv_iload_n hx hb dc_Js_checkIndex_1 rfl (lv_at hl 1 rfl) ?_
    refine va_gets hx hb hZ hS hown (hw _ kw_330) (fun _ h9 => h9) dc_Js_checkIndex_2 ?_
    refine vp_callSi (W.runS (As := [.int (nI i), .int (nI n), .null]) (rest := []) ⟨hx, hb, hml, hown, hw⟩ (ct_Jp_checkIndex l Y hi hn .null (Or.inl rfl) _) (va_cwS 3 hw (zz_gS kw_332 kw_333 kw_70 kw_334) rfl rfl rfl (by decide +kernel) ⟨Nat.le_of_ble_eq_true rfl, Nat.le_of_ble_eq_true rfl⟩) (zz_preS hK hG hA hP hD hS [] rfl (by decide)) rfl rfl hl.1 rfl (lv_room (Nat.le_of_ble_eq_true rfl)) dc_Js_checkIndex_5 ⟨Nat.le_of_ble_eq_true rfl, Nat.le_of_ble_eq_true rfl⟩) (fun r hr9 => ?_)
    subst hr9
    refine lv_pop hx hb dc_Js_checkIndex_8 rfl ?_
    exact zz_vret0 hx hb hr hlocks dc_Js_checkIndex_9
  · skip
    refine lv_iload_n hx hb dc_Js_checkIndex_0 rfl (lv_at hl 0 rfl) ?_
    refine lv_iload_n hx hb dc_Js_checkIndex_1 rfl (lv_at hl 1 rfl) ?_
    refine va_gets hx hb hZ hS hown (hw _ kw_330) (fun _ h9 => h9) dc_Js_checkIndex_2 ?_
    refine vp_callSi (W.runS (As := [.int (nI i), .int (nI n), .ref t9]) (rest := []) ⟨hx, hb, hml, hown, hw⟩ (ct_Jp_checkIndex l Y hi hn (.ref t9) (Or.inr ⟨t9, rfl⟩) _) (va_cwS 3 hw (zz_gS kw_332 kw_333 kw_70 kw_334) rfl rfl rfl (by decide +kernel) ⟨Nat.le_of_ble_eq_true rfl, Nat.le_of_ble_eq_true rfl⟩) (zz_preS hK hG hA hP hD hS [] rfl (by decide)) rfl rfl hl.1 rfl (lv_room (Nat.le_of_ble_eq_true rfl)) dc_Js_checkIndex_5 ⟨Nat.le_of_ble_eq_true rfl, Nat.le_of_ble_eq_true rfl⟩) (fun r hr9 => ?_)
    subst hr9
    refine lv_pop hx hb dc_Js_checkIndex_8 rfl ?_
    exact zz_vret0 hx hb hr hlocks dc_Js_checkIndex_9

set_option maxHeartbeats 4000000 in
set_option maxRecDepth 100000 in
theorem ct_Jl_charAt (l : Launch) (Y : zz_Y) {i k : Nat} (hi : i < 34) (hk : k < zz_sl.getD i 0) : zz_I0 l Y yn_Jl_charAt bc_Jl_charAt 2 (some .char) { frames := 2, cells := 0, slots := 0, locals := 43 } [.ref (Y.2.2.2 i), .int (nI k)] [] (fun r => r = zs_ch i k) := by
  intro sz
  refine zz_of (cc := bc_Jl_charAt) (maxL := 2) (ret := (some .char)) (by decide) (Nat.le_of_ble_eq_true rfl) ?_
  intro p e s m below meth c A ls hsz C0 hl
  subst hsz
  obtain ⟨hx, hb, hr, hml, hlocks, hin, hown, hw, hAe, hA, hK, hG, hP, hD, hS⟩ := C0
  have hown : s.vm.findClass "java/lang/StringLatin1" = some m.cls := hown
  have hl : lv_has ls 2 [(0, .ref (Y.2.2.2 i)), (1, .int (nI k))] := hl
  obtain ⟨hR, hV⟩ := hG.2.2.2.2.2.2 i hi
  have h7 := (zs_all i hi).1
  refine lv_iload_n hx hb dc_Jl_charAt_0 rfl (lv_at hl 1 rfl) ?_
  refine lv_aload_n hx hb dc_Jl_charAt_1 rfl (lv_at hl 0 rfl) ?_
  refine va_tlen (v := nI (zz_sl.getD i 0)) hx hb (hV.1 0 Nat.zero_lt_one).2.2.2 hS rfl dc_Jl_charAt_2 ?_
  refine va_csv (W.runS (As := [.int (nI k), .int (nI (zz_sl.getD i 0))]) (rest := []) ⟨hx, hb, hml, hown, hw⟩ (ct_Js_checkIndex l Y hk (by omega) _) (va_cwS 2 hw (zz_gS kw_327 kw_328 kw_68 kw_329) rfl rfl rfl (by decide +kernel) ⟨Nat.le_of_ble_eq_true rfl, Nat.le_of_ble_eq_true rfl⟩) (zz_preS hK hG hA hP hD hS [] rfl (by decide)) rfl rfl hl.1 rfl (lv_room (Nat.le_of_ble_eq_true rfl)) dc_Jl_charAt_3 ⟨Nat.le_of_ble_eq_true rfl, Nat.le_of_ble_eq_true rfl⟩) (fun _ => ?_)
  refine lv_aload_n hx hb dc_Jl_charAt_6 rfl (lv_at hl 0 rfl) ?_
  refine lv_iload_n hx hb dc_Jl_charAt_7 rfl (lv_at hl 1 rfl) ?_
  refine va_tb (v := .int (zs_ch i k)) hx hb (hV.1 0 Nat.zero_lt_one).2.2.2 hS (vp_in_nI hk (by show zz_sl.getD i 0 < 2 ^ 31; omega)) (by rw [nI_clamp (by omega)]; rfl) dc_Jl_charAt_8 ?_
  refine lv_sipush (v := 255) hx hb dc_Jl_charAt_9 (by decide) ?_
  refine lv_iand hx hb dc_Jl_charAt_12 ?_
  refine lv_i2c (v := (((zs_ch i k) &&& 255).toUInt32 % 65536).toInt32) hx hb dc_Jl_charAt_13 rfl ?_
  rw [show (((zs_ch i k) &&& 255).toUInt32 % 65536).toInt32 = zs_ch i k from ((zs_all i hi).2 k hk).1]
  exact zz_iret0 hx hb hr ((zs_all i hi).2 k hk).2.1 hlocks rfl dc_Jl_charAt_14

set_option maxHeartbeats 4000000 in
set_option maxRecDepth 100000 in
theorem ct_Js_charAt (l : Launch) (Y : zz_Y) {i k : Nat} (hi : i < 34) (hk : k < zz_sl.getD i 0) : zz_I0 l Y yn_Js_charAt bc_Js_charAt 2 (some .char) { frames := 3, cells := 0, slots := 0, locals := 64 } [.ref (Y.2.2.1 i), .int (nI k)] [] (fun r => r = zs_ch i k) := by
  intro sz
  refine zz_of (cc := bc_Js_charAt) (maxL := 2) (ret := (some .char)) (by decide) (Nat.le_of_ble_eq_true rfl) ?_
  intro p e s m below meth c A ls hsz C0 hl
  subst hsz
  obtain ⟨hx, hb, hr, hml, hlocks, hin, hown, hw, hAe, hA, hK, hG, hP, hD, hS⟩ := C0
  have hown : s.vm.findClass "java/lang/String" = some m.cls := hown
  have hl : lv_has ls 2 [(0, .ref (Y.2.2.1 i)), (1, .int (nI k))] := hl
  obtain ⟨hR, hV⟩ := hG.2.2.2.2.2.2 i hi
  refine lv_aload_n hx hb dc_Js_charAt_0 rfl (lv_at hl 0 rfl) ?_
  refine vp_callSi (W.runV (As := []) (rest := []) ⟨hx, hb, hml, hown, hw⟩ (ct_Js_isLatin1 l Y hi _) (cwV 0 hw (zz_gV kw_320 kw_321 kw_322 kw_68 kw_323) rfl rfl rfl (by decide +kernel) ⟨Nat.le_of_ble_eq_true rfl, Nat.le_of_ble_eq_true rfl⟩) (zz_preJ (vk_recv (i := 0) hV Nat.zero_lt_one hS) hK hG hA hP hD hS) rfl rfl hl.1 rfl (lv_room (Nat.le_of_ble_eq_true rfl)) dc_Js_charAt_1 ⟨Nat.le_of_ble_eq_true rfl, Nat.le_of_ble_eq_true rfl⟩) (fun r hr9 => ?_)
  subst hr9
  refine lv_if_eq (tgt := 16) hx hb dc_Js_charAt_4 (by decide) (fun c9 => absurd c9 (by decide)) (fun _ => ?_)
  refine lv_aload_n hx hb dc_Js_charAt_7 rfl (lv_at hl 0 rfl) ?_
  refine vk_getf hx hb (hV.1 0 Nat.zero_lt_one).2.2.1 hS hown (hw _ kw_821) (fun _ h9 => h9) dc_Js_charAt_8 ?_
  refine lv_iload_n hx hb dc_Js_charAt_11 rfl (lv_at hl 1 rfl) ?_
  refine vp_callSi (W.runS (As := [.ref (Y.2.2.2 i), .int (nI k)]) (rest := []) ⟨hx, hb, hml, hown, hw⟩ (ct_Jl_charAt l Y hi hk _) (va_cwS 2 hw (zz_gS kw_324 kw_325 kw_69 kw_326) rfl rfl rfl (by decide +kernel) ⟨Nat.le_of_ble_eq_true rfl, Nat.le_of_ble_eq_true rfl⟩) (zz_preS hK hG hA hP hD hS [] rfl (by decide)) rfl rfl hl.1 rfl (lv_room (Nat.le_of_ble_eq_true rfl)) dc_Js_charAt_12 ⟨Nat.le_of_ble_eq_true rfl, Nat.le_of_ble_eq_true rfl⟩) (fun r hr9 => ?_)
  subst hr9
  exact zz_iret0 hx hb hr ((zs_all i hi).2 k hk).2.1 hlocks rfl dc_Js_charAt_15
