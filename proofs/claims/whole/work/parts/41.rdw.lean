theorem zq_COle {tx : Nat → Nat} {size : Nat} {c0 : zp_L} {stg : Int32} {dr : Nat} {latest : Int32} {dnum : Nat → Nat → Int32} {dnam : Nat → Nat → Int64} {nr : Nat} {nnum : Nat → Nat → Int32} {nnam : Nat → Nat → Int64} {pp : Nat} (h : zq_CO tx size c0 stg dr latest dnum dnam nr nnum nnam pp) : pp ≤ size := by
  obtain ⟨_, _, _, _, _, _, _, _, _, _, _, h⟩ := h
  exact h
set_option maxHeartbeats 4000000 in
theorem zq_L3 {tx : Nat → Nat} {size : Nat} {c0 : zp_L} {dnum : Nat → Nat → Int32} {dnam : Nat → Nat → Int64} {nodes : Nat} {nnum : Nat → Nat → Int32} {nnam : Nat → Nat → Int64} {pp : Nat} {flt plc tok : Int32} {spl : Int64} {val : Int32} {lo d q : Nat} {aChg aTyp aPar aFst aTpl : Nat → Int32} {aTit aPnm : Nat → Int64} {aPty : Nat → Int32}
    (hb : ∀ k, k < size → tx k < 256) (hf : flt = 0) (hd : d < 64) (hnp : lo < pp) (hDp : zq_Dp dnum dnam aChg aPar aTpl aTit aPnm aPty d q) (hDD : zq_D d dnum dnam aChg aTyp aPar aFst aTpl aTit aPnm aPty) (hCO : zq_CO tx size c0 4 (d + 1) (nI d) dnum dnam nodes nnum nnam pp) {r : Int32 × Int32 × Nat × Int32 × Nat × Int64 × Int32 × (Nat → Int32) × (Nat → Int64) × (Nat → Int32) × Bool} (hr : zs_zm_rdp tx size flt plc pp tok spl val aPar aPnm aPty d q = r) :
    zq_HW tx size c0 lo d nodes nnum nnam r.2.2.1 r.1 r.2.1 plc r.2.2.2.2.2.2.2.2.2.2 aChg aTyp r.2.2.2.2.2.2.2.1 aFst aTpl aTit r.2.2.2.2.2.2.2.2.1 r.2.2.2.2.2.2.2.2.2.1 ∧ (¬ r.1 = 0 ∨ (pp < r.2.2.1 ∧ r.2.2.1 ≤ size)) := by
  subst hf
  have q8 := hDp.1
  have n2 : zr_num 13 (d + 1) dnum (nI d) 2 = nI q := (zq_n13 (c := 2) (by omega) (by omega) (by omega) dnum).trans hDp.2.2.2.1
  have fq : ∀ {f p : Int32}, zq_Q tx size c0 f p → ¬ f = 0 := fun h => by obtain ⟨_, _, z⟩ := h; exact (zq_end_pos z).2
  rw [zs_zm_rdp] at hr
  generalize hu : zm_next tx size 0 plc pp tok spl val = u at hr
  obtain ⟨f1, plc1, pp1, tok1, att1, spl1, val1⟩ := u
  obtain ⟨q1, q2, q3⟩ := zq_Cn hb hCO (by decide) hu.symm
  rcases q3 with ⟨rfl, hq⟩ | ⟨rfl, rfl, rfl, rfl, he, ow, ty, i1, i2, -⟩ | ⟨rfl, rfl, h41, hlt, token, name, word, value, dc, nc, wa, t3, t2, ow, sp, ty, i1, i2, hto⟩
  · by_cases g : tok1 = 0
    · subst g
      simp only [zs_zm_rdp_1, zs_zm_rdp_2, zq_mustQ (show ¬ (1 : Int32) = 0 by decide)] at hr
      subst hr
      exact ⟨Or.inl hq, Or.inl (fq hq)⟩
    · by_cases g1 : tok1 = 1
      · subst g1
        simp only [zs_zm_rdp_1, zs_zm_rdp_5, zq_mustQ (show ¬ (1 : Int32) = 0 by decide)] at hr
        subst hr
        exact ⟨Or.inl hq, Or.inl (fq hq)⟩
      · simp only [zs_zm_rdp_1, if_neg g, if_neg g1, zs_zm_rdp_4, zq_mustQ (show ¬ (1 : Int32) = 0 by decide)] at hr
        subst hr
        exact ⟨Or.inl hq, Or.inl (fq hq)⟩
  · simp only [zs_zm_rdp_1, zs_zm_rdp_4, zq_must4] at hr
    subst hr
    have hq : zq_Q tx att1 c0 3 (nI att1) := ⟨_, rfl, he (by decide)⟩
    exact ⟨Or.inl hq, Or.inl (fq hq)⟩
  · by_cases g3 : token = 3
    · have e1 := t3.1 g3
      subst e1
      have := hto true (d + 1) dc dnum dnam nodes nc nnum nnam 8 (nI d) (by simp [zp_takesOutside, zp_takesParameterOrEnd, g3])
      simp only [zs_zm_rdp_1, zs_zm_rdp_5, zq_mustT size plc1 (show ¬ (1 : Int32) = 4 by decide) att1] at hr
      subst hr
      exact ⟨Or.inr ⟨rfl, rfl, by show lo < pp1; omega, Or.inr ⟨rfl, q, dnum, dnam, hDp, hDD, this.1 rfl⟩⟩, Or.inr ⟨hlt, q1⟩⟩
    · have n1 : ¬ tok1 = 1 := fun g => g3 (t3.2 g)
      by_cases g2 : token = 2
      · have e0 := t2.1 g2
        subst e0
        by_cases hq8 : q < 8
        · have h8 : ¬ (8 : Int32) ≤ nI q := fun g => by have := (zq_le (m := 8) (by omega) (by omega)).1 g; omega
          have := hto true (d + 1) dc dnum dnam nodes nc nnum nnam 5 (nI d) (by simp [zp_takesOutside, zp_takesParameterOrEnd, g2, n2, h8, zp_passes])
          simp only [zs_zm_rdp_1, zs_zm_rdp_2, zq_mustT size plc1 h41 att1] at hr
          generalize hr2 : zm_readParameter tx size 0 plc1 pp1 0 att1 spl1 val1 aPar aPnm aPty d q = r2 at hr
          have hP := zq_LP hb hd hq8 h41 hDp (this.1 rfl) hr2
          obtain ⟨a1, a2, a3, a4, a5, a6, a7, a8, a9, b1⟩ := r2
          simp only [zs_zm_rdp_3] at hr
          subst hr
          rcases hP with ⟨hq, -⟩ | ⟨e1, e2, e3, nm, t, e4, e5, e6, hc4⟩
          · exact ⟨Or.inl hq, Or.inl (fq hq)⟩
          · simp only at e1 e2 e3 e4 e5 e6 hc4
            subst e1; subst e2; subst e4; subst e5; subst e6
            exact ⟨Or.inr ⟨rfl, rfl, by show lo < a3; omega, Or.inl ⟨rfl, q + 1, _, _, zq_Hq hq8 hDp, zq_HqD hq8 hDD, hc4⟩⟩, Or.inr ⟨by show pp < a3; omega, zq_COle hc4⟩⟩
        · have h8 : (8 : Int32) ≤ nI q := (zq_le (m := 8) (by omega) (by omega)).2 (by omega)
          have := hto false (d + 1) dc dnum dnam nodes nc nnum nnam 4 (nI d) (by simp [zp_takesOutside, zp_takesParameterOrEnd, g2, n2, h8])
          simp only [zs_zm_rdp_1, zs_zm_rdp_2, zq_mustT size plc1 h41 att1] at hr
          generalize hr2 : zm_readParameter tx size 0 plc1 pp1 0 att1 spl1 val1 aPar aPnm aPty d q = r2 at hr
          obtain ⟨p1, p2, p3⟩ := zq_LP8 h41 (by omega) hr2
          obtain ⟨a1, a2, a3, a4, a5, a6, a7, a8, a9, b1⟩ := r2
          simp only [zs_zm_rdp_3] at hr
          subst hr
          simp only at p1 p2
          subst p1; subst p2
          have hq : zq_Q tx size c0 2 (nI att1) := ⟨_, rfl, this.2 rfl⟩
          exact ⟨Or.inl hq, Or.inl (fq hq)⟩
      · have n0 : ¬ tok1 = 0 := fun g => g2 (t2.2 g)
        have hno : zq_end tx size c0 2 att1 := by
          by_cases h8 : (8 : Int32) ≤ nI q
          · exact (hto false (d + 1) dc dnum dnam nodes nc nnum nnam 4 (nI d) (by simp [zp_takesOutside, zp_takesParameterOrEnd, g3, n2, h8])).2 rfl
          · exact (hto false (d + 1) dc dnum dnam nodes nc nnum nnam 4 (nI d) (by simp [zp_takesOutside, zp_takesParameterOrEnd, g3, g2, n2, h8, zp_passes])).2 rfl
        simp only [zs_zm_rdp_1, if_neg n0, if_neg n1, zs_zm_rdp_4, zq_mustF size plc1 h41 att1] at hr
        subst hr
        have hq : zq_Q tx size c0 2 (nI att1) := ⟨_, rfl, hno⟩
        exact ⟨Or.inl hq, Or.inl (fq hq)⟩

set_option maxHeartbeats 4000000 in
set_option maxRecDepth 100000 in
theorem zm_rdw {p : Program} {l : Launch} {e : Env} {s : State} {m : MethodId} {args : Array Value} {below : List Frame} {meth : Method} {c : Code} {A : Nat → Prop} {wc0 : va_W} {Y : zz_Y} {Q : State → Prop} {hm : Nat} {ad : Nat → Nat} {tx : Nat → Nat} {thr : Int32} {size : Nat} {defs : Nat} {nodes : Nat} {dues : Nat} {thn : Int32} {aChg : Nat → Int32} {aTyp : Nat → Int32} {aFst : Nat → Int32} {aTpl : Nat → Int32} {aTit : Nat → Int64} {aKnd : Nat → Int32} {aPrn : Nat → Int32} {aPlc : Nat → Int32} {aNpl : Nat → Int32} {aSpl : Nat → Int32} {aVar : Nat → Int32} {aVal : Nat → Int32} {aNam : Nat → Int64} {aSec : Nat → Int64} {aDue : Nat → Int32} {aDof : Nat → Int32} {lo d : Nat} (hd : d < 64) (hb2 : ∀ k, k < size → tx k < 256) (C0 : zz_At p s m args meth c Y yn_M_readDefinition bc_M_readDefinition 4 none wc0 A) {c0 : zp_L} {plc0 : Int32} {nnum : Nat → Nat → Int32} {nnam : Nat → Nat → Int64}
    (kk : ∀ (flt : Int32) (plc : Int32) (pp : Nat) (tok : Int32) (att : Nat) (spl : Int64) (val : Int32) (aPar : Nat → Int32) (aPnm : Nat → Int64) (aPty : Nat → Int32) (fT : Nat → Int32) (H : Heap) (locs : List Loc) (ls : Array Slot), (zq_Q tx size c0 flt plc ∨ (flt = 0 ∧ plc = plc0 ∧ lo < pp ∧ zq_HR tx size c0 8 d nodes nnum nnam pp aChg aTyp aPar aFst aTpl aTit aPnm aPty)) → size ≤ 8192 → sb_Lat tx size fT → va_P Y.1 vwCl [(hm, .inr (4, [.int thr, .ref (ad 0), .int (nI size), .int flt, .int plc, .int (nI pp), .int tok, .int (nI att), .long spl, .int val, .int (nI defs), .ref (ad 1), .ref (ad 2), .ref (ad 3), .ref (ad 4), .ref (ad 5), .ref (ad 6), .ref (ad 7), .ref (ad 8), .int (nI nodes), .ref (ad 9), .ref (ad 10), .ref (ad 11), .ref (ad 12), .ref (ad 13), .ref (ad 14), .ref (ad 15), .ref (ad 16), .ref (ad 17), .ref (ad 18), .ref (ad 19), .int (nI dues), .int thn])), (ad 0, .inl (Y.2.1.1, 8192, .inl fT)), (ad 1, .inl (Y.2.1.2.1, 64, .inl aChg)), (ad 2, .inl (Y.2.1.2.1, 64, .inl aTyp)), (ad 3, .inl (Y.2.1.2.1, 64, .inl aPar)), (ad 4, .inl (Y.2.1.2.1, 64, .inl aFst)), (ad 5, .inl (Y.2.1.2.1, 64, .inl aTpl)), (ad 6, .inl (Y.2.1.2.2, 64, .inr (.inl aTit))), (ad 7, .inl (Y.2.1.2.2, 512, .inr (.inl aPnm))), (ad 8, .inl (Y.2.1.2.1, 512, .inl aPty)), (ad 9, .inl (Y.2.1.2.1, 8192, .inl aKnd)), (ad 10, .inl (Y.2.1.2.1, 8192, .inl aPrn)), (ad 11, .inl (Y.2.1.2.1, 8192, .inl aPlc)), (ad 12, .inl (Y.2.1.2.1, 8192, .inl aNpl)), (ad 13, .inl (Y.2.1.2.1, 8192, .inl aSpl)), (ad 14, .inl (Y.2.1.2.1, 8192, .inl aVar)), (ad 15, .inl (Y.2.1.2.1, 8192, .inl aVal)), (ad 16, .inl (Y.2.1.2.2, 8192, .inr (.inl aNam))), (ad 17, .inl (Y.2.1.2.2, 8192, .inr (.inl aSec))), (ad 18, .inl (Y.2.1.1, 33000, .inl aDue)), (ad 19, .inl (Y.2.1.2.1, 33000, .inl aDof))] H → va_D A [(hm, .inr (4, [.int thr, .ref (ad 0), .int (nI size), .int flt, .int plc, .int (nI pp), .int tok, .int (nI att), .long spl, .int val, .int (nI defs), .ref (ad 1), .ref (ad 2), .ref (ad 3), .ref (ad 4), .ref (ad 5), .ref (ad 6), .ref (ad 7), .ref (ad 8), .int (nI nodes), .ref (ad 9), .ref (ad 10), .ref (ad 11), .ref (ad 12), .ref (ad 13), .ref (ad 14), .ref (ad 15), .ref (ad 16), .ref (ad 17), .ref (ad 18), .ref (ad 19), .int (nI dues), .int thn])), (ad 0, .inl (Y.2.1.1, 8192, .inl fT)), (ad 1, .inl (Y.2.1.2.1, 64, .inl aChg)), (ad 2, .inl (Y.2.1.2.1, 64, .inl aTyp)), (ad 3, .inl (Y.2.1.2.1, 64, .inl aPar)), (ad 4, .inl (Y.2.1.2.1, 64, .inl aFst)), (ad 5, .inl (Y.2.1.2.1, 64, .inl aTpl)), (ad 6, .inl (Y.2.1.2.2, 64, .inr (.inl aTit))), (ad 7, .inl (Y.2.1.2.2, 512, .inr (.inl aPnm))), (ad 8, .inl (Y.2.1.2.1, 512, .inl aPty)), (ad 9, .inl (Y.2.1.2.1, 8192, .inl aKnd)), (ad 10, .inl (Y.2.1.2.1, 8192, .inl aPrn)), (ad 11, .inl (Y.2.1.2.1, 8192, .inl aPlc)), (ad 12, .inl (Y.2.1.2.1, 8192, .inl aNpl)), (ad 13, .inl (Y.2.1.2.1, 8192, .inl aSpl)), (ad 14, .inl (Y.2.1.2.1, 8192, .inl aVar)), (ad 15, .inl (Y.2.1.2.1, 8192, .inl aVal)), (ad 16, .inl (Y.2.1.2.2, 8192, .inr (.inl aNam))), (ad 17, .inl (Y.2.1.2.2, 8192, .inr (.inl aSec))), (ad 18, .inl (Y.2.1.1, 33000, .inl aDue)), (ad 19, .inl (Y.2.1.2.1, 33000, .inl aDof))] → va_S A s.heap H locs → lv_has ls 4 [(0, .ref hm), (1, .int (nI d))] → W p l e (headSpec (zz_ws yn_M_readDefinition bc_M_readDefinition 4 none) { frames := 11, cells := 0, slots := 0, locals := 235 }).room s m args below meth c H locs 0 0 Q (F0 m 312 ls [])) :
    ∀ (n : Nat) (flt : Int32) (plc : Int32) (pp : Nat) (tok : Int32) (att : Nat) (spl : Int64) (val : Int32) (aPar : Nat → Int32) (aPnm : Nat → Int64) (aPty : Nat → Int32) (more : Bool) (fT : Nat → Int32) (H : Heap) (locs : List Loc) (ls : Array Slot), zq_HW tx size c0 lo d nodes nnum nnam pp flt plc plc0 more aChg aTyp aPar aFst aTpl aTit aPnm aPty → (¬ flt = 0 ∨ size - pp < n) → size ≤ 8192 → sb_Lat tx size fT → va_P Y.1 vwCl [(hm, .inr (4, [.int thr, .ref (ad 0), .int (nI size), .int flt, .int plc, .int (nI pp), .int tok, .int (nI att), .long spl, .int val, .int (nI defs), .ref (ad 1), .ref (ad 2), .ref (ad 3), .ref (ad 4), .ref (ad 5), .ref (ad 6), .ref (ad 7), .ref (ad 8), .int (nI nodes), .ref (ad 9), .ref (ad 10), .ref (ad 11), .ref (ad 12), .ref (ad 13), .ref (ad 14), .ref (ad 15), .ref (ad 16), .ref (ad 17), .ref (ad 18), .ref (ad 19), .int (nI dues), .int thn])), (ad 0, .inl (Y.2.1.1, 8192, .inl fT)), (ad 1, .inl (Y.2.1.2.1, 64, .inl aChg)), (ad 2, .inl (Y.2.1.2.1, 64, .inl aTyp)), (ad 3, .inl (Y.2.1.2.1, 64, .inl aPar)), (ad 4, .inl (Y.2.1.2.1, 64, .inl aFst)), (ad 5, .inl (Y.2.1.2.1, 64, .inl aTpl)), (ad 6, .inl (Y.2.1.2.2, 64, .inr (.inl aTit))), (ad 7, .inl (Y.2.1.2.2, 512, .inr (.inl aPnm))), (ad 8, .inl (Y.2.1.2.1, 512, .inl aPty)), (ad 9, .inl (Y.2.1.2.1, 8192, .inl aKnd)), (ad 10, .inl (Y.2.1.2.1, 8192, .inl aPrn)), (ad 11, .inl (Y.2.1.2.1, 8192, .inl aPlc)), (ad 12, .inl (Y.2.1.2.1, 8192, .inl aNpl)), (ad 13, .inl (Y.2.1.2.1, 8192, .inl aSpl)), (ad 14, .inl (Y.2.1.2.1, 8192, .inl aVar)), (ad 15, .inl (Y.2.1.2.1, 8192, .inl aVal)), (ad 16, .inl (Y.2.1.2.2, 8192, .inr (.inl aNam))), (ad 17, .inl (Y.2.1.2.2, 8192, .inr (.inl aSec))), (ad 18, .inl (Y.2.1.1, 33000, .inl aDue)), (ad 19, .inl (Y.2.1.2.1, 33000, .inl aDof))] H → va_D A [(hm, .inr (4, [.int thr, .ref (ad 0), .int (nI size), .int flt, .int plc, .int (nI pp), .int tok, .int (nI att), .long spl, .int val, .int (nI defs), .ref (ad 1), .ref (ad 2), .ref (ad 3), .ref (ad 4), .ref (ad 5), .ref (ad 6), .ref (ad 7), .ref (ad 8), .int (nI nodes), .ref (ad 9), .ref (ad 10), .ref (ad 11), .ref (ad 12), .ref (ad 13), .ref (ad 14), .ref (ad 15), .ref (ad 16), .ref (ad 17), .ref (ad 18), .ref (ad 19), .int (nI dues), .int thn])), (ad 0, .inl (Y.2.1.1, 8192, .inl fT)), (ad 1, .inl (Y.2.1.2.1, 64, .inl aChg)), (ad 2, .inl (Y.2.1.2.1, 64, .inl aTyp)), (ad 3, .inl (Y.2.1.2.1, 64, .inl aPar)), (ad 4, .inl (Y.2.1.2.1, 64, .inl aFst)), (ad 5, .inl (Y.2.1.2.1, 64, .inl aTpl)), (ad 6, .inl (Y.2.1.2.2, 64, .inr (.inl aTit))), (ad 7, .inl (Y.2.1.2.2, 512, .inr (.inl aPnm))), (ad 8, .inl (Y.2.1.2.1, 512, .inl aPty)), (ad 9, .inl (Y.2.1.2.1, 8192, .inl aKnd)), (ad 10, .inl (Y.2.1.2.1, 8192, .inl aPrn)), (ad 11, .inl (Y.2.1.2.1, 8192, .inl aPlc)), (ad 12, .inl (Y.2.1.2.1, 8192, .inl aNpl)), (ad 13, .inl (Y.2.1.2.1, 8192, .inl aSpl)), (ad 14, .inl (Y.2.1.2.1, 8192, .inl aVar)), (ad 15, .inl (Y.2.1.2.1, 8192, .inl aVal)), (ad 16, .inl (Y.2.1.2.2, 8192, .inr (.inl aNam))), (ad 17, .inl (Y.2.1.2.2, 8192, .inr (.inl aSec))), (ad 18, .inl (Y.2.1.1, 33000, .inl aDue)), (ad 19, .inl (Y.2.1.2.1, 33000, .inl aDof))] → va_S A s.heap H locs → lv_has ls 4 [(0, .ref hm), (1, .int (nI d)), (3, .int (zz_b more))] → W p l e (headSpec (zz_ws yn_M_readDefinition bc_M_readDefinition 4 none) { frames := 11, cells := 0, slots := 0, locals := 235 }).room s m args below meth c H locs 0 0 Q (F0 m 240 ls []) := by
  obtain ⟨hx, hb, hr, hml, hlocks, hin, hown, hw, hAe, hA, hK, hG, -, -, -⟩ := id C0
  have hown : s.vm.findClass "TwoLevelParserModel" = some m.cls := hown
  intro n
  induction n with
  | zero =>
    intro flt plc pp tok att spl val aPar aPnm aPty more fT H locs ls hW hms hsz8 hlat hP hD hS hl
    refine lv_iload_n hx hb dc_M_readDefinition_240 rfl (lv_at hl 2 rfl) ?_
    refine lv_if_eq (tgt := 312) hx hb dc_M_readDefinition_241 (by decide) (fun c_1 => ?_) (fun c_1 => ?_)
    · skip
      have c_1 := zz_bF c_1
      exact kk flt plc pp tok att spl val aPar aPnm aPty _ _ _ _ (by rcases hW with q9 | ⟨f9, g9, k9, ⟨a9, _⟩ | ⟨_, r9⟩⟩; exact Or.inl q9; exact absurd a9 c_1; exact Or.inr ⟨f9, g9, k9, r9⟩) hsz8 hlat hP hD hS (lv_sub hl [0, 1] rfl)
    · skip
      have c_1 := zz_bT c_1
      refine lv_aload_n hx hb dc_M_readDefinition_244 rfl (lv_at hl 0 rfl) ?_
      refine va_get (D := Y.1) (ci := 4) (v := .int flt) (C := rn_M) (T := tf_M) (N := 33) hx hb hw wi_M hown hK hP 0 rfl rfl 3 (by decide) (hw _ kw_547) (fun _ h9 => h9) rfl dc_M_readDefinition_245 ?_
      refine lv_if_ne (tgt := 312) hx hb dc_M_readDefinition_248 (by decide) (fun c_2 => ?_) (fun c_2 => ?_)
      · skip
        exact kk flt plc pp tok att spl val aPar aPnm aPty _ _ _ _ (by rcases hW with q9 | ⟨f9, _⟩; exact Or.inl q9; exact absurd f9 c_2) hsz8 hlat hP hD hS (lv_sub hl [0, 1] rfl)
      · skip
        exact absurd hms (fun q => q.elim (fun z => z c_2) (fun z => absurd z (by omega)))
  | succ n ih =>
    intro flt plc pp tok att spl val aPar aPnm aPty more fT H locs ls hW hms hsz8 hlat hP hD hS hl
    refine lv_iload_n hx hb dc_M_readDefinition_240 rfl (lv_at hl 2 rfl) ?_
    refine lv_if_eq (tgt := 312) hx hb dc_M_readDefinition_241 (by decide) (fun c_1 => ?_) (fun c_1 => ?_)
    · skip
      have c_1 := zz_bF c_1
      exact kk flt plc pp tok att spl val aPar aPnm aPty _ _ _ _ (by rcases hW with q9 | ⟨f9, g9, k9, ⟨a9, _⟩ | ⟨_, r9⟩⟩; exact Or.inl q9; exact absurd a9 c_1; exact Or.inr ⟨f9, g9, k9, r9⟩) hsz8 hlat hP hD hS (lv_sub hl [0, 1] rfl)
    · skip
      have c_1 := zz_bT c_1
      refine lv_aload_n hx hb dc_M_readDefinition_244 rfl (lv_at hl 0 rfl) ?_
      refine va_get (D := Y.1) (ci := 4) (v := .int flt) (C := rn_M) (T := tf_M) (N := 33) hx hb hw wi_M hown hK hP 0 rfl rfl 3 (by decide) (hw _ kw_547) (fun _ h9 => h9) rfl dc_M_readDefinition_245 ?_
      refine lv_if_ne (tgt := 312) hx hb dc_M_readDefinition_248 (by decide) (fun c_2 => ?_) (fun c_2 => ?_)
      · skip
        exact kk flt plc pp tok att spl val aPar aPnm aPty _ _ _ _ (by rcases hW with q9 | ⟨f9, _⟩; exact Or.inl q9; exact absurd f9 c_2) hsz8 hlat hP hD hS (lv_sub hl [0, 1] rfl)
      · skip
        have hR : plc = plc0 ∧ lo < pp ∧ zq_HR tx size c0 4 d nodes nnum nnam pp aChg aTyp aPar aFst aTpl aTit aPnm aPty := by
          rcases hW with ⟨p9, e9, z9⟩ | ⟨f9, g9, k9, ⟨a9, r9⟩ | ⟨a9, _⟩⟩
          · exact absurd c_2 (zq_end_pos z9).2
          · exact ⟨g9, k9, r9⟩
          · rw [a9] at c_1; exact absurd c_1 (by decide)
        obtain ⟨hpl, hnp, q, dnum, dnam, hDp, hDD, hCO⟩ := hR
        have hpsq : pp ≤ size := by obtain ⟨_, _, _, _, _, _, _, _, _, _, _, h9⟩ := hCO; exact h9
        have hqq := hDp.2.2.2.2.1
        have hq8q := hDp.1
        have hL := zq_L3 (flt := flt) (plc := plc) (tok := tok) (spl := spl) (val := val) hb2 c_2 hd hnp hDp hDD hCO rfl
        have hms2 : size - pp < n + 1 := hms.resolve_left (fun q => q c_2)
        have hl : lv_has ls 4 [(0, .ref hm), (1, .int (nI d))] := lv_sub hl [0, 1] rfl
        refine zm_rdp (tx := tx) (thr := thr) (size := size) (flt := flt) (plc := plc) (pp := pp) (tok := tok) (att := att) (spl := spl) (val := val) (defs := defs) (nodes := nodes) (dues := dues) (thn := thn) (aChg := aChg) (aTyp := aTyp) (aPar := aPar) (aFst := aFst) (aTpl := aTpl) (aTit := aTit) (aPnm := aPnm) (aPty := aPty) (aKnd := aKnd) (aPrn := aPrn) (aPlc := aPlc) (aNpl := aNpl) (aSpl := aSpl) (aVar := aVar) (aVal := aVal) (aNam := aNam) (aSec := aSec) (aDue := aDue) (aDof := aDof) hsz8 hlat hd hqq hq8q hpsq C0 ?_ hP hD hS hl
        clear hP hD hS hl
        intro q_3f H locs ls q_3s q_3l q_3k hP hD hS hl
        generalize e_u_4 : zs_zm_rdp tx size flt plc pp tok spl val aPar aPnm aPty d q = u_4 at q_3k hP hD hl
        have hP : va_P Y.1 vwCl [(hm, .inr (4, [.int thr, .ref (ad 0), .int (nI size), .int ((u_4).1), .int ((u_4).2.1), .int (nI ((u_4).2.2.1)), .int ((u_4).2.2.2.1), .int (nI ((u_4).2.2.2.2.1)), .long ((u_4).2.2.2.2.2.1), .int ((u_4).2.2.2.2.2.2.1), .int (nI defs), .ref (ad 1), .ref (ad 2), .ref (ad 3), .ref (ad 4), .ref (ad 5), .ref (ad 6), .ref (ad 7), .ref (ad 8), .int (nI nodes), .ref (ad 9), .ref (ad 10), .ref (ad 11), .ref (ad 12), .ref (ad 13), .ref (ad 14), .ref (ad 15), .ref (ad 16), .ref (ad 17), .ref (ad 18), .ref (ad 19), .int (nI dues), .int thn])), (ad 0, .inl (Y.2.1.1, 8192, .inl q_3f)), (ad 1, .inl (Y.2.1.2.1, 64, .inl aChg)), (ad 2, .inl (Y.2.1.2.1, 64, .inl aTyp)), (ad 3, .inl (Y.2.1.2.1, 64, .inl ((u_4).2.2.2.2.2.2.2.1))), (ad 4, .inl (Y.2.1.2.1, 64, .inl aFst)), (ad 5, .inl (Y.2.1.2.1, 64, .inl aTpl)), (ad 6, .inl (Y.2.1.2.2, 64, .inr (.inl aTit))), (ad 7, .inl (Y.2.1.2.2, 512, .inr (.inl ((u_4).2.2.2.2.2.2.2.2.1)))), (ad 8, .inl (Y.2.1.2.1, 512, .inl ((u_4).2.2.2.2.2.2.2.2.2.1))), (ad 9, .inl (Y.2.1.2.1, 8192, .inl aKnd)), (ad 10, .inl (Y.2.1.2.1, 8192, .inl aPrn)), (ad 11, .inl (Y.2.1.2.1, 8192, .inl aPlc)), (ad 12, .inl (Y.2.1.2.1, 8192, .inl aNpl)), (ad 13, .inl (Y.2.1.2.1, 8192, .inl aSpl)), (ad 14, .inl (Y.2.1.2.1, 8192, .inl aVar)), (ad 15, .inl (Y.2.1.2.1, 8192, .inl aVal)), (ad 16, .inl (Y.2.1.2.2, 8192, .inr (.inl aNam))), (ad 17, .inl (Y.2.1.2.2, 8192, .inr (.inl aSec))), (ad 18, .inl (Y.2.1.1, 33000, .inl aDue)), (ad 19, .inl (Y.2.1.2.1, 33000, .inl aDof))] H := hP
        have hD : va_D A [(hm, .inr (4, [.int thr, .ref (ad 0), .int (nI size), .int ((u_4).1), .int ((u_4).2.1), .int (nI ((u_4).2.2.1)), .int ((u_4).2.2.2.1), .int (nI ((u_4).2.2.2.2.1)), .long ((u_4).2.2.2.2.2.1), .int ((u_4).2.2.2.2.2.2.1), .int (nI defs), .ref (ad 1), .ref (ad 2), .ref (ad 3), .ref (ad 4), .ref (ad 5), .ref (ad 6), .ref (ad 7), .ref (ad 8), .int (nI nodes), .ref (ad 9), .ref (ad 10), .ref (ad 11), .ref (ad 12), .ref (ad 13), .ref (ad 14), .ref (ad 15), .ref (ad 16), .ref (ad 17), .ref (ad 18), .ref (ad 19), .int (nI dues), .int thn])), (ad 0, .inl (Y.2.1.1, 8192, .inl q_3f)), (ad 1, .inl (Y.2.1.2.1, 64, .inl aChg)), (ad 2, .inl (Y.2.1.2.1, 64, .inl aTyp)), (ad 3, .inl (Y.2.1.2.1, 64, .inl ((u_4).2.2.2.2.2.2.2.1))), (ad 4, .inl (Y.2.1.2.1, 64, .inl aFst)), (ad 5, .inl (Y.2.1.2.1, 64, .inl aTpl)), (ad 6, .inl (Y.2.1.2.2, 64, .inr (.inl aTit))), (ad 7, .inl (Y.2.1.2.2, 512, .inr (.inl ((u_4).2.2.2.2.2.2.2.2.1)))), (ad 8, .inl (Y.2.1.2.1, 512, .inl ((u_4).2.2.2.2.2.2.2.2.2.1))), (ad 9, .inl (Y.2.1.2.1, 8192, .inl aKnd)), (ad 10, .inl (Y.2.1.2.1, 8192, .inl aPrn)), (ad 11, .inl (Y.2.1.2.1, 8192, .inl aPlc)), (ad 12, .inl (Y.2.1.2.1, 8192, .inl aNpl)), (ad 13, .inl (Y.2.1.2.1, 8192, .inl aSpl)), (ad 14, .inl (Y.2.1.2.1, 8192, .inl aVar)), (ad 15, .inl (Y.2.1.2.1, 8192, .inl aVal)), (ad 16, .inl (Y.2.1.2.2, 8192, .inr (.inl aNam))), (ad 17, .inl (Y.2.1.2.2, 8192, .inr (.inl aSec))), (ad 18, .inl (Y.2.1.1, 33000, .inl aDue)), (ad 19, .inl (Y.2.1.2.1, 33000, .inl aDof))] := hD
        rw [e_u_4] at hL
        clear e_u_4
        obtain ⟨v_flt, v_plc, v_pp, v_tok, v_att, v_spl, v_val, v_aPar, v_aPnm, v_aPty, v_more⟩ := u_4
        have hP : va_P Y.1 vwCl [(hm, .inr (4, [.int thr, .ref (ad 0), .int (nI size), .int v_flt, .int v_plc, .int (nI v_pp), .int v_tok, .int (nI v_att), .long v_spl, .int v_val, .int (nI defs), .ref (ad 1), .ref (ad 2), .ref (ad 3), .ref (ad 4), .ref (ad 5), .ref (ad 6), .ref (ad 7), .ref (ad 8), .int (nI nodes), .ref (ad 9), .ref (ad 10), .ref (ad 11), .ref (ad 12), .ref (ad 13), .ref (ad 14), .ref (ad 15), .ref (ad 16), .ref (ad 17), .ref (ad 18), .ref (ad 19), .int (nI dues), .int thn])), (ad 0, .inl (Y.2.1.1, 8192, .inl q_3f)), (ad 1, .inl (Y.2.1.2.1, 64, .inl aChg)), (ad 2, .inl (Y.2.1.2.1, 64, .inl aTyp)), (ad 3, .inl (Y.2.1.2.1, 64, .inl v_aPar)), (ad 4, .inl (Y.2.1.2.1, 64, .inl aFst)), (ad 5, .inl (Y.2.1.2.1, 64, .inl aTpl)), (ad 6, .inl (Y.2.1.2.2, 64, .inr (.inl aTit))), (ad 7, .inl (Y.2.1.2.2, 512, .inr (.inl v_aPnm))), (ad 8, .inl (Y.2.1.2.1, 512, .inl v_aPty)), (ad 9, .inl (Y.2.1.2.1, 8192, .inl aKnd)), (ad 10, .inl (Y.2.1.2.1, 8192, .inl aPrn)), (ad 11, .inl (Y.2.1.2.1, 8192, .inl aPlc)), (ad 12, .inl (Y.2.1.2.1, 8192, .inl aNpl)), (ad 13, .inl (Y.2.1.2.1, 8192, .inl aSpl)), (ad 14, .inl (Y.2.1.2.1, 8192, .inl aVar)), (ad 15, .inl (Y.2.1.2.1, 8192, .inl aVal)), (ad 16, .inl (Y.2.1.2.2, 8192, .inr (.inl aNam))), (ad 17, .inl (Y.2.1.2.2, 8192, .inr (.inl aSec))), (ad 18, .inl (Y.2.1.1, 33000, .inl aDue)), (ad 19, .inl (Y.2.1.2.1, 33000, .inl aDof))] H := hP
        have hD : va_D A [(hm, .inr (4, [.int thr, .ref (ad 0), .int (nI size), .int v_flt, .int v_plc, .int (nI v_pp), .int v_tok, .int (nI v_att), .long v_spl, .int v_val, .int (nI defs), .ref (ad 1), .ref (ad 2), .ref (ad 3), .ref (ad 4), .ref (ad 5), .ref (ad 6), .ref (ad 7), .ref (ad 8), .int (nI nodes), .ref (ad 9), .ref (ad 10), .ref (ad 11), .ref (ad 12), .ref (ad 13), .ref (ad 14), .ref (ad 15), .ref (ad 16), .ref (ad 17), .ref (ad 18), .ref (ad 19), .int (nI dues), .int thn])), (ad 0, .inl (Y.2.1.1, 8192, .inl q_3f)), (ad 1, .inl (Y.2.1.2.1, 64, .inl aChg)), (ad 2, .inl (Y.2.1.2.1, 64, .inl aTyp)), (ad 3, .inl (Y.2.1.2.1, 64, .inl v_aPar)), (ad 4, .inl (Y.2.1.2.1, 64, .inl aFst)), (ad 5, .inl (Y.2.1.2.1, 64, .inl aTpl)), (ad 6, .inl (Y.2.1.2.2, 64, .inr (.inl aTit))), (ad 7, .inl (Y.2.1.2.2, 512, .inr (.inl v_aPnm))), (ad 8, .inl (Y.2.1.2.1, 512, .inl v_aPty)), (ad 9, .inl (Y.2.1.2.1, 8192, .inl aKnd)), (ad 10, .inl (Y.2.1.2.1, 8192, .inl aPrn)), (ad 11, .inl (Y.2.1.2.1, 8192, .inl aPlc)), (ad 12, .inl (Y.2.1.2.1, 8192, .inl aNpl)), (ad 13, .inl (Y.2.1.2.1, 8192, .inl aSpl)), (ad 14, .inl (Y.2.1.2.1, 8192, .inl aVar)), (ad 15, .inl (Y.2.1.2.1, 8192, .inl aVal)), (ad 16, .inl (Y.2.1.2.2, 8192, .inr (.inl aNam))), (ad 17, .inl (Y.2.1.2.2, 8192, .inr (.inl aSec))), (ad 18, .inl (Y.2.1.1, 33000, .inl aDue)), (ad 19, .inl (Y.2.1.2.1, 33000, .inl aDof))] := hD
        have hl : lv_has ls 4 [(0, .ref hm), (1, .int (nI d)), (3, .int (zz_b v_more))] := hl
        exact ih v_flt v_plc v_pp v_tok v_att v_spl v_val v_aPar v_aPnm v_aPty v_more _ _ _ _ (by rw [hpl] at hL; exact hL.1) (by rcases hL.2 with z9 | z9; exact Or.inl z9; exact Or.inr (by have z8 : pp < v_pp ∧ v_pp ≤ size := z9; omega)) q_3s q_3l hP hD hS hl
