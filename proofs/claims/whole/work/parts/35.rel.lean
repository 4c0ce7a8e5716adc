theorem zq_stop0 (tx : Nat → Nat) (len : Nat) (next : Nat) (token : Int32) (place : Nat) (name : Int64) (word value : Int32) (dr dc : Nat) (dnum : Nat → Nat → Int32) (dnam : Nat → Nat → Int64) (nr nc : Nat) (nnum : Nat → Nat → Int32) (nnam : Nat → Nat → Int64) (fault stage latest op wa : Int32) (h : ¬ fault = 0 ∨ token = 0) :
    ∀ n, zp_run tx len n (next, token, place, name, word, value, dr, dc, dnum, dnam, nr, nc, nnum, nnam, fault, stage, latest, op, wa) = (next, token, place, name, word, value, dr, dc, dnum, dnam, nr, nc, nnum, nnam, fault, stage, latest, op, wa) := by
  intro n
  cases n with
  | zero => rfl
  | succ n =>
    rw [zp_run]
    by_cases hf : fault = 0
    · rw [if_pos hf, if_pos (by rcases h with h | h; exact absurd hf h; exact h)]
    · rw [if_neg hf]
theorem zq_run_add (tx : Nat → Nat) (len m : Nat) : ∀ (n : Nat) (a : zp_L), zp_run tx len (n + m) a = zp_run tx len m (zp_run tx len n a) := by
  intro n
  induction n with
  | zero => intro a; rw [Nat.zero_add]; rfl
  | succ n ih =>
    intro a
    obtain ⟨next, token, place, name, word, value, dr, dc, dnum, dnam, nr, nc, nnum, nnam, fault, stage, latest, op, wa⟩ := a
    by_cases hf : fault = 0
    · by_cases ht : token = 0
      · rw [zq_stop0 _ _ _ _ _ _ _ _ _ _ _ _ _ _ _ _ _ _ _ _ _ (Or.inr ht), zq_stop0 _ _ _ _ _ _ _ _ _ _ _ _ _ _ _ _ _ _ _ _ _ (Or.inr ht), zq_stop0 _ _ _ _ _ _ _ _ _ _ _ _ _ _ _ _ _ _ _ _ _ (Or.inr ht)]
      · rw [Nat.succ_add n m]
        show zp_run tx len (n + m + 1) _ = zp_run tx len m (zp_run tx len (n + 1) _)
        rw [zp_run, zp_run, if_pos hf, if_neg ht, if_pos hf, if_neg ht]
        exact ih _
    · rw [zq_stop0 _ _ _ _ _ _ _ _ _ _ _ _ _ _ _ _ _ _ _ _ _ (Or.inl hf), zq_stop0 _ _ _ _ _ _ _ _ _ _ _ _ _ _ _ _ _ _ _ _ _ (Or.inl hf), zq_stop0 _ _ _ _ _ _ _ _ _ _ _ _ _ _ _ _ _ _ _ _ _ (Or.inl hf)]
def zq_go (tx : Nat → Nat) (len : Nat) (a b : zp_L) : Prop := ∃ n, zp_run tx len n a = b
theorem zq_go.rf {tx : Nat → Nat} {len : Nat} {a : zp_L} : zq_go tx len a a := ⟨0, rfl⟩
theorem zq_go.tr {tx : Nat → Nat} {len : Nat} {a b c : zp_L} (h1 : zq_go tx len a b) (h2 : zq_go tx len b c) : zq_go tx len a c := by
  obtain ⟨n, rfl⟩ := h1
  obtain ⟨m, rfl⟩ := h2
  exact ⟨n + m, zq_run_add tx len m n a⟩
theorem zq_go.it {tx : Nat → Nat} {len next : Nat} {token : Int32} {place : Nat} {name : Int64} {word value : Int32} {dr dc : Nat} {dnum : Nat → Nat → Int32} {dnam : Nat → Nat → Int64} {nr nc : Nat} {nnum : Nat → Nat → Int32} {nnam : Nat → Nat → Int64} {stage latest op wa : Int32} (ht : ¬ token = 0) :
    zq_go tx len (next, token, place, name, word, value, dr, dc, dnum, dnam, nr, nc, nnum, nnam, 0, stage, latest, op, wa) (zp_iter tx len next token place name word value dr dc dnum dnam nr nc nnum nnam 0 stage latest op wa) := by
  refine ⟨1, ?_⟩
  rw [zp_run, if_pos rfl, if_neg ht]; rfl
def zq_end (tx : Nat → Nat) (len : Nat) (c : zp_L) (f : Int32) (p : Nat) : Prop :=
  ∃ (next : Nat) (token : Int32) (name : Int64) (word value : Int32) (dr dc : Nat) (dnum : Nat → Nat → Int32) (dnam : Nat → Nat → Int64) (nr nc : Nat) (nnum : Nat → Nat → Int32) (nnam : Nat → Nat → Int64) (fault stage latest op wa : Int32),
    zq_go tx len c (next, token, p, name, word, value, dr, dc, dnum, dnam, nr, nc, nnum, nnam, fault, stage, latest, op, wa) ∧ ((fault = f ∧ (f = 1 ∨ f = 2)) ∨ (fault = 0 ∧ token = 0 ∧ ¬ stage = 0 ∧ f = 3))
theorem zq_end.of {tx : Nat → Nat} {len : Nat} {c c' : zp_L} {f : Int32} {p : Nat} (h : zq_go tx len c c') (h2 : zq_end tx len c' f p) : zq_end tx len c f p := by
  obtain ⟨a1, a2, a3, a4, a5, a6, a7, a8, a9, b1, b2, b3, b4, b5, b6, b7, b8, b9, g, k⟩ := h2
  exact ⟨a1, a2, a3, a4, a5, a6, a7, a8, a9, b1, b2, b3, b4, b5, b6, b7, b8, b9, h.tr g, k⟩
theorem zq_up_ne {α : Type} {f : Nat → Nat → α} {i j : Nat} {v : α} {a b : Nat} (h : ¬ a = i) : zr_up f i j v a b = f a b := if_neg (fun g => h g.1)
theorem zq_up_nc {α : Type} {f : Nat → Nat → α} {i j : Nat} {v : α} {a b : Nat} (h : ¬ b = j) : zr_up f i j v a b = f a b := if_neg (fun g => h g.2)
theorem zq_up_eq {α : Type} {f : Nat → Nat → α} {i j : Nat} {v : α} : zr_up f i j v i j = v := if_pos ⟨rfl, rfl⟩
theorem zq_new_ne {α : Type} {f : Nat → Nat → α} {i : Nat} {v : α} {a b : Nat} (h : ¬ a = i) : zr_new f i v a b = f a b := if_neg h
theorem zq_new_eq {α : Type} {f : Nat → Nat → α} {i : Nat} {v : α} {b : Nat} : zr_new f i v i b = v := if_pos rfl
theorem zq_nw_ne {P : Nat → Nat → Int32} {nr : Nat} {kind pl o v : Int32} {a b : Nat} (h : ¬ a = nr) : zq_nw P nr kind pl o v a b = P a b := by
  rw [zq_nw, zq_up_ne h, zq_up_ne h, zq_up_ne h, zq_up_ne h, zq_up_ne h, zq_new_ne h]
theorem zq_nw_eq {P : Nat → Nat → Int32} {nr : Nat} {kind pl o v : Int32} {b : Nat} : zq_nw P nr kind pl o v nr b = if b = 0 then kind else if b = 1 then 0 else if b = 3 then pl else if b = 4 then o else if b = 7 then v else -1 := by
  rw [zq_nw]
  by_cases h7 : b = 7
  · subst h7; rw [zq_up_eq]; rfl
  · rw [zq_up_nc h7]
    by_cases h4 : b = 4
    · subst h4; rw [zq_up_eq]; rfl
    · rw [zq_up_nc h4]
      by_cases h3 : b = 3
      · subst h3; rw [zq_up_eq]; rfl
      · rw [zq_up_nc h3]
        by_cases h1 : b = 1
        · subst h1; rw [zq_up_eq]; rfl
        · rw [zq_up_nc h1]
          by_cases h0 : b = 0
          · subst h0; rw [zq_up_eq]; rfl
          · rw [zq_up_nc h0, zq_new_eq, if_neg h0, if_neg h1, if_neg h3, if_neg h4, if_neg h7]
theorem zq_P_c {nnum : Nat → Nat → Int32} {wa : Int32} {o : Option Nat} {k c : Nat} (h1 : ¬ c = 1) (h9 : ¬ c = 9) : zq_P nnum wa o k c = nnum k c := by
  cases o with
  | none => rfl
  | some n =>
    show zq_par nnum wa n k c = _
    rw [zq_par]
    split
    · rw [zq_up_nc h1]
    · rw [zq_up_nc h9, zq_up_nc h1]
theorem zq_P_1 {nnum : Nat → Nat → Int32} {wa : Int32} {o : Option Nat} {k : Nat} : zq_P nnum wa o k 1 = if o = some k then nnum k 1 + 1 else nnum k 1 := by
  cases o with
  | none => rfl
  | some n =>
    show zq_par nnum wa n k 1 = _
    rw [zq_par]
    by_cases hk : k = n
    · subst hk
      rw [if_pos rfl]
      split
      · rw [zq_up_eq]
      · rw [zq_up_nc (by decide), zq_up_eq]
    · rw [if_neg (show ¬ some n = some k from fun g => hk (Option.some.inj g).symm)]
      split
      · rw [zq_up_ne hk]
      · rw [zq_up_ne hk, zq_up_ne hk]
theorem zq_P_n {nnum : Nat → Nat → Int32} {wa : Int32} {o : Option Nat} {k c : Nat} (h : ¬ o = some k) : zq_P nnum wa o k c = nnum k c := by
  cases o with
  | none => rfl
  | some n =>
    show zq_par nnum wa n k c = _
    have hk : ¬ k = n := fun g => h (by rw [g])
    rw [zq_par]
    split
    · rw [zq_up_ne hk]
    · rw [zq_up_ne hk, zq_up_ne hk]
def zq_N (nr : Nat) (nnum : Nat → Nat → Int32) (nnam : Nat → Nat → Int64) (aKnd aPrn aPlc aNpl aSpl aVar aVal : Nat → Int32) (aNam aSec : Nat → Int64) : Prop :=
  ∀ k, k < nr → nnum k 0 = aKnd k ∧ nnum k 3 = aPlc k ∧ nnum k 4 = aPrn k ∧ nnum k 5 = aNpl k ∧ nnum k 6 = aSpl k ∧ nnum k 7 = aVar k ∧ aVal k = (if aKnd k = 0 then nnum k 8 else 0) ∧ nnam k 0 = aNam k ∧ nnam k 1 = aSec k
theorem zq_u_ne {f : Nat → Int32} {i k : Nat} {v : Int32} (h : ¬ k = i) : upd f i v k = f k := if_neg h
theorem zq_u_eq {f : Nat → Int32} {i : Nat} {v : Int32} : upd f i v i = v := if_pos rfl
theorem zq_ul_ne {f : Nat → Int64} {i k : Nat} {v : Int64} (h : ¬ k = i) : vp_updL f i v k = f k := if_neg h
theorem zq_ul_eq {f : Nat → Int64} {i : Nat} {v : Int64} : vp_updL f i v i = v := if_pos rfl
theorem zq_N_add {nr : Nat} {nnum nnum' : Nat → Nat → Int32} {nnam nnam' : Nat → Nat → Int64} {aKnd aPrn aPlc aNpl aSpl aVar aVal aKnd' aPrn' aPlc' aNpl' aSpl' aVar' aVal' : Nat → Int32} {aNam aSec aNam' aSec' : Nat → Int64}
    (h : zq_N nr nnum nnam aKnd aPrn aPlc aNpl aSpl aVar aVal aNam aSec)
    (hk : ∀ k, k < nr → (nnum' k 0 = nnum k 0 ∧ nnum' k 3 = nnum k 3 ∧ nnum' k 4 = nnum k 4 ∧ nnum' k 5 = nnum k 5 ∧ nnum' k 6 = nnum k 6 ∧ nnum' k 7 = nnum k 7 ∧ nnum' k 8 = nnum k 8 ∧ nnam' k 0 = nnam k 0 ∧ nnam' k 1 = nnam k 1) ∧ aKnd' k = aKnd k ∧ aPrn' k = aPrn k ∧ aPlc' k = aPlc k ∧ aNpl' k = aNpl k ∧ aSpl' k = aSpl k ∧ aVar' k = aVar k ∧ aVal' k = aVal k ∧ aNam' k = aNam k ∧ aSec' k = aSec k)
    (hn : nnum' nr 0 = aKnd' nr ∧ nnum' nr 3 = aPlc' nr ∧ nnum' nr 4 = aPrn' nr ∧ nnum' nr 5 = aNpl' nr ∧ nnum' nr 6 = aSpl' nr ∧ nnum' nr 7 = aVar' nr ∧ aVal' nr = (if aKnd' nr = 0 then nnum' nr 8 else 0) ∧ nnam' nr 0 = aNam' nr ∧ nnam' nr 1 = aSec' nr) :
    zq_N (nr + 1) nnum' nnam' aKnd' aPrn' aPlc' aNpl' aSpl' aVar' aVal' aNam' aSec' := by
  intro k hlt
  by_cases he : k = nr
  · subst he; exact hn
  · obtain ⟨⟨a0, a3, a4, a5, a6, a7, a8, b0, b1⟩, c0, c1, c2, c3, c4, c5, c6, c7, c8⟩ := hk k (by omega)
    obtain ⟨d0, d3, d4, d5, d6, d7, d8, e0, e1⟩ := h k (by omega)
    refine ⟨?_, ?_, ?_, ?_, ?_, ?_, ?_, ?_, ?_⟩
    · rw [a0, c0, d0]
    · rw [a3, c2, d3]
    · rw [a4, c1, d4]
    · rw [a5, c3, d5]
    · rw [a6, c4, d6]
    · rw [a7, c5, d7]
    · rw [c6, c0, a8, d8]
    · rw [b0, c7, e0]
    · rw [b1, c8, e1]
def zq_cn (nnum : Nat → Nat → Int32) (k : Nat) : Nat → Nat → Nat
  | _, 0 => 0
  | j, n + 1 => (if nnum j 4 = nI k then 1 else 0) + zq_cn nnum k (j + 1) n
theorem zq_cn_c {nnum nnum' : Nat → Nat → Int32} {k : Nat} : ∀ (n j : Nat), (∀ i, j ≤ i → i < j + n → nnum' i 4 = nnum i 4) → zq_cn nnum' k j n = zq_cn nnum k j n := by
  intro n
  induction n with
  | zero => intro j _; rfl
  | succ n ih =>
    intro j h
    rw [zq_cn, zq_cn, h j (by omega) (by omega), ih (j + 1) (fun i a b => h i (by omega) (by omega))]
theorem zq_cn_s {nnum : Nat → Nat → Int32} {k : Nat} : ∀ (n j : Nat), zq_cn nnum k j (n + 1) = zq_cn nnum k j n + (if nnum (j + n) 4 = nI k then 1 else 0) := by
  intro n
  induction n with
  | zero => intro j; rw [zq_cn, zq_cn, zq_cn]; simp
  | succ n ih =>
    intro j
    rw [zq_cn, ih (j + 1), zq_cn, show j + 1 + n = j + (n + 1) from by omega]
    omega
def zq_Z (nr : Nat) (nnum : Nat → Nat → Int32) (op : Int32) (O : List Nat) : Prop :=
  (∀ k ∈ O, k < nr ∧ nI k ≤ op) ∧ op < nI nr ∧ ∀ k, k < nr → ∃ z, 1 ≤ z ∧ k + z ≤ nr ∧ nnum k 1 = nI (zq_cn nnum k (k + 1) (z - 1)) ∧ (∀ j, k < j → j < k + z → nI k ≤ nnum j 4) ∧
    ((k ∈ O ∧ k + z = nr) ∨ (¬ k ∈ O ∧ nnum k 2 = nI z ∧ (k + z < nr → nnum (k + z) 4 < nI k) ∧ (k + z = nr → op < nI k)))
theorem zq_Z_c {nr : Nat} {nnum nnum' : Nat → Nat → Int32} {op : Int32} {O : List Nat} (h : zq_Z nr nnum op O) (hc : ∀ k, k < nr → nnum' k 1 = nnum k 1 ∧ nnum' k 2 = nnum k 2 ∧ nnum' k 4 = nnum k 4) : zq_Z nr nnum' op O := by
  refine ⟨h.1, h.2.1, ?_⟩
  intro k hk
  obtain ⟨z, z1, z2, z3, z4, z5⟩ := h.2.2 k hk
  have ec : zq_cn nnum' k (k + 1) (z - 1) = zq_cn nnum k (k + 1) (z - 1) := zq_cn_c _ _ (fun i a b => (hc i (by omega)).2.2)
  refine ⟨z, z1, z2, by rw [(hc k hk).1, ec, z3], fun j a b => by rw [(hc j (by omega)).2.2]; exact z4 j a b, ?_⟩
  rcases z5 with z5 | ⟨g1, g2, g3, g4⟩
  · exact Or.inl z5
  · exact Or.inr ⟨g1, by rw [(hc k hk).2.1, g2], fun a => by rw [(hc (k + z) a).2.2]; exact g3 a, g4⟩
theorem zq_Z_add {nr : Nat} {nnum nnum' : Nat → Nat → Int32} {o : Option Nat} {O : List Nat} (hr : nr < 90000) (h : zq_Z nr nnum (zq_op o) O) (ho : ∀ n, o = some n → n ∈ O) (hO : o = none → O = []) (lf : Bool)
    (hc : ∀ k, k < nr → nnum' k 1 = (if o = some k then nnum k 1 + 1 else nnum k 1) ∧ nnum' k 2 = nnum k 2 ∧ nnum' k 4 = nnum k 4)
    (hn : nnum' nr 1 = 0 ∧ nnum' nr 4 = zq_op o ∧ (lf = true → nnum' nr 2 = 1)) : zq_Z (nr + 1) nnum' (if lf = true then zq_op o else nI nr) (if lf = true then O else nr :: O) := by
  obtain ⟨h1, h2, h3⟩ := h
  have hlt : nI nr < nI (nr + 1) := (zq_lt (by omega) (by omega)).2 (by omega)
  have tr : ∀ {a b c : Int32}, a < b → b < c → a < c := fun h1 h2 => by rw [Int32.lt_iff_toInt_lt] at *; omega
  have trl : ∀ {a b c : Int32}, a ≤ b → b < c → a ≤ c := fun h1 h2 => by rw [Int32.lt_iff_toInt_lt] at h2; rw [Int32.le_iff_toInt_le] at *; omega
  refine ⟨?_, ?_, ?_⟩
  · intro k hk
    cases lf
    · rcases List.mem_cons.1 hk with rfl | hk
      · exact ⟨by omega, Int32.le_refl _⟩
      · exact ⟨by have := (h1 k hk).1; omega, trl (h1 k hk).2 h2⟩
    · exact ⟨by have := (h1 k hk).1; omega, (h1 k hk).2⟩
  · cases lf
    · exact hlt
    · exact tr h2 hlt
  · intro k hk
    by_cases he : k = nr
    · subst he
      refine ⟨1, by omega, by omega, by rw [hn.1]; rfl, fun j a b => by omega, ?_⟩
      cases lf
      · exact Or.inl ⟨List.mem_cons_self, rfl⟩
      · exact Or.inr ⟨fun g => by have := (h1 k g).1; omega, hn.2.2 rfl, fun a => by omega, fun _ => h2⟩
    · have hk' : k < nr := by omega
      obtain ⟨z, z1, z2, z3, z4, z5⟩ := h3 k hk'
      have hmem : (k ∈ (if lf = true then O else nr :: O)) ↔ k ∈ O := by
        cases lf
        · simp [he]
        · simp
      rcases z5 with ⟨g1, g2⟩ | ⟨g1, g2, g3, g4⟩
      · refine ⟨z + 1, by omega, by omega, ?_, ?_, Or.inl ⟨hmem.2 g1, by omega⟩⟩
        · have e1 : z + 1 - 1 = (z - 1) + 1 := by omega
          have e2 : k + 1 + (z - 1) = nr := by omega
          rw [e1, zq_cn_s, e2, hn.2.1, zq_cn_c (nnum := nnum) (nnum' := nnum') _ _ (fun i a b => (hc i (by omega)).2.2), (hc k hk').1]
          by_cases hok : o = some k
          · rw [if_pos hok, if_pos (by rw [hok]; rfl), z3, ← zq_add]; rfl
          · rw [if_neg hok, if_neg ?_, z3]; rfl
            intro g
            cases o with
            | none => exact zq_n1 (by omega) g.symm
            | some n =>
              have := (h1 n (ho n rfl)).1
              have := (zq_inj (by omega) (by omega)).1 g
              subst this; exact hok rfl
        · intro j a b
          by_cases hj : j = nr
          · subst hj; rw [hn.2.1]; exact (h1 k g1).2
          · rw [(hc j (by omega)).2.2]; exact z4 j a (by omega)
      · refine ⟨z, z1, by omega, ?_, fun j a b => by rw [(hc j (by omega)).2.2]; exact z4 j a b, Or.inr ⟨fun g => g1 (hmem.1 g), by rw [(hc k hk').2.1, g2], ?_, fun a => by omega⟩⟩
        · rw [zq_cn_c (nnum := nnum) (nnum' := nnum') _ _ (fun i a b => (hc i (by omega)).2.2), (hc k hk').1, if_neg ?_, z3]
          intro g; exact g1 (ho k g)
        · intro a
          by_cases hz : k + z = nr
          · rw [hz, hn.2.1]; exact g4 hz
          · rw [(hc (k + z) (by omega)).2.2]; exact g3 (by omega)
theorem zq_Z_end {nr : Nat} {nnum nnum' : Nat → Nat → Int32} {n : Nat} {op' : Int32} {O : List Nat} (hr : nr < 90000) (h : zq_Z nr nnum (nI n) (n :: O)) (hn : n < nr) (hno : ¬ n ∈ O) (hp : op' < nI n) (hO : ∀ k ∈ O, nI k ≤ op')
    (hc : ∀ k, k < nr → nnum' k 1 = nnum k 1 ∧ nnum' k 4 = nnum k 4 ∧ nnum' k 2 = if k = n then nI (nr - n) else nnum k 2) : zq_Z nr nnum' op' O := by
  obtain ⟨h1, h2, h3⟩ := h
  have tr : ∀ {a b c : Int32}, a < b → b < c → a < c := fun h1 h2 => by rw [Int32.lt_iff_toInt_lt] at *; omega
  refine ⟨fun k hk => ⟨(h1 k (List.mem_cons_of_mem _ hk)).1, hO k hk⟩, tr hp h2, ?_⟩
  intro k hk
  obtain ⟨z, z1, z2, z3, z4, z5⟩ := h3 k hk
  refine ⟨z, z1, z2, by rw [(hc k hk).1, z3, zq_cn_c (nnum := nnum) (nnum' := nnum') _ _ (fun i a b => (hc i (by omega)).2.1)], fun j a b => by rw [(hc j (by omega)).2.1]; exact z4 j a b, ?_⟩
  by_cases hkn : k = n
  · subst hkn
    have hz : k + z = nr := by
      rcases z5 with ⟨-, g⟩ | ⟨g, -⟩
      · exact g
      · exact absurd List.mem_cons_self g
    refine Or.inr ⟨hno, by rw [(hc k hk).2.2, if_pos rfl]; congr 1; omega, fun a => by omega, fun _ => hp⟩
  · rcases z5 with ⟨g1, g2⟩ | ⟨g1, g2, g3, g4⟩
    · refine Or.inl ⟨?_, g2⟩
      rcases List.mem_cons.1 g1 with g | g
      · exact absurd g hkn
      · exact g
    · exact Or.inr ⟨fun g => g1 (List.mem_cons_of_mem _ g), by rw [(hc k hk).2.2, if_neg hkn, g2], fun a => by rw [(hc (k + z) a).2.1]; exact g3 a, fun a => tr hp (g4 a)⟩
def zq_sp (k s : Nat) (x : Int32) : Prop := ((k = 12 ∨ k = 22) → 5 ≤ s → ¬ x = -1) ∧ (¬ (k = 12 ∨ k = 22) → x = -1)
def zq_fr (nnum : Nat → Nat → Int32) (q : Nat) : Option Nat → Nat → List (Nat × Nat × Nat) → Prop
  | o, v, [] => o = none ∧ v = q
  | o, v, (n, k, s) :: F => o = some n ∧ zq_ok k s ∧ nnum n 0 = nI k ∧ nnum n 9 = nI s ∧ zq_sp k s (nnum n 6) ∧ (∀ f ∈ F, f.1 < n) ∧ ∃ (u : Nat) (o' : Option Nat), u + zq_mx k s ≤ 24 ∧ nnum n 7 = nI u ∧ v = u + zq_pre k s ∧ nnum n 4 = zq_op o' ∧ zq_fr nnum q o' u F
theorem zq_fr_c {nnum nnum' : Nat → Nat → Int32} {q : Nat} : ∀ (F : List (Nat × Nat × Nat)) (o : Option Nat) (v : Nat), (∀ f ∈ F, nnum' f.1 0 = nnum f.1 0 ∧ nnum' f.1 4 = nnum f.1 4 ∧ nnum' f.1 6 = nnum f.1 6 ∧ nnum' f.1 7 = nnum f.1 7 ∧ nnum' f.1 9 = nnum f.1 9) → zq_fr nnum q o v F → zq_fr nnum' q o v F := by
  intro F
  induction F with
  | nil => intro o v _ h; exact h
  | cons x F ih =>
    intro o v hc h
    obtain ⟨n, k, s⟩ := x
    obtain ⟨h1, h2, h3, h4, h5, h6, u, o', h7, h8, h9, h10, h11⟩ := h
    obtain ⟨c0, c4, c6, c7, c9⟩ := hc (n, k, s) List.mem_cons_self
    exact ⟨h1, h2, by rw [← h3]; exact c0, by rw [← h4]; exact c9, by rw [show nnum' n 6 = nnum n 6 from c6]; exact h5, h6, u, o', h7, by rw [← h8]; exact c7, h9, by rw [← h10]; exact c4, ih o' u (fun f hf => hc f (List.mem_cons_of_mem _ hf)) h11⟩
theorem zq_fr_v {nnum : Nat → Nat → Int32} {q : Nat} (hq : q ≤ 24) : ∀ (F : List (Nat × Nat × Nat)) (o : Option Nat) (v : Nat), zq_fr nnum q o v F → v ≤ 24 := by
  intro F o v h
  cases F with
  | nil => have := h.2; omega
  | cons x F =>
    obtain ⟨n, k, s⟩ := x
    obtain ⟨h1, h2, h3, h4, h5, h6, u, o', h7, h8, h9, h10, h11⟩ := h
    have hs := zq_ok8 h2
    have := (zq_tpp k hs.2 s hs.1 h2).2.2.2.2.2
    omega
def zq_dl (F : List (Nat × Nat × Nat)) : List (Nat × Int32) := F.flatMap (fun f => zq_q f.2.1 f.2.2 f.1)
def zq_R (tx : Nat → Nat) (size q : Nat) (F : List (Nat × Nat × Nat)) (o : Option Nat) (next : Nat) (token : Int32) (place : Nat) (name : Int64) (word value : Int32) (nr : Nat) (nnum : Nat → Nat → Int32) (nnam : Nat → Nat → Int64) (stage : Int32) (pp dues : Nat) (thn : Int32) (aKnd aPrn aPlc aNpl aSpl aVar aVal : Nat → Int32) (aNam aSec : Nat → Int64) (aDue aDof : Nat → Int32) : Prop :=
  (∃ (nm : Int64) (wd vl : Int32), (token, next, place, name, word, value) = zt_tok tx size pp nm wd vl) ∧ pp ≤ size ∧ nr < pp ∧ dues ≤ 4 * pp ∧ (∀ n k s G, F = (n, k, s) :: G → zq_ch k s = 42 → dues + 1 ≤ 4 * pp) ∧ stage = (if F = [] then 13 else 12) ∧ (∃ v, thn = nI v ∧ zq_fr nnum q o v F) ∧ zq_stk aDue aDof (zq_dl F) dues ∧ zq_N nr nnum nnam aKnd aPrn aPlc aNpl aSpl aVar aVal aNam aSec ∧ zq_Z nr nnum (zq_op o) (F.map (fun f => f.1))
def zq_out (tx : Nat → Nat) (size q : Nat) (dr dc : Nat) (dnum : Nat → Nat → Int32) (dnam : Nat → Nat → Int64) (latest : Int32) (plc : Int32) (pp0 : Nat) (c : zp_L) (σ : zm_L) : Prop :=
  (∃ (f : Int32) (p : Nat), ¬ f = 0 ∧ zq_ft size 32991 f p σ ∧ zq_end tx size c f p) ∨
  (∃ (F : List (Nat × Nat × Nat)) (o : Option Nat) (next : Nat) (token : Int32) (place : Nat) (name : Int64) (word value : Int32) (nr nc : Nat) (nnum : Nat → Nat → Int32) (nnam : Nat → Nat → Int64) (stage wa : Int32) (pp : Nat) (tok : Int32) (att : Nat) (spl : Int64) (val : Int32) (dues : Nat) (thn : Int32) (aKnd aPrn aPlc aNpl aSpl aVar aVal : Nat → Int32) (aNam aSec : Nat → Int64) (aDue aDof : Nat → Int32),
    zq_go tx size c (next, token, place, name, word, value, dr, dc, dnum, dnam, nr, nc, nnum, nnam, 0, stage, latest, zq_op o, wa) ∧
    σ = (0, plc, pp, tok, att, spl, val, nr, dues, thn, aKnd, aPrn, aPlc, aNpl, aSpl, aVar, aVal, aNam, aSec, aDue, aDof) ∧ pp0 < pp ∧
    zq_R tx size q F o next token place name word value nr nnum nnam stage pp dues thn aKnd aPrn aPlc aNpl aSpl aVar aVal aNam aSec aDue aDof)
theorem zq_fr_o {nnum : Nat → Nat → Int32} {q : Nat} {o : Option Nat} {v : Nat} {F : List (Nat × Nat × Nat)} (h : zq_fr nnum q o v F) : (o = none ↔ F = []) ∧ (∀ n, o = some n → n ∈ F.map (fun f => f.1)) := by
  cases F with
  | nil => exact ⟨⟨fun _ => rfl, fun _ => h.1⟩, fun n g => by rw [h.1] at g; cases g⟩
  | cons x F =>
    obtain ⟨n, k, s⟩ := x
    have e : o = some n := h.1
    subst e
    exact ⟨⟨fun g => (by cases g), fun g => (by cases g)⟩, fun m g => (by cases g; exact List.mem_cons_self)⟩
theorem zq_goOut {o : Option Nat} (h : ∀ n, o = some n → n < 100000) : zp_goOutTo (zq_op o) = (if o = none then 13 else 12, zq_op o) := by
  cases o with
  | none => rfl
  | some n =>
    rw [zp_goOutTo]
    show (if nI n = -1 then _ else _) = _
    rw [if_neg (zq_n1 (by have := h n rfl; omega))]; rfl
theorem zq_itO {tx : Nat → Nat} {len next : Nat} {token : Int32} {place : Nat} {name : Int64} {word value : Int32} {dr dc : Nat} {dnum : Nat → Nat → Int32} {dnam : Nat → Nat → Int64} {nr nc : Nat} {nnum : Nat → Nat → Int32} {nnam : Nat → Nat → Int64} {stage latest op wa : Int32} (h1 : ¬ token = 1) (hs : ¬ stage = 12)
    {b : Bool} {dr' dc' : Nat} {dnum' : Nat → Nat → Int32} {dnam' : Nat → Nat → Int64} {nr' nc' : Nat} {nnum' : Nat → Nat → Int32} {nnam' : Nat → Nat → Int64} {stage' latest' op' : Int32}
    (hT : zp_takesOutside token place name word value dr dc dnum dnam nr nc nnum nnam stage latest op wa = (b, dr', dc', dnum', dnam', nr', nc', nnum', nnam', stage', latest', op')) :
    zp_iter tx len next token place name word value dr dc dnum dnam nr nc nnum nnam 0 stage latest op wa = if b = true then ((zt_tok tx len next name word value).2.1, (zt_tok tx len next name word value).1, (zt_tok tx len next name word value).2.2.1, (zt_tok tx len next name word value).2.2.2.1, (zt_tok tx len next name word value).2.2.2.2.1, (zt_tok tx len next name word value).2.2.2.2.2, dr', dc', dnum', dnam', nr', nc', nnum', nnam', 0, stage', latest', op', wa)
      else (next, token, place, name, word, value, dr', dc', dnum', dnam', nr', nc', nnum', nnam', 2, stage', latest', op', wa) := by
  rw [zp_iter, if_neg h1, if_neg hs, hT]
theorem zq_it12 {tx : Nat → Nat} {len next : Nat} {token : Int32} {place : Nat} {name : Int64} {word value : Int32} {dr dc : Nat} {dnum : Nat → Nat → Int32} {dnam : Nat → Nat → Int64} {nr nc : Nat} {nnum : Nat → Nat → Int32} {nnam : Nat → Nat → Int64} {latest op wa : Int32} (h1 : ¬ token = 1)
    {b : Bool} {nr' nc' : Nat} {nnum' : Nat → Nat → Int32} {nnam' : Nat → Nat → Int64} {stage' op' wa' : Int32}
    (hT : zp_takesStep token place name word value dr dnum nr nc nnum nnam 12 latest op = (b, nr', nc', nnum', nnam', stage', op', wa')) :
    zp_iter tx len next token place name word value dr dc dnum dnam nr nc nnum nnam 0 12 latest op wa = if b = true then ((zt_tok tx len next name word value).2.1, (zt_tok tx len next name word value).1, (zt_tok tx len next name word value).2.2.1, (zt_tok tx len next name word value).2.2.2.1, (zt_tok tx len next name word value).2.2.2.2.1, (zt_tok tx len next name word value).2.2.2.2.2, dr, dc, dnum, dnam, nr', nc', nnum', nnam', 0, stage', latest, op', wa')
      else (next, token, place, name, word, value, dr, dc, dnum, dnam, nr', nc', nnum', nnam', 2, stage', latest, op', wa') := by
  rw [zp_iter, if_neg h1, if_pos rfl, hT]
theorem zq_it1 {tx : Nat → Nat} {len next : Nat} {place : Nat} {name : Int64} {word value : Int32} {dr dc : Nat} {dnum : Nat → Nat → Int32} {dnam : Nat → Nat → Int64} {nr nc : Nat} {nnum : Nat → Nat → Int32} {nnam : Nat → Nat → Int64} {stage latest op wa : Int32} :
    zq_end tx len (next, 1, place, name, word, value, dr, dc, dnum, dnam, nr, nc, nnum, nnam, 0, stage, latest, op, wa) 1 place := by
  refine ⟨_, _, _, _, _, _, _, _, _, _, _, _, _, _, _, _, _, _, zq_go.it (by decide), Or.inl ⟨rfl, by decide⟩⟩
theorem zq_it0 {tx : Nat → Nat} {len next : Nat} {place : Nat} {name : Int64} {word value : Int32} {dr dc : Nat} {dnum : Nat → Nat → Int32} {dnam : Nat → Nat → Int64} {nr nc : Nat} {nnum : Nat → Nat → Int32} {nnam : Nat → Nat → Int64} {stage latest op wa : Int32} (hs : ¬ stage = 0) :
    zq_end tx len (next, 0, place, name, word, value, dr, dc, dnum, dnam, nr, nc, nnum, nnam, 0, stage, latest, op, wa) 3 place := by
  exact ⟨_, _, _, _, _, _, _, _, _, _, _, _, _, _, _, _, _, _, zq_go.rf, Or.inr ⟨rfl, rfl, hs, rfl⟩⟩
theorem zq_end2 {tx : Nat → Nat} {len : Nat} {c : zp_L} {next : Nat} {token : Int32} {place : Nat} {name : Int64} {word value : Int32} {dr dc : Nat} {dnum : Nat → Nat → Int32} {dnam : Nat → Nat → Int64} {nr nc : Nat} {nnum : Nat → Nat → Int32} {nnam : Nat → Nat → Int64} {stage latest op wa : Int32}
    (h : zq_go tx len c (next, token, place, name, word, value, dr, dc, dnum, dnam, nr, nc, nnum, nnam, 2, stage, latest, op, wa)) : zq_end tx len c 2 place :=
  ⟨_, _, _, _, _, _, _, _, _, _, _, _, _, _, _, _, _, _, h, Or.inl ⟨rfl, by decide⟩⟩
theorem zq_kr {w : Int32} (h : w = -1 ∨ ∃ j, j < 23 ∧ w = nI j) (st : Bool) : (if st = true then zp_kindOfE 4 w else zp_kindOfC 4 w) = -1 ∨ ∃ k, 3 ≤ k ∧ k < 24 ∧ (if st = true then zp_kindOfE 4 w else zp_kindOfC 4 w) = nI k := by
  have key : ∀ st : Bool, ∀ j : Nat, j < 24 → ((if st = true then zp_kindOfE 4 (if j = 23 then -1 else nI j) else zp_kindOfC 4 (if j = 23 then -1 else nI j)) = -1 ∨ ∃ k : Fin 24, 3 ≤ k.val ∧ (if st = true then zp_kindOfE 4 (if j = 23 then -1 else nI j) else zp_kindOfC 4 (if j = 23 then -1 else nI j)) = nI k.val) := by decide +kernel
  rcases h with rfl | ⟨j, hj, rfl⟩
  · rcases key st 23 (by omega) with g | ⟨k, g1, g2⟩
    · exact Or.inl g
    · exact Or.inr ⟨k.val, g1, k.isLt, g2⟩
  · have e : (if j = 23 then (-1 : Int32) else nI j) = nI j := if_neg (by omega)
    have := key st j (by omega)
    rw [e] at this
    rcases this with g | ⟨k, g1, g2⟩
    · exact Or.inl g
    · exact Or.inr ⟨k.val, g1, k.isLt, g2⟩
theorem zq_dl_cons {n k s : Nat} {F : List (Nat × Nat × Nat)} : zq_dl ((n, k, s) :: F) = zq_q k s n ++ zq_dl F := rfl
theorem zq_remlen : ∀ k : Nat, k < 24 → (zq_rem k 0).length ≤ 9 ∧ ¬ zq_ch k 0 = 42 := by decide +kernel
theorem zq_stk_len {aDue aDof : Nat → Int32} : ∀ (l : List (Nat × Int32)) (d : Nat), zq_stk aDue aDof l d → d = l.length := by
  intro l
  induction l with
  | nil => intro d h; exact h
  | cons x l ih =>
    intro d h
    obtain ⟨w, o⟩ := x
    obtain ⟨e, h1, _, _, h4⟩ := h
    rw [h1, ih e h4, List.length_cons]
section
variable {tx : Nat → Nat} {size q : Nat}
variable {dr dc : Nat} {dnum : Nat → Nat → Int32} {dnam : Nat → Nat → Int64} {latest plc : Int32} {F : List (Nat × Nat × Nat)} {o : Option Nat} {pp nr nc v d : Nat} {nnum : Nat → Nat → Int32} {nnam : Nat → Nat → Int64} {wa wa' stage : Int32} {aKnd aPrn aPlc aNpl aSpl aVar aVal : Nat → Int32} {aNam aSec : Nat → Int64} {aDue aDof : Nat → Int32}
theorem zq_leaf (hs : size ≤ 8192) {c : zp_L} {next : Nat} {name : Int64} {word value : Int32} {nnum' : Nat → Nat → Int32} {nnam' : Nat → Nat → Int64} {aKnd' aPrn' aPlc' aNpl' aSpl' aVar' aVal' : Nat → Int32} {aNam' aSec' : Nat → Int64} {tok : Int32} {att : Nat} {spl : Int64} {val : Int32}
    (hpp : pp < next) (hnx : next ≤ size) (hnr : nr < pp) (hd : d + 1 ≤ 4 * pp)
    (hgo : zq_go tx size c ((zt_tok tx size next name word value).2.1, (zt_tok tx size next name word value).1, (zt_tok tx size next name word value).2.2.1, (zt_tok tx size next name word value).2.2.2.1, (zt_tok tx size next name word value).2.2.2.2.1, (zt_tok tx size next name word value).2.2.2.2.2, dr, dc, dnum, dnam, nr + 1, zr_cap nr nc, nnum', nnam', 0, (zp_goOutTo (zq_op o)).1, latest, (zp_goOutTo (zq_op o)).2, wa'))
    (hfr : zq_fr (zq_P nnum wa o) q o v F) (hstk : zq_stk aDue aDof (zq_dl F) d) (hZ : zq_Z nr nnum (zq_op o) (F.map (fun f => f.1)))
    (hk : ∀ k c, k < nr → nnum' k c = zq_P nnum wa o k c) (h1 : nnum' nr 1 = 0) (h2 : nnum' nr 2 = 1) (h4 : nnum' nr 4 = zq_op o)
    (hN : zq_N (nr + 1) nnum' nnam' aKnd' aPrn' aPlc' aNpl' aSpl' aVar' aVal' aNam' aSec') :
    zq_out tx size q dr dc dnum dnam latest plc pp c (0, plc, next, tok, att, spl, val, nr + 1, d, nI v, aKnd', aPrn', aPlc', aNpl', aSpl', aVar', aVal', aNam', aSec', aDue, aDof) := by
  obtain ⟨fo1, fo2⟩ := zq_fr_o hfr
  have hmem := hZ.1
  have hlt : ∀ n, o = some n → n < nr := fun n g => (hmem n (fo2 n g)).1
  rw [zq_goOut (fun n g => by have := hlt n g; omega)] at hgo
  refine Or.inr ⟨F, o, _, _, _, _, _, _, _, _, _, _, _, _, _, _, _, _, _, _, _, _, _, _, _, _, _, _, _, _, _, _, hgo, rfl, hpp, ⟨_, _, _, rfl⟩, hnx, by omega, by omega, fun n k s G _ _ => by omega, ?_, ⟨v, rfl, ?_⟩, hstk, hN, ?_⟩
  · by_cases hF : F = []
    · rw [if_pos hF, if_pos (fo1.2 hF)]
    · rw [if_neg hF, if_neg (fun g => hF (fo1.1 g))]
  · refine zq_fr_c F o v ?_ hfr
    intro f hf
    have hfl := (hmem f.1 (List.mem_map_of_mem hf)).1
    exact ⟨hk _ _ hfl, hk _ _ hfl, hk _ _ hfl, hk _ _ hfl, hk _ _ hfl⟩
  · have := zq_Z_add (nnum' := nnum') (by omega) hZ fo2 (fun g => by rw [fo1.1 g]; rfl) true (fun k hlt => ⟨by rw [hk k 1 hlt, zq_P_1], by rw [hk k 2 hlt, zq_P_c (by decide) (by decide)], by rw [hk k 4 hlt, zq_P_c (by decide) (by decide)]⟩) ⟨h1, h4, fun _ => h2⟩
    simpa using this
end
section
variable {tx : Nat → Nat} {size q : Nat}
variable {dr dc : Nat} {dnum : Nat → Nat → Int32} {dnam : Nat → Nat → Int64} {latest plc : Int32} {F : List (Nat × Nat × Nat)} {o : Option Nat} {pp nr nc v d : Nat} {nnum : Nat → Nat → Int32} {nnam : Nat → Nat → Int64} {wa wa' stage : Int32} {aKnd aPrn aPlc aNpl aSpl aVar aVal : Nat → Int32} {aNam aSec : Nat → Int64} {aDue aDof : Nat → Int32}
theorem zq_open (hb : ∀ k, k < size → tx k < 256) (hs : size ≤ 8192) {c : zp_L} {st : Bool} {next place : Nat} {name : Int64} {word value : Int32} {nnum' : Nat → Nat → Int32} {nnam' : Nat → Nat → Int64} {spl : Int64} {val : Int32}
    (hpp : pp < next) (hnx : next ≤ size) (hnr : nr < pp) (hd : d + 1 ≤ 4 * pp) (hv : v ≤ 24)
    (hgo : zq_go tx size c ((zt_tok tx size next name word value).2.1, (zt_tok tx size next name word value).1, (zt_tok tx size next name word value).2.2.1, (zt_tok tx size next name word value).2.2.2.1, (zt_tok tx size next name word value).2.2.2.2.1, (zt_tok tx size next name word value).2.2.2.2.2, dr, dc, dnum, dnam, nr + 1, zr_cap nr nc, nnum', nnam', 0, if st = true then 10 else 11, latest, nI nr, wa'))
    (hfr : zq_fr (zq_P nnum wa o) q o v F) (hstk : zq_stk aDue aDof (zq_dl F) d) (hZ : zq_Z nr nnum (zq_op o) (F.map (fun f => f.1)))
    (hk : ∀ k c, k < nr → nnum' k c = zq_P nnum wa o k c) (hr : ∀ c, nnum' nr c = if c = 0 then -1 else if c = 1 then 0 else if c = 3 then nI place else if c = 4 then zq_op o else if c = 7 then nI v else -1)
    (hm : ∀ k, k < nr → nnam' k 0 = nnam k 0 ∧ nnam' k 1 = nnam k 1) (hm2 : nnam' nr 0 = 0 ∧ nnam' nr 1 = 0)
    (hN : zq_N nr nnum nnam aKnd aPrn aPlc aNpl aSpl aVar aVal aNam aSec) :
    zq_out tx size q dr dc dnum dnam latest plc pp c (zm_step_2 (nI v) (zm_begin tx size 0 plc next 0 place spl val nr d (nI v) aKnd aPrn aPlc aNpl aSpl aVar aVal aNam aSec aDue aDof st (zq_op o))) := by
  obtain ⟨fo1, fo2⟩ := zq_fr_o hfr
  have hmem := hZ.1
  have hlt : ∀ n, o = some n → n < nr := fun n g => (hmem n (fo2 n g)).1
  have hT := zq_next hb hnx plc 0 val word value spl name
  obtain ⟨b1, b2, b3⟩ := zq_bO (tx := tx) (size := size) (plc := plc) (pp := next) (att := place) (spl := spl) (val := val) (nodes := nr) (d := d) (thn := nI v) (aKnd := aKnd) (aPrn := aPrn) (aPlc := aPlc) (aNpl := aNpl) (aSpl := aSpl) (aVar := aVar) (aVal := aVal) (aNam := aNam) (aSec := aSec) (aDue := aDue) (aDof := aDof) (st := st) (o := zq_op o) (u := zm_next tx size 0 plc next 0 spl val) rfl
  generalize zm_next tx size 0 plc next 0 spl val = u at *
  generalize ek : zt_tok tx size next name word value = t at *
  obtain ⟨token1, next1, place1, name1, word1, value1⟩ := t
  obtain ⟨f1, plc1, pp1, tok1, att1, spl1, val1⟩ := u
  have hst : ¬ (if st = true then (10 : Int32) else 11) = 0 := by cases st <;> decide
  have hst12 : ¬ (if st = true then (10 : Int32) else 11) = 12 := by cases st <;> decide
  obtain ⟨t1, t2, t3, t4, t5⟩ := hT
  simp only at t1 t2 t3 t4 t5 hgo b1 b2 b3
  subst t2
  rcases t5 with ⟨e1, e2, e3⟩ | ⟨e1, e2, ⟨e3, e4, e5, e6⟩ | ⟨e3, e4, e5⟩⟩
  · subst e1
    have := b1 e2
    exact Or.inl ⟨1, att1, by decide, ⟨this.1, by rw [this.2.1, e3], by rw [this.2.2.1]; exact t3, by rw [this.2.2.2]; omega⟩, zq_end.of hgo zq_it1⟩
  · subst e3
    subst e4
    have hk0 : zq_kd st tx pp1 4 att1 < 0 := by
      have ha := zq_ask0 (tx := tx) (att := att1) (pp := pp1) (tok := 4) (token := 0) (word := 0) (by decide) (by decide)
      rw [zq_kd, ha.2.1, ha.2.2.1]
      cases st <;> decide
    have := b2 e1 hk0
    rw [if_pos rfl, if_pos rfl] at this
    exact Or.inl ⟨3, att1, by decide, ⟨this.1, by rw [this.2.1, e5], by rw [this.2.2.1]; exact t3, by rw [this.2.2.2]; omega⟩, zq_end.of hgo (zq_it0 hst)⟩
  · have h41 : ¬ tok1 = 4 := by
      rcases e5 with ⟨_, g⟩ | ⟨_, g⟩ | ⟨_, g, _⟩ | ⟨_, g, _⟩ <;> rw [g] <;> decide
    have h01 : ¬ token1 = 0 ∧ ¬ token1 = 1 := by
      rcases e5 with ⟨g, _⟩ | ⟨g, _⟩ | ⟨g, _⟩ | ⟨g, _⟩ <;> rw [g] <;> decide
    have hkk : zq_kd st tx pp1 tok1 att1 = (if st = true then zp_kindOfE token1 word1 else zp_kindOfC token1 word1) ∧ ((if st = true then zp_kindOfE token1 word1 else zp_kindOfC token1 word1) = -1 ∨ ∃ k, 3 ≤ k ∧ k < 24 ∧ (if st = true then zp_kindOfE token1 word1 else zp_kindOfC token1 word1) = nI k) := by
      by_cases h4 : token1 = 4
      · have : tok1 = 2 ∧ word1 = zt_word name1 ∧ zq_nm tx att1 next1 name1 := by
          rcases e5 with ⟨g, _⟩ | ⟨g, _⟩ | ⟨_, g1, _, g2, g3⟩ | ⟨g, _⟩
          · rw [g] at h4; exact absurd h4 (by decide)
          · rw [g] at h4; exact absurd h4 (by decide)
          · exact ⟨g1, g2, g3⟩
          · rw [g] at h4; exact absurd h4 (by decide)
        obtain ⟨g1, g2, g3⟩ := this
        subst e3
        subst g1
        subst h4
        subst g2
        have ha := zq_ask g3
        refine ⟨?_, zq_kr (zq_wdr name1) st⟩
        rw [zq_kd, ha.2.1, ha.2.2.1]
      · have h2 : ¬ tok1 = 2 := by
          rcases e5 with ⟨_, g⟩ | ⟨_, g⟩ | ⟨g, _⟩ | ⟨_, g, _⟩
          · rw [g]; decide
          · rw [g]; decide
          · exact absurd g h4
          · rw [g]; decide
        have ha := zq_ask0 (tx := tx) (att := att1) (pp := pp1) (word := word1) h2 h4
        refine ⟨by rw [zq_kd, ha.2.1, ha.2.2.1], Or.inl ?_⟩
        have w0 : zp_wordHere token1 word1 = -1 := if_neg h4
        cases st
        · rw [if_neg (by decide), zp_kindOfC, w0]; decide
        · rw [if_pos rfl, zp_kindOfE, w0]; decide
    obtain ⟨k1, k2⟩ := hkk
    rw [k1] at b2 b3
    generalize ekd : (if st = true then zp_kindOfE token1 word1 else zp_kindOfC token1 word1) = kd at *
    have hout : zp_takesOutside token1 att1 name1 word1 value1 dr dc dnum dnam (nr + 1) (zr_cap nr nc) nnum' nnam' (if st = true then 10 else 11) latest (nI nr) wa' =
        ((zp_takesHead (nr + 1) nnum' (if st = true then 10 else 11) (nI nr) kd).1, dr, dc, dnum, dnam, nr + 1, zr_cap nr nc, (zp_takesHead (nr + 1) nnum' (if st = true then 10 else 11) (nI nr) kd).2.1, nnam', (zp_takesHead (nr + 1) nnum' (if st = true then 10 else 11) (nI nr) kd).2.2, latest, nI nr) := by
      rw [← ekd]
      cases st
      · simp [zp_takesOutside]
      · simp [zp_takesOutside]
    rcases k2 with k2 | ⟨k, g3, g24, k2⟩
    · subst k2
      have := b2 e1 (by decide)
      rw [if_neg h41, if_neg h41] at this
      have hh : zp_takesHead (nr + 1) nnum' (if st = true then (10 : Int32) else 11) (nI nr) (-1) = (false, nnum', if st = true then 10 else 11) := if_pos rfl
      rw [hh] at hout; dsimp only at hout
      refine Or.inl ⟨2, att1, by decide, ⟨this.1, this.2.1, by rw [this.2.2.1]; exact t3, by rw [this.2.2.2]; omega⟩, zq_end.of hgo ?_⟩
      have g := zq_go.it (tx := tx) (len := size) (next := next1) (place := att1) (name := name1) (word := word1) (value := value1) (dr := dr) (dc := dc) (dnum := dnum) (dnam := dnam) (nr := nr + 1) (nc := zr_cap nr nc) (nnum := nnum') (nnam := nnam') (stage := if st = true then 10 else 11) (latest := latest) (op := nI nr) (wa := wa') h01.1
      rw [zq_itO h01.2 hst12 hout, if_neg Bool.false_ne_true] at g
      exact zq_end2 g
    · subst k2
      have := b3 e1 h41 (zq_nn (by omega))
      rw [this]
      have hh : zp_takesHead (nr + 1) nnum' (if st = true then (10 : Int32) else 11) (nI nr) (nI k) = (true, zr_up (zr_up nnum' nr 0 (nI k)) nr 9 0, 12) := zq_head (by omega) (by omega) g24
      rw [hh] at hout; dsimp only at hout
      have g := zq_go.it (tx := tx) (len := size) (next := next1) (place := att1) (name := name1) (word := word1) (value := value1) (dr := dr) (dc := dc) (dnum := dnum) (dnam := dnam) (nr := nr + 1) (nc := zr_cap nr nc) (nnum := nnum') (nnam := nnam') (stage := if st = true then 10 else 11) (latest := latest) (op := nI nr) (wa := wa') h01.1
      rw [zq_itO h01.2 hst12 hout, if_pos rfl] at g
      have hx := zq_expect (aKnd := upd (upd aKnd nr 0) nr (nI k)) (n := nr) g3 g24 zq_u_eq hstk
      have hxl := zq_stk_len _ _ hx
      obtain ⟨o1, o2, o3, o4⟩ := zq_ok0 k g24 g3
      have hl9 := zq_remlen k g24
      have hlen : (zq_q k 0 nr ++ zq_dl F).length = (zq_rem k 0).length + d := by
        rw [List.length_append, zq_q, List.length_map, ← zq_stk_len _ _ hstk]
      subst e3
      rw [e2]
      refine Or.inr ⟨(nr, k, 0) :: F, some nr, _, _, _, _, _, _, _, _, _, _, _, _, _, _, _, _, _, _, _, _, _, _, _, _, _, _, _, _, _, _, hgo.tr g, rfl, by omega, ⟨_, _, _, rfl⟩, t3, by omega, by omega, ?_, rfl, ⟨v, rfl, rfl, o1, ?_, ?_, ?_, ?_, v, o, ?_, ?_, ?_, ?_, ?_⟩, hx, ?_, ?_⟩
      · intro n k' s' G hG hc
        cases hG
        exact absurd hc hl9.2
      · rw [zq_up_nc (by decide), zq_up_eq]
      · rw [zq_up_eq]; rfl
      · rw [zq_up_nc (by decide), zq_up_nc (by decide), hr]
        exact ⟨fun _ g => by omega, fun _ => rfl⟩
      · intro f hf; exact (hmem f.1 (List.mem_map_of_mem hf)).1
      · omega
      · rw [zq_up_nc (by decide), zq_up_nc (by decide), hr]; rfl
      · omega
      · rw [zq_up_nc (by decide), zq_up_nc (by decide), hr]; rfl
      · refine zq_fr_c F o v ?_ hfr
        intro f hf
        have hfl := (hmem f.1 (List.mem_map_of_mem hf)).1
        have hne : ¬ f.1 = nr := by omega
        simp only [zq_up_ne hne, hk _ _ hfl]
        exact ⟨trivial, trivial, trivial, trivial, trivial⟩
      · refine zq_N_add hN ?_ ?_
        · intro k' hk'
          have hne : ¬ k' = nr := by omega
          simp only [zq_up_ne hne, hk _ _ hk', zq_u_ne hne, zq_ul_ne hne]
          refine ⟨⟨zq_P_c (by decide) (by decide), zq_P_c (by decide) (by decide), zq_P_c (by decide) (by decide), zq_P_c (by decide) (by decide), zq_P_c (by decide) (by decide), zq_P_c (by decide) (by decide), zq_P_c (by decide) (by decide), (hm k' hk').1, (hm k' hk').2⟩, trivial, trivial, trivial, trivial, trivial, trivial, trivial, trivial, trivial⟩
        · have hkz : ¬ nI k = 0 := fun g => by have := (zq_inj (n := 0) (by omega) (by omega)).1 g; omega
          refine ⟨?_, ?_, ?_, ?_, ?_, ?_, ?_, ?_, ?_⟩
          · rw [zq_up_nc (by decide), zq_up_eq, zq_u_eq]
          · rw [zq_up_nc (by decide), zq_up_nc (by decide), hr, zq_u_eq]; rfl
          · rw [zq_up_nc (by decide), zq_up_nc (by decide), hr, zq_u_eq]; rfl
          · rw [zq_up_nc (by decide), zq_up_nc (by decide), hr, zq_u_eq]; rfl
          · rw [zq_up_nc (by decide), zq_up_nc (by decide), hr, zq_u_eq]; rfl
          · rw [zq_up_nc (by decide), zq_up_nc (by decide), hr, zq_u_eq]; rfl
          · rw [zq_u_eq, zq_u_eq, if_neg hkz]
          · rw [hm2.1, zq_ul_eq]
          · rw [hm2.2, zq_ul_eq]
      · have := zq_Z_add (nnum' := zr_up (zr_up nnum' nr 0 (nI k)) nr 9 0) (by omega) hZ fo2 (fun g => by rw [fo1.1 g]; rfl) false (fun k' hlt => by
          have hne : ¬ k' = nr := by omega
          simp only [zq_up_ne hne, hk _ _ hlt]
          exact ⟨zq_P_1, zq_P_c (by decide) (by decide), zq_P_c (by decide) (by decide)⟩) ⟨by rw [zq_up_nc (by decide), zq_up_nc (by decide), hr]; rfl, by rw [zq_up_nc (by decide), zq_up_nc (by decide), hr]; rfl, fun g => absurd g (by decide)⟩
        exact this
end
section
variable {tx : Nat → Nat} {size q : Nat}
variable {dr dc : Nat} {dnum : Nat → Nat → Int32} {dnam : Nat → Nat → Int64} {latest plc : Int32} {F : List (Nat × Nat × Nat)} {o : Option Nat} {pp nr nc v d : Nat} {nnum : Nat → Nat → Int32} {nnam : Nat → Nat → Int64} {wa wa' stage : Int32} {aKnd aPrn aPlc aNpl aSpl aVar aVal : Nat → Int32} {aNam aSec : Nat → Int64} {aDue aDof : Nat → Int32}
theorem zq_begin (hb : ∀ k, k < size → tx k < 256) (hs : size ≤ 8192) {c : zp_L} {st : Bool} {next : Nat} {token : Int32} {place : Nat} {name : Int64} {word value : Int32} {nm : Int64} {wd vl : Int32} {tok : Int32} {spl : Int64} {val : Int32} {f1 plc1 : Int32} {pp1 : Nat} {tok1 : Int32} {att1 : Nat} {spl1 : Int64} {val1 : Int32}
    (ht : (token, next, place, name, word, value) = zt_tok tx size pp nm wd vl) (hu : zm_next tx size 0 plc pp tok spl val = (f1, plc1, pp1, tok1, att1, spl1, val1)) (hpp : pp ≤ size) (hnr : nr < pp) (hd : d + 1 ≤ 4 * pp) (hv : v ≤ 24) (h1 : ¬ token = 1)
    {B : Bool × Nat × Nat × (Nat → Nat → Int32) × (Nat → Nat → Int64) × Int32 × Int32}
    (hB : (if st = true then zp_beginsE token place name word value dr dnum nr nc nnum nnam stage latest (zq_op o) wa else zp_beginsC token place dr dnum nr nc nnum nnam stage latest (zq_op o) wa) = B)
    (hgo : ¬ token = 0 → B.1 = true → zq_go tx size c ((zt_tok tx size next name word value).2.1, (zt_tok tx size next name word value).1, (zt_tok tx size next name word value).2.2.1, (zt_tok tx size next name word value).2.2.2.1, (zt_tok tx size next name word value).2.2.2.2.1, (zt_tok tx size next name word value).2.2.2.2.2, dr, dc, dnum, dnam, B.2.1, B.2.2.1, B.2.2.2.1, B.2.2.2.2.1, 0, B.2.2.2.2.2.1, latest, B.2.2.2.2.2.2, wa'))
    (hno : ¬ token = 0 → B.1 = false → zq_end tx size c 2 place) (h0 : token = 0 → zq_end tx size c 3 place)
    (hvar : zp_variablesHere dr dnum nr nnum latest (zq_op o) wa = nI v)
    (hfr : zq_fr (zq_P nnum wa o) q o v F) (hstk : zq_stk aDue aDof (zq_dl F) d) (hZ : zq_Z nr nnum (zq_op o) (F.map (fun f => f.1)))
    (hN : zq_N nr nnum nnam aKnd aPrn aPlc aNpl aSpl aVar aVal aNam aSec) :
    zq_out tx size q dr dc dnum dnam latest plc pp c (zm_step_2 (nI v) (zm_begin tx size f1 plc1 pp1 tok1 att1 spl1 val1 nr d (nI v) aKnd aPrn aPlc aNpl aSpl aVar aVal aNam aSec aDue aDof st (zq_op o))) := by
  obtain ⟨fo1, fo2⟩ := zq_fr_o hfr
  have hmem := hZ.1
  have hlt : ∀ n, o = some n → n < nr := fun n g => (hmem n (fo2 n g)).1
  have hT := zq_next hb hpp plc tok val wd vl spl nm
  rw [← ht, hu] at hT
  obtain ⟨t1, t2, t3, t4, t5⟩ := hT
  simp only at t1 t2 t3 t4 t5
  subst t2
  rcases t5 with ⟨e1, e2, e3⟩ | ⟨e1, e2, ⟨e3, e4, e5, e6⟩ | ⟨e3, e4, e5⟩⟩
  · exact absurd e1 h1
  · subst e1; subst e4
    have ha := zq_ask0 (tx := tx) (att := att1) (pp := pp1) (tok := 4) (token := 0) (word := 0) (by decide) (by decide)
    rw [zq_bF (fun _ => ⟨by decide, by rw [ha.2.2.2.1]; decide, by rw [ha.2.2.2.2.1]; decide⟩) (by decide)]
    exact Or.inl ⟨3, att1, by decide, ⟨rfl, by rw [e5]; rfl, t3, by show d ≤ 32991; omega⟩, h0 e3⟩
  · subst e1; subst e2; subst e3
    have h00 : ¬ token = 0 := by rcases e5 with ⟨g, _⟩ | ⟨g, _⟩ | ⟨g, _⟩ | ⟨g, _⟩ <;> rw [g] <;> decide
    replace hgo := hgo h00
    replace hno := hno h00
    have refuse : ¬ token = 2 → (st = true → zp_kindOfLeaf token word = -1) → ¬ tok1 = 0 → ¬ tok1 = 4 → (st = true → ¬ tok1 = 3 ∧ zm_isOwn tx pp1 tok1 att1 = false ∧ zm_is tx pp1 tok1 att1 33 = false) → zq_out tx size q dr dc dnum dnam latest plc1 pp c (zm_step_2 (nI v) (zm_begin tx size 0 plc1 pp1 tok1 att1 spl1 val1 nr d (nI v) aKnd aPrn aPlc aNpl aSpl aVar aVal aNam aSec aDue aDof st (zq_op o))) := by
      intro k2 kl k0 k4 kf
      have hBf : B.1 = false := by
        cases st
        · rw [← hB, if_neg Bool.false_ne_true, zq_bCn k2]
        · rw [← hB, if_pos rfl, zq_bEn k2 (kl rfl)]
      rw [zq_bF kf k0, if_neg k4, if_neg k4]
      exact Or.inl ⟨2, att1, by decide, ⟨rfl, rfl, t3, by show d ≤ 32991; omega⟩, hno hBf⟩
    rcases e5 with ⟨g1, g2⟩ | ⟨g1, g2⟩ | ⟨g1, g2, g3, g4, g5⟩ | ⟨g1, g2, g3⟩
    · subst g1; subst g2
      have hBv : B = (true, nr + 1, zr_cap nr nc, zq_nw (zq_P nnum wa o) nr (-1) (nI att1) (zq_op o) (nI v), zr_new nnam nr 0, if st = true then 10 else 11, nI nr) := by
        cases st
        · rw [← hB, if_neg Bool.false_ne_true, zq_bCo hlt (by omega), hvar]; rfl
        · rw [← hB, if_pos rfl, zq_bEo hlt (by omega), hvar]; rfl
      subst hBv
      refine zq_open hb hs (by omega) t3 hnr hd hv (hgo rfl) hfr hstk hZ (fun k c (hk : k < nr) => zq_nw_ne (show ¬ k = nr by omega)) (fun c => zq_nw_eq) (fun k (hk : k < nr) => ⟨zq_new_ne (show ¬ k = nr by omega), zq_new_ne (show ¬ k = nr by omega)⟩) ⟨zq_new_eq, zq_new_eq⟩ hN
    · subst g1; subst g2
      have ha := zq_ask0 (tx := tx) (att := att1) (pp := pp1) (tok := 1) (token := 3) (word := word) (by decide) (by decide)
      exact refuse (by decide) (fun _ => rfl) (by decide) (by decide) (fun _ => ⟨by decide, by rw [ha.2.2.2.1]; rfl, by rw [ha.2.2.2.2.1]; rfl⟩)
    · subst g1; subst g2; subst g3; subst g4
      have ha := zq_ask g5
      cases st
      · exact refuse (by decide) (fun g => absurd g (by decide)) (by decide) (by decide) (fun g => absurd g (by decide))
      · rw [if_pos rfl] at hB
        by_cases hf : zp_isFreeName 4 (zt_word spl1) = true
        · have hkl : zp_kindOfLeaf 4 (zt_word spl1) = 1 := by
            rw [zp_kindOfLeaf, if_neg (by decide), if_pos hf]
          have := zq_bE1 (place := att1) (name := spl1) (value := value) (dr := dr) (dnum := dnum) (nr := nr) (nc := nc) (nnum := nnum) (nnam := nnam) (stage := stage) (latest := latest) (wa := wa) hlt (by omega) (by decide) hkl
          rw [this, hvar] at hB
          subst hB
          rw [zq_bV (by decide) (by rw [ha.2.2.2.1]; exact hf) (by omega)]
          replace hgo := hgo rfl
          dsimp only at hgo
          refine zq_leaf hs (by omega) t3 hnr hd hgo hfr hstk hZ (fun k c hk => ?_) ?_ ?_ ?_ ?_
          · have hne : ¬ k = nr := by omega
            simp only [zq_up_ne hne, zq_nw_ne hne]
          · rw [zq_up_nc (by decide), zq_up_nc (by decide), zq_nw_eq]; rfl
          · rw [zq_up_nc (by decide), zq_up_eq]
          · rw [zq_up_nc (by decide), zq_up_nc (by decide), zq_nw_eq]; rfl
          · refine zq_N_add hN ?_ ?_
            · intro k' hk'
              have hne : ¬ k' = nr := by omega
              simp only [zq_up_ne hne, zq_nw_ne hne, zq_u_ne hne, zq_ul_ne hne, zq_new_ne hne]
              exact ⟨⟨zq_P_c (by decide) (by decide), zq_P_c (by decide) (by decide), zq_P_c (by decide) (by decide), zq_P_c (by decide) (by decide), zq_P_c (by decide) (by decide), zq_P_c (by decide) (by decide), zq_P_c (by decide) (by decide), trivial, trivial⟩, trivial, trivial, trivial, trivial, trivial, trivial, trivial, trivial, trivial⟩
            · refine ⟨?_, ?_, ?_, ?_, ?_, ?_, ?_, ?_, ?_⟩
              · rw [zq_up_nc (by decide), zq_up_nc (by decide), zq_nw_eq, zq_u_eq]; rfl
              · rw [zq_up_nc (by decide), zq_up_nc (by decide), zq_nw_eq, zq_u_eq]; rfl
              · rw [zq_up_nc (by decide), zq_up_nc (by decide), zq_nw_eq, zq_u_eq]; rfl
              · rw [zq_up_eq, zq_u_eq]
              · rw [zq_up_nc (by decide), zq_up_nc (by decide), zq_nw_eq, zq_u_eq]; rfl
              · rw [zq_up_nc (by decide), zq_up_nc (by decide), zq_nw_eq, zq_u_eq]; rfl
              · rw [zq_u_eq, zq_u_eq, if_neg (by decide)]
              · rw [zq_up_eq, zq_ul_eq]
              · rw [zq_up_nc (by decide), zq_new_eq, zq_ul_eq]
        · have hff : zp_isFreeName 4 (zt_word spl1) = false := by simpa using hf
          by_cases h2 : zt_word spl1 = 2
          · have hkl : zp_kindOfLeaf 4 (zt_word spl1) = 2 := by
              rw [zp_kindOfLeaf, if_neg (by decide), if_neg hf, zp_wordHere, if_pos rfl, if_pos h2]
            have := zq_bE2 (place := att1) (name := spl1) (value := value) (dr := dr) (dnum := dnum) (nr := nr) (nc := nc) (nnum := nnum) (nnam := nnam) (stage := stage) (latest := latest) (wa := wa) hlt (by omega) (by decide) hkl
            rw [this, hvar] at hB
            subst hB
            rw [zq_bL (by decide) (by rw [ha.2.2.2.1]; exact hff) (by rw [ha.2.2.2.2.1]; exact decide_eq_true h2)]
            replace hgo := hgo rfl
            dsimp only at hgo
            refine zq_leaf hs (by omega) t3 hnr hd hgo hfr hstk hZ (fun k c hk => ?_) ?_ ?_ ?_ ?_
            · have hne : ¬ k = nr := by omega
              simp only [zq_up_ne hne, zq_nw_ne hne]
            · rw [zq_up_nc (by decide), zq_nw_eq]; rfl
            · rw [zq_up_eq]
            · rw [zq_up_nc (by decide), zq_nw_eq]; rfl
            · refine zq_N_add hN ?_ ?_
              · intro k' hk'
                have hne : ¬ k' = nr := by omega
                simp only [zq_up_ne hne, zq_nw_ne hne, zq_u_ne hne, zq_ul_ne hne, zq_new_ne hne]
                exact ⟨⟨zq_P_c (by decide) (by decide), zq_P_c (by decide) (by decide), zq_P_c (by decide) (by decide), zq_P_c (by decide) (by decide), zq_P_c (by decide) (by decide), zq_P_c (by decide) (by decide), zq_P_c (by decide) (by decide), trivial, trivial⟩, trivial, trivial, trivial, trivial, trivial, trivial, trivial, trivial, trivial⟩
              · refine ⟨?_, ?_, ?_, ?_, ?_, ?_, ?_, ?_, ?_⟩
                · rw [zq_up_nc (by decide), zq_nw_eq, zq_u_eq]; rfl
                · rw [zq_up_nc (by decide), zq_nw_eq, zq_u_eq]; rfl
                · rw [zq_up_nc (by decide), zq_nw_eq, zq_u_eq]; rfl
                · rw [zq_up_nc (by decide), zq_nw_eq, zq_u_eq]; rfl
                · rw [zq_up_nc (by decide), zq_nw_eq, zq_u_eq]; rfl
                · rw [zq_up_nc (by decide), zq_nw_eq, zq_u_eq]; rfl
                · rw [zq_u_eq, zq_u_eq, if_neg (by decide)]
                · rw [zq_new_eq, zq_ul_eq]
                · rw [zq_new_eq, zq_ul_eq]
          · have hkl : zp_kindOfLeaf 4 (zt_word spl1) = -1 := by
              rw [zp_kindOfLeaf, if_neg (by decide), if_neg hf, zp_wordHere, if_pos rfl, if_neg h2]
            exact refuse (by decide) (fun _ => hkl) (by decide) (by decide) (fun _ => ⟨by decide, by rw [ha.2.2.2.1]; exact hff, by rw [ha.2.2.2.2.1]; exact decide_eq_false h2⟩)
    · subst g1; subst g2; subst g3
      cases st
      · exact refuse (by decide) (fun g => absurd g (by decide)) (by decide) (by decide) (fun g => absurd g (by decide))
      · rw [if_pos rfl] at hB
        have hkl : zp_kindOfLeaf 5 word = 0 := if_pos rfl
        have := zq_bE0 (place := att1) (name := name) (value := val1) (dr := dr) (dnum := dnum) (nr := nr) (nc := nc) (nnum := nnum) (nnam := nnam) (stage := stage) (latest := latest) (wa := wa) hlt (by omega) (by decide) hkl
        rw [this, hvar] at hB
        subst hB
        rw [zq_bN]
        replace hgo := hgo rfl
        dsimp only at hgo
        refine zq_leaf hs (by omega) t3 hnr hd hgo hfr hstk hZ (fun k c hk => ?_) ?_ ?_ ?_ ?_
        · have hne : ¬ k = nr := by omega
          simp only [zq_up_ne hne, zq_nw_ne hne]
        · rw [zq_up_nc (by decide), zq_up_nc (by decide), zq_nw_eq]; rfl
        · rw [zq_up_nc (by decide), zq_up_eq]
        · rw [zq_up_nc (by decide), zq_up_nc (by decide), zq_nw_eq]; rfl
        · refine zq_N_add hN ?_ ?_
          · intro k' hk'
            have hne : ¬ k' = nr := by omega
            simp only [zq_up_ne hne, zq_nw_ne hne, zq_u_ne hne, zq_ul_ne hne, zq_new_ne hne]
            exact ⟨⟨zq_P_c (by decide) (by decide), zq_P_c (by decide) (by decide), zq_P_c (by decide) (by decide), zq_P_c (by decide) (by decide), zq_P_c (by decide) (by decide), zq_P_c (by decide) (by decide), zq_P_c (by decide) (by decide), trivial, trivial⟩, trivial, trivial, trivial, trivial, trivial, trivial, trivial, trivial, trivial⟩
          · refine ⟨?_, ?_, ?_, ?_, ?_, ?_, ?_, ?_, ?_⟩
            · rw [zq_up_nc (by decide), zq_up_nc (by decide), zq_nw_eq, zq_u_eq]; rfl
            · rw [zq_up_nc (by decide), zq_up_nc (by decide), zq_nw_eq, zq_u_eq]; rfl
            · rw [zq_up_nc (by decide), zq_up_nc (by decide), zq_nw_eq, zq_u_eq]; rfl
            · rw [zq_up_nc (by decide), zq_up_nc (by decide), zq_nw_eq, zq_u_eq]; rfl
            · rw [zq_up_nc (by decide), zq_up_nc (by decide), zq_nw_eq, zq_u_eq]; rfl
            · rw [zq_up_nc (by decide), zq_up_nc (by decide), zq_nw_eq, zq_u_eq]; rfl
            · rw [zq_u_eq, zq_u_eq, if_pos rfl, zq_up_eq]
            · rw [zq_new_eq, zq_ul_eq]
            · rw [zq_new_eq, zq_ul_eq]
end
def zq_R2 (tx : Nat → Nat) (size q n k s u : Nat) (G : List (Nat × Nat × Nat)) (o' : Option Nat) (next : Nat) (token : Int32) (place : Nat) (name : Int64) (word value : Int32) (nr : Nat) (nnum : Nat → Nat → Int32) (nnam : Nat → Nat → Int64) (pp dues : Nat) (thn : Int32) (aKnd aPrn aPlc aNpl aSpl aVar aVal : Nat → Int32) (aNam aSec : Nat → Int64) (aDue aDof : Nat → Int32) : Prop :=
  (∃ (nm : Int64) (wd vl : Int32), (token, next, place, name, word, value) = zt_tok tx size pp nm wd vl) ∧ pp ≤ size ∧ nr < pp ∧ dues ≤ 4 * pp ∧ (zq_ch k s = 42 → dues + 1 ≤ 4 * pp) ∧ zq_ok k s ∧ nnum n 0 = nI k ∧ nnum n 9 = nI s ∧ zq_sp k s (nnum n 6) ∧ (∀ f ∈ G, f.1 < n) ∧ u + zq_mx k s ≤ 24 ∧ nnum n 7 = nI u ∧ thn = nI (u + zq_post k s) ∧ nnum n 4 = zq_op o' ∧ zq_fr nnum q o' u G ∧ zq_stk aDue aDof ((zq_mn k s).map (fun w => (w, nI n)) ++ zq_dl G) dues ∧ zq_N nr nnum nnam aKnd aPrn aPlc aNpl aSpl aVar aVal aNam aSec ∧ zq_Z nr nnum (nI n) (n :: G.map (fun f => f.1))
theorem zq_sub {a b : Nat} : nI (a + b) - nI b = nI a := by
  rw [← zq_add, Int32.add_sub_cancel]
section
variable {tx : Nat → Nat} {size q : Nat}
variable {n k s u : Nat} {G : List (Nat × Nat × Nat)} {o' : Option Nat} {next : Nat} {token : Int32} {place : Nat} {name : Int64} {word value : Int32}
variable {dr dc : Nat} {dnum : Nat → Nat → Int32} {dnam : Nat → Nat → Int64} {latest plc : Int32} {pp nr nc v dues : Nat} {thn : Int32} {nnum : Nat → Nat → Int32} {nnam : Nat → Nat → Int64} {wa wa' stage : Int32} {tok : Int32} {att : Nat} {spl : Int64} {val : Int32} {aKnd aPrn aPlc aNpl aSpl aVar aVal : Nat → Int32} {aNam aSec : Nat → Int64} {aDue aDof : Nat → Int32}
theorem zq_silent (hs : size ≤ 8192) (h : zq_R tx size q ((n, k, s) :: G) (some n) next token place name word value nr nnum nnam stage pp dues thn aKnd aPrn aPlc aNpl aSpl aVar aVal aNam aSec aDue aDof) :
    ∃ (u : Nat) (o' : Option Nat), zq_R2 tx size q n k s u G o' next token place name word value nr nnum nnam pp dues thn aKnd aPrn aPlc aNpl aSpl aVar aVal aNam aSec aDue aDof ∨
      ∃ d thn', dues = d + 1 ∧ zm_e1 tx size 0 plc pp tok att spl val nr dues thn aKnd aPrn aPlc aNpl aSpl aVar aVal aNam aSec aDue aDof = (0, plc, pp, tok, att, spl, val, nr, d, thn', aKnd, aPrn, aPlc, aNpl, aSpl, aVar, aVal, aNam, aSec, aDue, aDof) ∧ (aDue d = nI 10 ∨ (aDue d = nI 8 ∧ aDof d = nI n)) ∧
        zq_R2 tx size q n k s u G o' next token place name word value nr nnum nnam pp d thn' aKnd aPrn aPlc aNpl aSpl aVar aVal aNam aSec aDue aDof := by
  obtain ⟨r1, r2, r3, r4, r5, r6, ⟨v, r7, -, f2, f3, f4, f5, f6, u, o', f7, f8, f9, f10, f11⟩, r8, r9, r10⟩ := h
  have h8 := zq_ok8 f2
  have ts := zq_tsil k h8.2 s h8.1 f2
  have tp := zq_tpp k h8.2 s h8.1 f2
  refine ⟨u, o', ?_⟩
  have e : zq_dl ((n, k, s) :: G) = zq_q k s n ++ zq_dl G := rfl
  rw [e, zq_q, zq_rem] at r8
  have hn := (r10.1 n List.mem_cons_self).1
  rcases ts with hz | ⟨hz, hp⟩ | ⟨hz, hp, hp2⟩
  · left
    rw [if_pos hz] at r8
    exact ⟨r1, r2, r3, r4, r5 n k s G rfl, f2, f3, f4, f5, f6, f7, f8, by rw [r7, f9, tp.1 hz], f10, f11, r8, r9, r10⟩
  · right
    rw [if_neg (by omega), hz] at r8
    obtain ⟨d, q1, q2, q3, q4⟩ := r8
    subst q1
    refine ⟨d, thn + 1, rfl, zq_e10 q2, Or.inl q2, r1, r2, r3, by omega, fun g => by have := r5 n k s G rfl g; omega, f2, f3, f4, f5, f6, f7, f8, ?_, f10, f11, q4, r9, r10⟩
    rw [r7, f9, hp]; exact zq_add (u + zq_pre k s) 1
  · right
    rw [if_neg (by omega), hz] at r8
    obtain ⟨d, q1, q2, q3, q4⟩ := r8
    subst q1
    have hk : aKnd n = nI k := by rw [← (r9 n hn).1]; exact f3
    refine ⟨d, _, rfl, zq_e8 q2 (by omega) q3 hk h8.2, Or.inr ⟨q2, q3⟩, r1, r2, r3, by omega, fun g => by have := r5 n k s G rfl g; omega, f2, f3, f4, f5, f6, f7, f8, ?_, f10, f11, q4, r9, r10⟩
    rw [r7, f9, hp, hp2]; exact zq_sub
theorem zq_close {c : zp_L} {next' : Nat} {d : Nat} {tok' : Int32} {att' : Nat} {spl' : Int64} {val' : Int32} (hs : size ≤ 8192) (hpp : pp < next') (hnx : next' ≤ size) (hnr : nr < pp) (hd : d + 1 ≤ 4 * pp)
    (hgo : zq_go tx size c ((zt_tok tx size next' name word value).2.1, (zt_tok tx size next' name word value).1, (zt_tok tx size next' name word value).2.2.1, (zt_tok tx size next' name word value).2.2.2.1, (zt_tok tx size next' name word value).2.2.2.2.1, (zt_tok tx size next' name word value).2.2.2.2.2, dr, dc, dnum, dnam, nr, nc, zr_up nnum n 2 (nI nr - nI n), nnam, 0, (zp_goOutTo (nnum n 4)).1, latest, (zp_goOutTo (nnum n 4)).2, wa'))
    (h6 : ∀ f ∈ G, f.1 < n) (h4 : nnum n 4 = zq_op o') (hfr : zq_fr nnum q o' u G) (hstk : zq_stk aDue aDof (zq_dl G) d) (hN : zq_N nr nnum nnam aKnd aPrn aPlc aNpl aSpl aVar aVal aNam aSec) (hZ : zq_Z nr nnum (nI n) (n :: G.map (fun f => f.1))) :
    zq_out tx size q dr dc dnum dnam latest plc pp c (0, plc, next', tok', att', spl', val', nr, d, nI u, aKnd, aPrn, aPlc, aNpl, aSpl, aVar, aVal, aNam, aSec, aDue, aDof) := by
  obtain ⟨fo1, fo2⟩ := zq_fr_o hfr
  have hmem := hZ.1
  have hn := (hmem n List.mem_cons_self).1
  have hlt : ∀ m, o' = some m → m < n := by
    intro m g
    obtain ⟨f, hf, rfl⟩ := List.mem_map.1 (fo2 m g)
    exact h6 f hf
  rw [h4, zq_goOut (fun m g => by have := hlt m g; omega)] at hgo
  refine Or.inr ⟨G, o', _, _, _, _, _, _, _, _, _, _, _, _, _, _, _, _, _, _, _, _, _, _, _, _, _, _, _, _, _, _, hgo, rfl, hpp, ⟨_, _, _, rfl⟩, hnx, by omega, by omega, fun n k s G _ _ => by omega, ?_, ⟨u, rfl, ?_⟩, hstk, ?_, ?_⟩
  · by_cases hF : G = []
    · rw [if_pos hF, if_pos (fo1.2 hF)]
    · rw [if_neg hF, if_neg (fun g => hF (fo1.1 g))]
  · refine zq_fr_c G o' u ?_ hfr
    intro f hf
    have hne : ¬ f.1 = n := by have := h6 f hf; omega
    exact ⟨zq_up_ne hne, zq_up_ne hne, zq_up_ne hne, zq_up_ne hne, zq_up_ne hne⟩
  · intro k hk
    have := hN k hk
    simp only [zq_up_nc (show ¬ (0 : Nat) = 2 by decide), zq_up_nc (show ¬ (3 : Nat) = 2 by decide), zq_up_nc (show ¬ (4 : Nat) = 2 by decide), zq_up_nc (show ¬ (5 : Nat) = 2 by decide), zq_up_nc (show ¬ (6 : Nat) = 2 by decide), zq_up_nc (show ¬ (7 : Nat) = 2 by decide), zq_up_nc (show ¬ (8 : Nat) = 2 by decide)]
    exact this
  · refine zq_Z_end (by omega) hZ hn ?_ ?_ ?_ ?_
    · intro g
      obtain ⟨f, hf, e⟩ := List.mem_map.1 g
      have := h6 f hf
      omega
    · cases o' with
      | none => rw [Int32.lt_iff_toInt_lt, zq_ti (by omega)]; show (-1 : Int32).toInt < _; have : (-1 : Int32).toInt = -1 := rfl; omega
      | some m => exact (zq_lt (by have := hlt m rfl; omega) (by omega)).2 (hlt m rfl)
    · intro k hk
      obtain ⟨f, hf, rfl⟩ := List.mem_map.1 hk
      cases G with
      | nil => cases hf
      | cons x G' =>
        obtain ⟨m, km, sm⟩ := x
        have e : o' = some m := hfr.1
        subst e
        have hm := hlt m rfl
        have hfm : f.1 ≤ m := by
          rcases List.mem_cons.1 hf with rfl | hf
          · exact Nat.le_refl _
          · have := hfr.2.2.2.2.2.1 f hf; omega
        exact (zq_le (by omega) (by omega)).2 hfm
    · intro k hk
      refine ⟨zq_up_nc (by decide), zq_up_nc (by decide), ?_⟩
      by_cases he : k = n
      · subst he
        rw [zq_up_eq, if_pos rfl, ← zq_sub (a := nr - k) (b := k)]
        congr 2; omega
      · rw [zq_up_ne he, if_neg he]
theorem zq_adv {c : zp_L} {next' : Nat} {d : Nat} {tok' : Int32} {att' : Nat} {spl' : Int64} {val' : Int32} {nnum' : Nat → Nat → Int32} {nnam' : Nat → Nat → Int64} {aNpl' aSpl' : Nat → Int32} {aNam' aSec' : Nat → Int64} {aDue' aDof' : Nat → Int32} (hs : size ≤ 8192) (hpp : pp < next') (hnx : next' ≤ size) (hnr : nr < pp) (hd : d ≤ 4 * pp + 1)
    (hgo : zq_go tx size c ((zt_tok tx size next' name word value).2.1, (zt_tok tx size next' name word value).1, (zt_tok tx size next' name word value).2.2.1, (zt_tok tx size next' name word value).2.2.2.1, (zt_tok tx size next' name word value).2.2.2.2.1, (zt_tok tx size next' name word value).2.2.2.2.2, dr, dc, dnum, dnam, nr, nc, nnum', nnam', 0, 12, latest, nI n, wa'))
    (hok : zq_ok k (s + 1)) (h0 : nnum n 0 = nI k) (h9 : nnum' n 9 = nI (s + 1)) (hsp : zq_sp k (s + 1) (nnum' n 6)) (h6 : ∀ f ∈ G, f.1 < n) (hmx : u + zq_mx k (s + 1) ≤ 24) (h7 : nnum n 7 = nI u) (h4 : nnum n 4 = zq_op o') (hfr : zq_fr nnum q o' u G)
    (hstk : zq_stk aDue' aDof' ((zq_rem k (s + 1)).map (fun w => (w, nI n)) ++ zq_dl G) d) (hZ : zq_Z nr nnum (nI n) (n :: G.map (fun f => f.1)))
    (hrow : ∀ a c, ¬ a = n → nnum' a c = nnum a c) (hcol : ∀ c, c = 0 ∨ c = 1 ∨ c = 2 ∨ c = 4 ∨ c = 7 → nnum' n c = nnum n c)
    (hN : zq_N nr nnum' nnam' aKnd aPrn aPlc aNpl' aSpl' aVar aVal aNam' aSec') :
    zq_out tx size q dr dc dnum dnam latest plc pp c (0, plc, next', tok', att', spl', val', nr, d, nI (u + zq_pre k (s + 1)), aKnd, aPrn, aPlc, aNpl', aSpl', aVar, aVal, aNam', aSec', aDue', aDof') := by
  refine Or.inr ⟨(n, k, s + 1) :: G, some n, _, _, _, _, _, _, _, _, _, _, _, _, _, _, _, _, _, _, _, _, _, _, _, _, _, _, _, _, _, _, hgo, rfl, hpp, ⟨_, _, _, rfl⟩, hnx, by omega, by omega, fun n k s G _ _ => by omega, rfl, ⟨_, rfl, rfl, hok, ?_, h9, hsp, h6, u, o', hmx, ?_, rfl, ?_, ?_⟩, hstk, hN, ?_⟩
  · rw [hcol 0 (by omega), h0]
  · rw [hcol 7 (by omega), h7]
  · rw [hcol 4 (by omega), h4]
  · refine zq_fr_c G o' u ?_ hfr
    intro f hf
    have hne : ¬ f.1 = n := by have := h6 f hf; omega
    exact ⟨hrow _ _ hne, hrow _ _ hne, hrow _ _ hne, hrow _ _ hne, hrow _ _ hne⟩
  · refine zq_Z_c hZ ?_
    intro a ha
    by_cases he : a = n
    · subst he; exact ⟨hcol 1 (by omega), hcol 2 (by omega), hcol 4 (by omega)⟩
    · exact ⟨hrow _ _ he, hrow _ _ he, hrow _ _ he⟩
end
