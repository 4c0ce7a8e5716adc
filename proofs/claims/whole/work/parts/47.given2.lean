def zz_row (i : Nat) : List Cond := Cond.exactly (.string (zz_so1 i).1 (zz_so1 i).2.1) "java/lang/String" :: Cond.eq (.field (.string (zz_so1 i).1 (zz_so1 i).2.1) "java/lang/String" "coder" "B") (.int 0) :: Cond.arrayOf (.field (.string (zz_so1 i).1 (zz_so1 i).2.1) "java/lang/String" "value" "[B") .byte :: Cond.eq (.length (.field (.string (zz_so1 i).1 (zz_so1 i).2.1) "java/lang/String" "value" "[B")) (.int (Int32.ofNat (zz_sl.getD i 0))) :: (List.range (zz_sl.getD i 0)).map (fun j => Cond.eq (.elem (.field (.string (zz_so1 i).1 (zz_so1 i).2.1) "java/lang/String" "value" "[B") (.int (Int32.ofNat j))) (.int ((zz_sb.getD i []).getD j 0)))
set_option maxRecDepth 100000 in
theorem zz_rows : (flatC (Jvm.Cond.and given_1 narrow_1)).drop 35 = (List.range 34).flatMap zz_row := by decide +kernel
set_option maxRecDepth 100000 in
theorem zz_words : ((flatC (Jvm.Cond.and given_1 narrow_1)).drop 7).take 23 = (List.range 23).map (fun j => Cond.eq (.elem (.static "TwoLevelParser" "WORDS" "[J") (.int (Int32.ofNat j))) (.long (zz_wd.getD j 0))) := by decide +kernel
theorem zz_mem_r {c : Cond} {i : Nat} (hi : i < 34) (h : c ∈ zz_row i) : c ∈ flatC (Jvm.Cond.and given_1 narrow_1) := by
  have h1 : c ∈ (flatC (Jvm.Cond.and given_1 narrow_1)).drop 35 := by
    rw [zz_rows]; exact List.mem_flatMap.2 ⟨i, List.mem_range.2 hi, h⟩
  exact List.mem_of_mem_drop h1
theorem zz_mem_w : ∀ j : Nat, j < 23 → Cond.eq (.elem (.static "TwoLevelParser" "WORDS" "[J") (.int (Int32.ofNat j))) (.long (zz_wd.getD j 0)) ∈ flatC (Jvm.Cond.and given_1 narrow_1) := by
  intro j hj
  have h1 : Cond.eq (.elem (.static "TwoLevelParser" "WORDS" "[J") (.int (Int32.ofNat j))) (.long (zz_wd.getD j 0)) ∈ ((flatC (Jvm.Cond.and given_1 narrow_1)).drop 7).take 23 := by
    rw [zz_words]; exact List.mem_map.2 ⟨j, List.mem_range.2 hj, rfl⟩
  exact List.mem_of_mem_drop (List.mem_of_mem_take h1)
theorem zz_mem_s1 : ∀ i : Nat, i < 34 → Cond.exactly (.string (zz_so1 i).1 (zz_so1 i).2.1) "java/lang/String" ∈ flatC (Jvm.Cond.and given_1 narrow_1) := fun i hi => zz_mem_r hi (List.Mem.head _)
theorem zz_mem_s2 : ∀ i : Nat, i < 34 → Cond.eq (.field (.string (zz_so1 i).1 (zz_so1 i).2.1) "java/lang/String" "coder" "B") (.int 0) ∈ flatC (Jvm.Cond.and given_1 narrow_1) := fun i hi => zz_mem_r hi (List.Mem.tail _ (List.Mem.head _))
theorem zz_mem_s3 : ∀ i : Nat, i < 34 → Cond.arrayOf (.field (.string (zz_so1 i).1 (zz_so1 i).2.1) "java/lang/String" "value" "[B") .byte ∈ flatC (Jvm.Cond.and given_1 narrow_1) := fun i hi => zz_mem_r hi (List.Mem.tail _ (List.Mem.tail _ (List.Mem.head _)))
theorem zz_mem_s4 : ∀ i : Nat, i < 34 → Cond.eq (.length (.field (.string (zz_so1 i).1 (zz_so1 i).2.1) "java/lang/String" "value" "[B")) (.int (Int32.ofNat (zz_sl.getD i 0))) ∈ flatC (Jvm.Cond.and given_1 narrow_1) := fun i hi => zz_mem_r hi (List.Mem.tail _ (List.Mem.tail _ (List.Mem.tail _ (List.Mem.head _))))
theorem zz_mem_s5 : ∀ i : Nat, i < 34 → ∀ j : Nat, j < zz_sl.getD i 0 → Cond.eq (.elem (.field (.string (zz_so1 i).1 (zz_so1 i).2.1) "java/lang/String" "value" "[B") (.int (Int32.ofNat j))) (.int ((zz_sb.getD i []).getD j 0)) ∈ flatC (Jvm.Cond.and given_1 narrow_1) := fun i hi j hj => zz_mem_r hi (List.Mem.tail _ (List.Mem.tail _ (List.Mem.tail _ (List.Mem.tail _ (List.mem_map.2 ⟨j, List.mem_range.2 hj, rfl⟩)))))
set_option maxRecDepth 100000 in
theorem zz_mem_s6 : ∀ i : Nat, i < 34 → Cond.stringRef (zz_so1 i).1 (zz_so1 i).2.1 (zz_so1 i).2.2 ∈ lw_tbl := by decide +kernel
theorem zz_sl31 : ∀ i : Nat, i < 34 → zz_sl.getD i 0 < 2 ^ 31 := by decide +kernel
set_option maxHeartbeats 4000000 in
set_option maxRecDepth 100000 in
theorem zz_Gof {b : Nat} {s : State} {A : Nat → Prop} (hgv : (Jvm.Cond.and given_1 narrow_1).before #[Value.ref b] s = true) (hts : ∀ w ∈ lw_tbl, w.before #[Value.ref b] s = true) (hA : ∀ a : Nat, a < s.heap.size → ¬ A a) : ∃ g : zz_g, zz_G g A s s.heap := by
  have hs := flat_of_before _ hgv
  obtain ⟨t, ht, hT⟩ := va_Tof (args := #[Value.ref b]) (s := s) (tm := .static "TwoLevelParser" "WORDS" "[J") (ty := .long) (N := 23) (f := fun j => .long (zz_wd.getD j 0)) (A := A) (by decide) (hs _ (by decide +kernel)) (va_eqt (hs (.eq (.length (.static "TwoLevelParser" "WORDS" "[J")) (.int 23)) (by decide +kernel))) (fun j hj => va_eqtl (hs _ (zz_mem_w j hj))) hA
  have hZ : va_Z "TwoLevelParser" "WORDS" "[J" (.ref t) A s s.heap := va_Zref (args := #[Value.ref b]) (hts (.laysStatic "TwoLevelParser" "WORDS" "[J") (by decide +kernel)) (hts (.initialized "TwoLevelParser") (by decide +kernel)) ht hA
  have hC : va_Z "java/lang/String" "COMPACT_STRINGS" "Z" (.int 1) A s s.heap := va_Zof (args := #[Value.ref b]) (hts (.laysStatic "java/lang/String" "COMPACT_STRINGS" "Z") (by decide +kernel)) (hts (.initialized "java/lang/String") (by decide +kernel)) (va_eqt (hs (.eq (.static "java/lang/String" "COMPACT_STRINGS" "Z") (.int 1)) (by decide +kernel))) hA
  have hQ : va_Zq "jdk/internal/util/Preconditions" "SIOOBE_FORMATTER" "Ljava/util/function/BiFunction;" A s s.heap := va_Zqof (args := #[Value.ref b]) (hts (.laysStatic "jdk/internal/util/Preconditions" "SIOOBE_FORMATTER" "Ljava/util/function/BiFunction;") (by decide +kernel)) (hts (.initialized "jdk/internal/util/Preconditions") (by decide +kernel)) (hs (.isRef (.static "jdk/internal/util/Preconditions" "SIOOBE_FORMATTER" "Ljava/util/function/BiFunction;")) (by decide +kernel)) hA
  have hE : ∀ i : Nat, ∃ q : Nat × Nat, i < 34 → vk_R (zz_so1 i).1 (zz_so1 i).2.1 (zz_so1 i).2.2 q.1 s ∧ vk_S 1 [zz_sl.getD i 0] [zz_sb.getD i []] (fun _ => q.1) (fun _ => q.2) A s s.heap := by
    intro i
    by_cases hi : i < 34
    · have one : ∀ {P : Nat → Prop}, P 0 → ∀ j : Nat, j < 1 → P j := fun h j hj => by
        have : j = 0 := by omega
        subst this; exact h
      obtain ⟨adK, adV, h1, h2⟩ := vk_Sof (args := #[Value.ref b]) (s := s) (N := 1) (tm := fun _ => .string (zz_so1 i).1 (zz_so1 i).2.1) (len := [zz_sl.getD i 0]) (byt := [zz_sb.getD i []]) (A := A)
        (one (zz_sl31 i hi)) (fun _ _ => hs _ (zz_mem_s1 i hi)) (fun _ _ => hs _ (zz_mem_s2 i hi)) (fun _ _ => hs _ (zz_mem_s3 i hi)) (one (hs _ (zz_mem_s4 i hi))) (one (fun j hj => hs _ (zz_mem_s5 i hi j hj))) (fun j k hj hk hne => absurd (by omega : j = k) hne) hA
      refine ⟨(adK 0, adV 0), fun _ => ⟨vk_R.of (A := #[Value.ref b]) (hts _ (zz_mem_s6 i hi)) (h2 0 (by omega)), ?_, fun j k hj hk _ => by omega⟩⟩
      intro j hj
      have : j = 0 := by omega
      subst this
      exact h1.1 0 (by omega)
    · exact ⟨(0, 0), fun h => absurd h hi⟩
  refine ⟨(fun i => (Classical.choose (hE i)).1, fun i => (Classical.choose (hE i)).2), va_Nw.of rfl (hts zz_nT (by decide +kernel)), va_Nw.of rfl (hts zz_nX (by decide +kernel)), va_Nw.of rfl (hts zz_nP (by decide +kernel)), ⟨t, hZ, hT⟩, hC, hQ, ?_⟩
  intro i hi
  exact Classical.choose_spec (hE i) hi
