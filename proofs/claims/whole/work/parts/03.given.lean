/-! WHAT IS GIVEN OF CONSTANTS: the table WORDS, the String constants, links to private members of nest mates -/
def zz_wd : List Int64 := [6830, 3335, 14636, 1156, 20130, 13996, 4406, 18605, 398963, 624037, 294, 12468, 99941, 114131, 99724, 431535, 308708, 407012, 594980, 24716933, 349616, 9684, 403060]
def zz_sl : List Nat := [3, 3, 7, 2, 1, 3, 1, 3, 3, 7, 2, 3, 3, 3, 4, 4, 4, 3, 3, 3, 3, 3, 4, 4, 2, 3, 4, 4, 4, 4, 4, 5, 4, 3]
def zz_sb : List (List Int32) := [[69, 69, 69], [88, 69, 101], [69, 69, 40, 88, 89, 101, 41], [70, 42], [67], [69, 88, 99], [69], [69, 67, 67], [88, 69, 99], [69, 67, 40, 88, 89, 99, 41], [69, 69], [102, 117, 110], [99, 104, 103], [105, 110, 116], [108, 105, 115, 116], [105, 109, 111, 100], [108, 109, 111, 100], [97, 100, 100], [115, 117, 98], [109, 117, 108], [100, 105, 118], [114, 101, 109], [108, 101, 115, 115], [115, 97, 109, 101], [105, 102], [108, 101, 116], [99, 97, 115, 101], [99, 111, 110, 115], [99, 97, 108, 108], [109, 101, 109, 111], [114, 101, 97, 100], [119, 114, 105, 116, 101], [106, 117, 109, 112], [110, 105, 108]]
def zz_so : List (String × Nat × String) := [("TwoLevelParser$Parser", 159, "EEE"), ("TwoLevelParser$Parser", 161, "XEe"), ("TwoLevelParser$Parser", 163, "EE(XYe)"), ("TwoLevelParser$Parser", 165, "F*"), ("TwoLevelParser$Parser", 167, "C"), ("TwoLevelParser$Parser", 168, "EXc"), ("TwoLevelParser$Parser", 170, "E"), ("TwoLevelParser$Parser", 172, "ECC"), ("TwoLevelParser$Parser", 174, "XEc"), ("TwoLevelParser$Parser", 176, "EC(XYc)"), ("TwoLevelParser$Parser", 178, "EE"), ("TwoLevelParserModel", 198, "fun"), ("TwoLevelParserModel", 200, "chg"), ("TwoLevelParserModel", 142, "int"), ("TwoLevelParserModel", 148, "list"), ("TwoLevelParserModel", 150, "imod"), ("TwoLevelParserModel", 152, "lmod"), ("TwoLevelParserModel", 154, "add"), ("TwoLevelParserModel", 156, "sub"), ("TwoLevelParserModel", 158, "mul"), ("TwoLevelParserModel", 160, "div"), ("TwoLevelParserModel", 162, "rem"), ("TwoLevelParserModel", 164, "less"), ("TwoLevelParserModel", 166, "same"), ("TwoLevelParserModel", 171, "if"), ("TwoLevelParserModel", 173, "let"), ("TwoLevelParserModel", 175, "case"), ("TwoLevelParserModel", 177, "cons"), ("TwoLevelParserModel", 179, "call"), ("TwoLevelParserModel", 181, "memo"), ("TwoLevelParserModel", 183, "read"), ("TwoLevelParserModel", 185, "write"), ("TwoLevelParserModel", 187, "jump"), ("TwoLevelParserModel", 202, "nil")]
abbrev zz_g : Type := (Nat → Nat) × (Nat → Nat)
def zz_so1 (i : Nat) : String × Nat × String := zz_so.getD i ("", 0, "")
/-- the String constant i: where its object and its bytes lie -/
def zz_S (g : zz_g) (i : Nat) (A : Nat → Prop) (U : State) (H : Heap) : Prop := vk_R (zz_so1 i).1 (zz_so1 i).2.1 (zz_so1 i).2.2 (g.1 i) U ∧ vk_S 1 [zz_sl.getD i 0] [zz_sb.getD i []] (fun _ => g.1 i) (fun _ => g.2 i) A U H
def zz_nT : Cond := .fieldLinkNest "TwoLevelParser$Text" 88 "TwoLevelParser" "WORDS" "[J" "TwoLevelParser"
def zz_nX : Cond := .methodLinkNest "TwoLevelParser" 11 yn_P_init "TwoLevelParser"
def zz_nP : Cond := .methodLinkNest "TwoLevelParser$Parser" 11 yn_T_init "TwoLevelParser"
def zz_G (g : zz_g) (A : Nat → Prop) (U : State) (H : Heap) : Prop :=
  va_Nw zz_nT U ∧ va_Nw zz_nX U ∧ va_Nw zz_nP U ∧ (∃ t : Nat, va_Z "TwoLevelParser" "WORDS" "[J" (.ref t) A U H ∧ va_T .long t 23 (fun j => .long (zz_wd.getD j 0)) A U H) ∧ va_Z "java/lang/String" "COMPACT_STRINGS" "Z" (.int 1) A U H ∧ va_Zq "jdk/internal/util/Preconditions" "SIOOBE_FORMATTER" "Ljava/util/function/BiFunction;" A U H ∧ ∀ i : Nat, i < 34 → zz_S g i A U H
theorem zz_G.warm {g : zz_g} {A : Nat → Prop} {s U : State} {H : Heap} (hW : s.WarmedH U.vm) (h : zz_G g A s H) : zz_G g A U H := by
  obtain ⟨h1, h2, h3, ⟨t, h4, h5⟩, h6, h65, h7⟩ := h
  exact ⟨va_Nw.warmF hW h1, va_Nw.warmM hW h2, va_Nw.warmM hW h3, ⟨t, h4.moved hW.alike, h5.moved hW.alike⟩, h6.moved hW.alike, h65.moved hW.alike, fun i hi => ⟨(h7 i hi).1.warm hW, (h7 i hi).2.moved hW.alike⟩⟩
theorem zz_G.same {g : zz_g} {A : Nat → Prop} {u U : State} {H : Heap} (hv : u.vm = U.vm) (h : zz_G g A u H) : zz_G g A U H := by
  have ha : u.vm.Alike U.vm := hv ▸ Vm.Alike.refl u.vm
  obtain ⟨h1, h2, h3, ⟨t, h4, h5⟩, h6, h65, h7⟩ := h
  exact ⟨va_Nw.same rfl hv h1, va_Nw.same rfl hv h2, va_Nw.same rfl hv h3, ⟨t, h4.moved ha, h5.moved ha⟩, h6.moved ha, h65.moved ha, fun i hi => ⟨(h7 i hi).1.same hv.symm, (h7 i hi).2.moved ha⟩⟩
theorem zz_G.kept {g : zz_g} {A : Nat → Prop} {U : State} {H H1 : Heap} (h : zz_G g A U H) (hq : ∀ a : Nat, a < H.size → ¬ A a → H1[a]? = H[a]?) : zz_G g A U H1 := by
  obtain ⟨h1, h2, h3, ⟨t, h4, h5⟩, h6, h65, h7⟩ := h
  exact ⟨h1, h2, h3, ⟨t, h4.kept hq, h5.kept hq⟩, h6.kept hq, h65.kept hq, fun i hi => ⟨(h7 i hi).1, (h7 i hi).2.kept hq⟩⟩
theorem zz_G.narrow {g : zz_g} {A B : Nat → Prop} {U : State} {H : Heap} (h : zz_G g A U H) (hAB : ∀ q, B q → A q) : zz_G g B U H := by
  obtain ⟨h1, h2, h3, ⟨t, h4, h5⟩, h6, h65, h7⟩ := h
  exact ⟨h1, h2, h3, ⟨t, h4.narrow hAB, h5.narrow hAB⟩, h6.narrow hAB, h65.narrow hAB, fun i hi => ⟨(h7 i hi).1, (h7 i hi).2.narrow hAB⟩⟩
