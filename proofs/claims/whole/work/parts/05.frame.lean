/-! THE FRAME. Own cells have numbers from 32 on, in the order in which they are made (number i stands at the address s0 + (i - 32)); what was there before has numbers below 32. -/
abbrev KT : Type := MethodName × ByteArray × Nat × Option FieldType
/-- addresses of old things; the heap's size at the law's start; class numbers; slots; array classes; the script -/
abbrev GT : Type := (Nat → Nat) × Nat × (Nat → ClassId) × (Nat → Nat → Nat) × (Nat → ClassId) × Nat × (Nat → Int32)
abbrev MI : Type := Nat → Nat → Int32
abbrev MR : Type := Nat → Nat → Option Nat
abbrev QT : Type := Option Value → Nat → MI → MR → Prop
abbrev gS0 (G : GT) : Nat := G.2.1
abbrev gD (G : GT) : va_G := (G.2.2.1, G.2.2.2.1)
abbrev gC (G : GT) : Nat → ClassId := G.2.2.2.2.1
abbrev gLen (G : GT) : Nat := G.2.2.2.2.2.1
abbrev gXs (G : GT) : Nat → Int32 := G.2.2.2.2.2.2
def gAd (G : GT) (i : Nat) : Nat := if i < 32 then G.1 i else gS0 G + (i - 32)
def gV (G : GT) (v : Value) : Value := match v with
  | .ref i => .ref (gAd G i)
  | w => w
abbrev gA (G : GT) : Nat → Prop := fun q => gS0 G ≤ q
/-- kinds of arrays -/
def gTy : Nat → FieldType := fun k => match k with
  | 0 => .int
  | 1 => .char
  | 2 => .boolean
  | 3 => .array .int
  | 4 => .object "DrunkByYear$Village"
  | _ => .object "DrunkByYear$Person"
def gTys (G : GT) : List (ClassId × FieldType) := [(gC G 0, gTy 0), (gC G 1, gTy 1), (gC G 2, gTy 2), (gC G 3, gTy 3), (gC G 4, gTy 4), (gC G 5, gTy 5)]
theorem gTys_at (G : GT) {k : Nat} (h : k < 6) : (gTys G)[k]? = some (gC G k, gTy k) := by
  match k, h with
  | 0, _ => rfl
  | 1, _ => rfl
  | 2, _ => rfl
  | 3, _ => rfl
  | 4, _ => rfl
  | 5, _ => rfl
abbrev gCls : List vw_C := [(RX0, TX0, 2), (RX1, TX1, 7), (RX2, TX2, 4), (RX3, TX3, 4), (RX4, TX4, 15), (RX5, TX5, 7), (RX6, TX6, 14), (RX7, TX7, 7), (RX8, TX8, 29)]
def gN : Nat → Nat := fun k => match k with
  | 0 => 2
  | 1 => 7
  | 2 => 4
  | 3 => 4
  | 4 => 15
  | 5 => 7
  | 6 => 14
  | 7 => 7
  | _ => 29
def gFT : Nat → Nat → FieldType := fun k => match k with
  | 0 => tyX0
  | 1 => tyX1
  | 2 => tyX2
  | 3 => tyX3
  | 4 => tyX4
  | 5 => tyX5
  | 6 => tyX6
  | 7 => tyX7
  | _ => tyX8
def gRf (ty : FieldType) : Bool := match ty with
  | .object _ => true
  | .array _ => true
  | _ => false
/-- what stands in a world, by its place in it -/
def SHW : Nat → Nat ⊕ (Nat × Nat) := fun o => match o with
  | 0 => .inl 6
  | 1 => .inr (5, 6)
  | 2 => .inr (0, 5)
  | 3 => .inr (0, 5)
  | 4 => .inr (1, 100)
  | 5 => .inl 3
  | 6 => .inr (0, 5)
  | 7 => .inr (0, 5)
  | 8 => .inr (0, 5)
  | 9 => .inl 3
  | 10 => .inr (0, 8)
  | 11 => .inr (0, 8)
  | 12 => .inr (0, 8)
  | 13 => .inl 3
  | 14 => .inr (0, 8)
  | 15 => .inr (0, 8)
  | 16 => .inr (0, 8)
  | 17 => .inr (0, 6)
  | o + 18 => if o % 2 = 0 then .inl 1 else .inr (0, 4)
def SHV : Nat → Nat ⊕ (Nat × Nat) := fun o => match o with
  | 0 => .inl 5
  | 1 => .inr (0, 100)
  | _ => .inr (0, 10)
def SHS : Nat → Nat ⊕ (Nat × Nat) := fun o => match o with
  | 0 => .inl 4
  | 1 => .inr (3, 6)
  | 2 => .inr (0, 6)
  | 3 => .inr (0, 6)
  | 4 => .inr (0, 6)
  | 5 => .inr (0, 6)
  | 6 => .inr (0, 6)
  | 7 => .inr (0, 6)
  | 8 => .inr (3, 6)
  | 9 => .inr (0, 6)
  | 10 => .inr (0, 6)
  | 11 => .inr (0, 6)
  | 12 => .inr (0, 6)
  | 13 => .inr (0, 6)
  | 14 => .inr (0, 6)
  | 15 => .inr (0, 6)
  | 16 => .inr (0, 6)
  | 17 => .inr (0, 6)
  | 18 => .inr (0, 6)
  | _ => .inr (0, 7)
def SHM : Nat → Nat ⊕ (Nat × Nat) := fun o => match o with
  | 0 => .inl 8
  | 1 => .inr (0, 938)
  | 2 => .inr (0, 938)
  | 3 => .inr (0, 12)
  | 4 => .inr (0, 6)
  | 5 => .inr (2, 64)
  | 6 => .inr (0, 36)
  | 7 => .inr (0, 36)
  | 8 => .inr (0, 6)
  | 9 => .inr (0, 6)
  | 10 => .inr (0, 5)
  | 11 => .inr (2, 36)
  | _ => .inr (0, 20)
def SHB : Nat → Nat ⊕ (Nat × Nat) := fun o => match o with
  | 32 => .inl 7
  | 33 => .inr (4, 5)
  | 34 => .inl 0
  | _ => .inr (0, 20)
/-- what the cell of a number is: an object of a class, or an array of a kind and a length -/
def SH (i : Nat) : Nat ⊕ (Nat × Nat) := if i < 36 then SHB i else if i < 40 then SHV (i - 36) else if i < 130 then SHW ((i - 40) % 30) else if i < 153 then SHS (i - 130) else if i < 173 then SHV ((i - 153) % 4) else if i < 186 then SHM (i - 173) else .inl 2
/-- its contents -/
def gE (G : GT) (mi : MI) (mr : MR) (i : Nat) : va_E := match SH i with
  | .inl ci => .inr (ci, (List.range (gN ci)).map (fun k => if gRf (gFT ci k) = true then va_rf ((mr i k).map (gAd G)) else .int (mi i k)))
  | .inr q => .inl (gC G q.1, q.2, if q.1 < 3 then .inl (mi i) else .inr (.inr (.inr (.inr (fun j => (mr i j).map (gAd G))))))
def gH (G : GT) (n : Nat) (mi : MI) (mr : MR) (H : Heap) : Prop := 32 ≤ n ∧ H.size = gS0 G + (n - 32) ∧ (∀ i, 32 ≤ i → i < n → va_at (gD G) gCls (gAd G i, gE G mi mr i) H) ∧ gXs G = mi 0 ∧ mr 0 0 = some (gLen G)
def nestL : List Cond := [
  .fieldLinkNest "DrunkByYear" 257 "DrunkByYear$Acts" "bodies" "[I" "DrunkByYear",
  .fieldLinkNest "DrunkByYear" 250 "DrunkByYear$Acts" "ran" "I" "DrunkByYear",
  .fieldLinkNest "DrunkByYear$Reader" 49 "DrunkByYear$Village" "grown" "I" "DrunkByYear",
  .fieldLinkNest "DrunkByYear$World" 96 "DrunkByYear$Village" "grown" "I" "DrunkByYear",
  .fieldLinkNest "DrunkByYear" 152 "DrunkByYear$Village" "grown" "I" "DrunkByYear",
  .fieldLinkNest "DrunkByYear$Reader" 54 "DrunkByYear$Village" "old" "I" "DrunkByYear",
  .fieldLinkNest "DrunkByYear$World" 99 "DrunkByYear$Village" "old" "I" "DrunkByYear",
  .fieldLinkNest "DrunkByYear" 155 "DrunkByYear$Village" "old" "I" "DrunkByYear",
  .fieldLinkNest "DrunkByYear$World" 124 "DrunkByYear$Rows" "what" "[I" "DrunkByYear",
  .fieldLinkNest "DrunkByYear$World" 130 "DrunkByYear$Rows" "who" "[I" "DrunkByYear",
  .fieldLinkNest "DrunkByYear" 244 "DrunkByYear$Rows" "who" "[I" "DrunkByYear",
  .fieldLinkNest "DrunkByYear$World" 133 "DrunkByYear$Rows" "number" "[I" "DrunkByYear",
  .fieldLinkNest "DrunkByYear" 247 "DrunkByYear$Rows" "number" "[I" "DrunkByYear",
  .fieldLinkNest "DrunkByYear$World" 121 "DrunkByYear$Rows" "size" "I" "DrunkByYear",
  .fieldLinkNest "DrunkByYear" 241 "DrunkByYear$Rows" "size" "I" "DrunkByYear",
  .fieldLinkNest "DrunkByYear$Acts" 25 "DrunkByYear$Person" "number" "I" "DrunkByYear",
  .fieldLinkNest "DrunkByYear$Acts" 34 "DrunkByYear$Person" "kind" "I" "DrunkByYear",
  .fieldLinkNest "DrunkByYear" 108 "DrunkByYear$Person" "kind" "I" "DrunkByYear",
  .fieldLinkNest "DrunkByYear$World" 102 "DrunkByYear$Person" "kind" "I" "DrunkByYear",
  .fieldLinkNest "DrunkByYear$Acts" 31 "DrunkByYear$Person" "v" "I" "DrunkByYear",
  .fieldLinkNest "DrunkByYear" 111 "DrunkByYear$Person" "v" "I" "DrunkByYear",
  .fieldLinkNest "DrunkByYear$World" 105 "DrunkByYear$Person" "v" "I" "DrunkByYear",
  .fieldLinkNest "DrunkByYear" 114 "DrunkByYear$Person" "born" "I" "DrunkByYear",
  .fieldLinkNest "DrunkByYear" 117 "DrunkByYear$Person" "life" "I" "DrunkByYear",
  .fieldLinkNest "DrunkByYear" 120 "DrunkByYear$Person" "has" "I" "DrunkByYear",
  .fieldLinkNest "DrunkByYear$World" 112 "DrunkByYear$Person" "has" "I" "DrunkByYear",
  .fieldLinkNest "DrunkByYear" 136 "DrunkByYear$Person" "row" "[I" "DrunkByYear",
  .fieldLinkNest "DrunkByYear" 149 "DrunkByYear$World" "year" "I" "DrunkByYear",
  .fieldLinkNest "DrunkByYear$Search" 52 "DrunkByYear$World" "people" "I" "DrunkByYear",
  .fieldLinkNest "DrunkByYear" 82 "DrunkByYear$World" "people" "I" "DrunkByYear",
  .fieldLinkNest "DrunkByYear$Search" 88 "DrunkByYear$World" "vintages" "I" "DrunkByYear",
  .fieldLinkNest "DrunkByYear" 98 "DrunkByYear$World" "vintages" "I" "DrunkByYear",
  .fieldLinkNest "DrunkByYear" 57 "DrunkByYear$World" "villages" "I" "DrunkByYear",
  .fieldLinkNest "DrunkByYear" 49 "DrunkByYear$World" "signs" "I" "DrunkByYear",
  .fieldLinkNest "DrunkByYear" 71 "DrunkByYear$World" "holds" "LDrunkByYear$Village;" "DrunkByYear",
  .fieldLinkNest "DrunkByYear" 85 "DrunkByYear$World" "folk" "[LDrunkByYear$Person;" "DrunkByYear",
  .fieldLinkNest "DrunkByYear" 143 "DrunkByYear$World" "wineYear" "[I" "DrunkByYear",
  .fieldLinkNest "DrunkByYear$Search" 91 "DrunkByYear$World" "bottles" "[I" "DrunkByYear",
  .fieldLinkNest "DrunkByYear" 146 "DrunkByYear$World" "bottles" "[I" "DrunkByYear",
  .fieldLinkNest "DrunkByYear" 53 "DrunkByYear$World" "tape" "[C" "DrunkByYear",
  .fieldLinkNest "DrunkByYear" 198 "DrunkByYear$World" "seen" "LDrunkByYear$Rows;" "DrunkByYear",
  .fieldLinkNest "DrunkByYear" 216 "DrunkByYear$World" "night" "LDrunkByYear$Rows;" "DrunkByYear",
  .fieldLinkNest "DrunkByYear" 238 "DrunkByYear$World" "book" "LDrunkByYear$Rows;" "DrunkByYear",
  .fieldLinkNest "DrunkByYear" 68 "DrunkByYear$Reader" "at" "I" "DrunkByYear",
  .fieldLinkNest "DrunkByYear$Acts" 15 "DrunkByYear" "ABOVE" "[I" "DrunkByYear",
  .methodLinkNest "DrunkByYear" 19 ⟨"DrunkByYear$Acts", "<init>", "()V"⟩ "DrunkByYear",
  .methodLinkNest "DrunkByYear$Search" 94 ⟨"DrunkByYear", "shown", "(I)I"⟩ "DrunkByYear",
  .methodLinkNest "DrunkByYear" 253 ⟨"DrunkByYear$Acts", "perform", "(LDrunkByYear$Person;IIII)I"⟩ "DrunkByYear"]
def isNest : Cond → Bool
  | .fieldLinkNest _ _ _ _ _ _ => true
  | .methodLinkNest _ _ _ _ => true
  | _ => false
theorem nestL_ok : ∀ w ∈ nestL, isNest w = true := List.all_eq_true.mp (by decide +kernel)
theorem nest_warm {w : Cond} (hw : isNest w = true) {s U : State} (hW : s.WarmedH U.vm) (h : va_Nw w s) : va_Nw w U := by
  cases w <;> first | exact va_Nw.warmF hW h | exact va_Nw.warmM hW h | (simp [isNest] at hw)
theorem nest_same {w : Cond} (hw : isNest w = true) {u U : State} (hv : u.vm = U.vm) (h : va_Nw w u) : va_Nw w U := by
  cases w <;> first | exact va_Nw.same rfl hv h | (simp [isNest] at hw)
theorem nest_use {w : Cond} (hw : isNest w = true) {A : Array Value} {U : State} (h : va_Nw w U) : w.before A U = true := by
  cases w <;> first | exact va_Nw.use rfl h | (simp [isNest] at hw)
def gSL : List Nat := [5, 3, 4, 5, 6, 3, 6, 5]
def gSB : List (List Int32) := [[114, 111, 119, 110, 32], [108, 100, 32], [111, 108, 100, 32], [109, 101, 101, 107, 32], [112, 107, 118, 97, 115, 104], [60, 61, 62], [103, 114, 111, 119, 110, 32], [98, 111, 108, 100, 32]]
def gAB : List Int32 := [-1, 0, 0, 0, 1, 2, 3]
def gBO : List Int32 := [1, 2, 3, 11, 0, 0, 0, 21, 0, 0, 0, 31, 0, 0, 41, 51, 0, 0, 0, 61, 0]
/-- old things that are read: the script, the two static arrays, the flags of String, the texts -/
def gO (G : GT) (U : State) (H : Heap) : Prop :=
  va_T .int (G.1 0) (gLen G) (fun j => .int (gXs G j)) (gA G) U H ∧
  (va_Z "DrunkByYear" "ABOVE" "[I" (.ref (G.1 1)) (gA G) U H ∧ va_T .int (G.1 1) 7 (fun j => .int (gAB.getD j 0)) (gA G) U H) ∧
  (va_Z "DrunkByYear$Acts" "BODY" "[I" (.ref (G.1 2)) (gA G) U H ∧ va_T .int (G.1 2) 21 (fun j => .int (gBO.getD j 0)) (gA G) U H) ∧
  va_Z "java/lang/String" "COMPACT_STRINGS" "Z" (.int 1) (gA G) U H ∧
  (va_Z "jdk/internal/util/Preconditions" "SIOOBE_FORMATTER" "Ljava/util/function/BiFunction;" .null (gA G) U H ∨ va_Z "jdk/internal/util/Preconditions" "SIOOBE_FORMATTER" "Ljava/util/function/BiFunction;" (.ref (G.1 3)) (gA G) U H) ∧
  vk_S 8 gSL gSB (fun i => G.1 (4 + i)) (fun i => G.1 (16 + i)) (gA G) U H
def gR (G : GT) (U : State) : Prop := vk_R "DrunkByYear$Reader" 39 "rown " (G.1 4) U ∧ vk_R "DrunkByYear$Reader" 52 "ld " (G.1 5) U ∧ vk_R "DrunkByYear$Reader" 57 "old " (G.1 6) U ∧ vk_R "DrunkByYear$Reader" 59 "meek " (G.1 7) U ∧ vk_R "DrunkByYear$Reader" 78 "pkvash" (G.1 8) U ∧ vk_R "DrunkByYear$Reader" 84 "<=>" (G.1 9) U ∧ vk_R "DrunkByYearModel" 117 "grown " (G.1 10) U ∧ vk_R "DrunkByYearModel" 123 "old " (G.1 6) U ∧ vk_R "DrunkByYearModel" 125 "bold " (G.1 11) U ∧ vk_R "DrunkByYearModel" 99 "pkvash" (G.1 8) U ∧ vk_R "DrunkByYearModel" 105 "<=>" (G.1 9) U ∧ vk_R "DrunkByYearModel" 130 "meek " (G.1 7) U
def gOv (U : State) : Prop := va_AO "DrunkByYear$Village" U ∧ va_AO "DrunkByYear$Person" U ∧ (Cond.arrayOver (.array .int)).before #[] U = true
def gK (G : GT) (U : State) (H : Heap) : Prop := va_K (gD G) gCls (gTys G) U ∧ (∀ w ∈ nestL, va_Nw w U) ∧ gOv U ∧ gR G U ∧ gO G U H
theorem gO.moved {G : GT} {u U : State} {H : Heap} (hvm : u.vm.Alike U.vm) (h : gO G u H) : gO G U H := by
  obtain ⟨h1, ⟨h2, h3⟩, ⟨h4, h5⟩, h6, h7, h8⟩ := h
  exact ⟨h1.moved hvm, ⟨h2.moved hvm, h3.moved hvm⟩, ⟨h4.moved hvm, h5.moved hvm⟩, h6.moved hvm, h7.elim (fun q => Or.inl (q.moved hvm)) (fun q => Or.inr (q.moved hvm)), h8.moved hvm⟩
theorem gO.kept {G : GT} {U : State} {H H1 : Heap} (h : gO G U H) (hq : ∀ a : Nat, a < H.size → ¬ gA G a → H1[a]? = H[a]?) : gO G U H1 := by
  obtain ⟨h1, ⟨h2, h3⟩, ⟨h4, h5⟩, h6, h7, h8⟩ := h
  exact ⟨h1.kept hq, ⟨h2.kept hq, h3.kept hq⟩, ⟨h4.kept hq, h5.kept hq⟩, h6.kept hq, h7.elim (fun q => Or.inl (q.kept hq)) (fun q => Or.inr (q.kept hq)), h8.kept hq⟩
theorem gOv.moved {u U : State} (hvm : u.vm.Alike U.vm) (h : gOv u) : gOv U := ⟨h.1.moved hvm, h.2.1.moved hvm, arrayOver_alikeB hvm h.2.2⟩
theorem gR.warm {G : GT} {s U : State} (hW : s.WarmedH U.vm) (h : gR G s) : gR G U := by
  obtain ⟨h0, h1, h2, h3, h4, h5, h6, h7, h8, h9, h10, h11⟩ := h
  exact ⟨vk_R.warm hW h0, vk_R.warm hW h1, vk_R.warm hW h2, vk_R.warm hW h3, vk_R.warm hW h4, vk_R.warm hW h5, vk_R.warm hW h6, vk_R.warm hW h7, vk_R.warm hW h8, vk_R.warm hW h9, vk_R.warm hW h10, vk_R.warm hW h11⟩
theorem gR.same {G : GT} {s U : State} (hv : s.vm = U.vm) (h : gR G s) : gR G U := by
  obtain ⟨h0, h1, h2, h3, h4, h5, h6, h7, h8, h9, h10, h11⟩ := h
  exact ⟨vk_R.same hv.symm h0, vk_R.same hv.symm h1, vk_R.same hv.symm h2, vk_R.same hv.symm h3, vk_R.same hv.symm h4, vk_R.same hv.symm h5, vk_R.same hv.symm h6, vk_R.same hv.symm h7, vk_R.same hv.symm h8, vk_R.same hv.symm h9, vk_R.same hv.symm h10, vk_R.same hv.symm h11⟩
theorem gK.warm {G : GT} {s U : State} {H : Heap} (hW : s.WarmedH U.vm) (h : gK G s H) : gK G U H :=
  ⟨va_K.moved hW.alike h.1, fun w hw => nest_warm (nestL_ok w hw) hW (h.2.1 w hw), h.2.2.1.moved hW.alike, h.2.2.2.1.warm hW, h.2.2.2.2.moved hW.alike⟩
theorem gK.same {G : GT} {s U : State} {H : Heap} (hv : s.vm = U.vm) (h : gK G s H) : gK G U H := by
  have ha : s.vm.Alike U.vm := hv ▸ Vm.Alike.refl s.vm
  exact ⟨va_K.moved ha h.1, fun w hw => nest_same (nestL_ok w hw) hv (h.2.1 w hw), h.2.2.1.moved ha, h.2.2.2.1.same hv, h.2.2.2.2.moved ha⟩
theorem gK.kept {G : GT} {U : State} {H H1 : Heap} (h : gK G U H) (hq : ∀ a : Nat, a < H.size → ¬ gA G a → H1[a]? = H[a]?) : gK G U H1 := ⟨h.1, h.2.1, h.2.2.1, h.2.2.2.1, h.2.2.2.2.kept hq⟩
/-- the words that every method may use -/
def TBL : List Cond := lw_tbl.filter goodWord
def WK (K : KT) : List Cond := .code K.1 K.2.1 K.2.2.1 K.2.2.2 :: TBL
theorem TBL_of {w : Cond} (h : w ∈ lw_tbl) (hg : goodWord w = true) : w ∈ TBL := List.mem_filter.mpr ⟨h, hg⟩
theorem TBL_good {K : KT} (h : Cond.code K.1 K.2.1 K.2.2.1 K.2.2.2 ∈ TBL) : GoodIn TBL (WK K) := by
  intro w hw
  have hm : w ∈ TBL := by
    rcases List.mem_cons.mp hw with rfl | hw
    · exact h
    · exact hw
  exact ⟨hm, good_of_word (List.mem_filter.mp hm).2⟩
def rmD (d mc ms : Nat) : Room := { frames := d, cells := mc, slots := ms, locals := 64 * d }
def gQ (G : GT) (Q : QT) : Array Value → State → Outcome → State → Prop := fun _ st o t => (∃ (r : Option Value) (n : Nat) (mi : MI) (mr : MR), o = .returned (r.map (gV G)) ∧ Q r n mi mr ∧ gH G n mi mr t.heap) ∧ va_F (gA G) st t
/-- a method's contract -/
def Ct (K : KT) (d mc ms : Nat) (as : List Value) (n : Nat) (mi : MI) (mr : MR) (Q : QT) : Prop := ∀ (l : Launch) (G : GT), Met l K.1 (WK K) (rmD d mc ms) (va_Pc (as.map (gV G)) (fun U => gH G n mi mr U.heap ∧ gK G U U.heap)) (gQ G Q) mc ms (gA G)
/-- the locals, by their places -/
def gL (G : GT) (L : List (Option Value)) : List (Nat × Value) := L.zipIdx.filterMap (fun q => q.1.map (fun v => (q.2, gV G v)))
theorem gL_in {G : GT} {L : List (Option Value)} {i : Nat} {v : Value} : (i, v) ∈ gL G L ↔ ∃ w, L[i]? = some (some w) ∧ v = gV G w := by
  unfold gL
  rw [List.mem_filterMap]
  constructor
  · rintro ⟨⟨o, j⟩, h1, h2⟩
    cases o with
    | none => simp at h2
    | some w =>
      simp only [Option.map_some, Option.some.injEq, Prod.mk.injEq] at h2
      obtain ⟨rfl, rfl⟩ := h2
      exact ⟨w, by simpa using List.mem_zipIdx_iff_getElem?.mp h1, rfl⟩
  · rintro ⟨w, h1, rfl⟩
    exact ⟨(some w, i), List.mem_zipIdx_iff_getElem?.mpr (by simpa using h1), rfl⟩
/-- what holds all through a method's walk -/
def gX (K : KT) (d mc ms : Nat) (G : GT) (p : Program) (R : Room) (s : State) (m : MethodId) (args : Array Value) (meth : Method) (c : Code) : Prop :=
  p.tables.exec = Jvm.exec ∧ c.code = K.2.1 ∧ c.maxLocals = K.2.2.1 ∧ s.vm.findClass K.1.cls = some m.cls ∧ (∀ w ∈ TBL, w.before args s = true) ∧ (d ≤ R.frames ∧ 64 * d ≤ R.locals ∧ R.cells = mc ∧ R.slots = ms) ∧ meth.name = K.1.name ∧ gK G s s.heap ∧ gS0 G ≤ s.heap.size
/-- what a return instruction wants -/
def retOK (K : KT) (pc : Nat) : Option Value → Prop
  | none => decode K.2.1 pc = .ok (.return_, 1) ∧ K.2.2.2 = none
  | some (.int v) => decode K.2.1 pc = .ok (.ireturn, 1) ∧ ∃ ty, K.2.2.2 = some ty ∧ narrow ty (.int v) = .int v
  | some (.long _) => decode K.2.1 pc = .ok (.lreturn, 1) ∧ K.2.2.2 = some .long
  | _ => False
def gRet (K : KT) (mc ms : Nat) (Q : QT) (G : GT) (p : Program) (l : Launch) (e : Env) (R : Room) (s : State) (m : MethodId) (args : Array Value) (below : List Frame) (meth : Method) (c : Code) (Z : State → Prop) : Prop :=
  ∀ (H : Heap) (locs : List Loc) (cells slots : Nat) (ls : Array Slot) (pc n : Nat) (mi : MI) (mr : MR) (r : Option Value), gH G n mi mr H → va_S (gA G) s.heap H locs → cells ≤ mc → slots ≤ ms → Q r n mi mr → retOK K pc r → W p l e R s m args below meth c H locs cells slots Z (F0 m pc ls (r.toList.map (gV G)))
/-- THE WALK: from this pc, these locals and this stack over this abstract heap, with so many cells and slots left to make, the method ends as Q says -/
def V (K : KT) (d cl sl : Nat) (Q : QT) (pc : Nat) (L : List (Option Value)) (st : List Value) (n : Nat) (mi : MI) (mr : MR) : Prop :=
  ∀ (G : GT) (p : Program) (l : Launch) (e : Env) (R : Room) (s : State) (m : MethodId) (args : Array Value) (below : List Frame) (meth : Method) (c : Code) (Z : State → Prop) (mc ms : Nat), gX K d mc ms G p R s m args meth c → gRet K mc ms Q G p l e R s m args below meth c Z →
    ∀ (H : Heap) (locs : List Loc) (cells slots : Nat) (ls : Array Slot), gH G n mi mr H → va_S (gA G) s.heap H locs → cells + cl ≤ mc → slots + sl ≤ ms → lv_has ls K.2.2.1 (gL G L) → W p l e R s m args below meth c H locs cells slots Z (F0 m pc ls (st.map (gV G)))
theorem gV_cat (G : GT) (v : Value) : (gV G v).category = v.category := by cases v <;> rfl
theorem lv_args_map (G : GT) : ∀ (i : Nat) (vs : List Value), lv_args i (vs.map (gV G)) = (lv_args i vs).map (fun q => (q.1, gV G q.2)) := by
  intro i vs
  induction vs generalizing i with
  | nil => rfl
  | cons v vs ih =>
    simp only [List.map_cons, lv_args, gV_cat]
    try rw [ih]
theorem sl_map (G : GT) (vs : List Value) : (lg_sl (vs.map (gV G))).length = (lg_sl vs).length := by
  induction vs with
  | nil => rfl
  | cons v vs ih =>
    simp only [lg_sl, List.map_cons, List.flatMap_cons, List.length_append, gV_cat] at ih ⊢
    rw [ih]
    split <;> rfl
/-- what a method's start gives -/
theorem gX_of {K : KT} {d mc ms : Nat} {G : GT} {p : Program} {l : Launch} {e : Env} {s : State} {m : MethodId} {args : Array Value} {below : List Frame} {meth : Method} {c : Code} {s₁ : State}
    (B : BodyLoose p l K.1 (headSpec (WK K) (rmD d mc ms)) K.2.1 K.2.2.1 K.2.2.2 e s m args below meth c s₁) (hml : c.maxLocals = K.2.2.1) (hk : gK G s s.heap) (h0 : gS0 G ≤ s.heap.size) : gX K d mc ms G p (rmD d mc ms) s m args meth c := by
  have hts := atoms_spec (ws := WK K) B.pre
  exact ⟨B.exec, B.bytes, hml, findClass_of_methodNamed B.named, fun w hw => hts w (List.mem_cons_of_mem _ hw), ⟨Nat.le_refl _, Nat.le_refl _, rfl, rfl⟩, (name_of_methodNamed B.named B.method).1, hk, h0⟩
theorem gRet_of {K : KT} {d mc ms : Nat} {Q : QT} {G : GT} {p : Program} {l : Launch} {e : Env} {s : State} {m : MethodId} {args : Array Value} {below : List Frame} {meth : Method} {c : Code} {s₁ : State}
    (B : BodyLoose p l K.1 (headSpec (WK K) (rmD d mc ms)) K.2.1 K.2.2.1 K.2.2.2 e s m args below meth c s₁) : gRet K mc ms Q G p l e (rmD d mc ms) s m args below meth c (MQ below (gQ G Q) args s mc ms (gA G)) := by
  intro H locs cells slots ls pc n mi mr r hH hS hc hs hq hr
  have hx := B.exec
  have hb := B.bytes
  have hrt := B.returns
  have hlocks := B.notSynchronized
  refine W.widen (k := mc) (n := ms) hc hs ?_
  have hend : ∀ t : State, t.heap = H → gQ G Q args s (.returned (r.map (gV G))) t := fun t ht => ⟨⟨r, n, mi, mr, rfl, hq, by rw [ht]; exact hH⟩, hS.F ht⟩
  match r, hr, hend with
  | none, ⟨hd, h0⟩, hend => exact W.vret hx hb (hrt.trans h0) (fun t ht _ => hend t ht) hS.2.2 hd
  | some (.int v), ⟨hd, ty, h0, hn⟩, hend => exact W.zret hx hb (hrt.trans h0) hn (fun t ht _ => hend t ht) hS.2.2 hd
  | some (.long v), ⟨hd, h0⟩, hend => exact W.lret hx hb (hrt.trans h0) (fun t ht _ => hend t ht) hS.2.2 hd
/-- the contract out of the walk -/
theorem Ct.of {K : KT} {d mc ms : Nat} {as : List Value} {n : Nat} {mi : MI} {mr : MR} {Q : QT} (L : List (Option Value)) (hy : plainName K.1.cls = true) (hargs : (lg_sl as).length ≤ K.2.2.1) (hL : ∀ i v, L[i]? = some (some v) → (i, v) ∈ lv_args 0 as)
    (h : V K d mc ms Q 0 L [] n mi mr) : Ct K d mc ms as n mi mr Q := by
  intro l G
  refine Met.ofW (cc := K.2.1) (maxL := K.2.2.1) (ret := K.2.2.2) hy rfl ?_
  intro p e s m args below meth c s₁ B hml hv
  obtain ⟨rfl, hH, hK⟩ := hv
  have h0 : gS0 G ≤ s.heap.size := by rw [hH.2.1]; omega
  have hl := lv_entry (as.map (gV G)) (n := K.2.2.1) (by rw [sl_map]; exact hargs)
  rw [lg_entry_eq]
  refine h G p l e (rmD d mc ms) s m _ below meth c _ mc ms (gX_of B hml hK h0) (gRet_of B) s.heap [] 0 0 _ hH va_S.rf (by omega) (by omega) ⟨hl.1, hl.2.1, ?_⟩
  rintro ⟨i, v⟩ hq
  obtain ⟨w, h1, rfl⟩ := gL_in.mp hq
  have h2 := hL i w h1
  refine hl.2.2 (i, gV G w) ?_
  rw [lv_args_map]
  exact List.mem_map.mpr ⟨(i, w), h2, rfl⟩
