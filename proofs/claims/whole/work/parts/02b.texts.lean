/-! ===== the texts: 12 String constants ===== -/
def lenS : List Nat := [4, 5, 3, 3, 5, 6, 3, 5, 3, 5, 6, 4]
def bytS : List (List Int32) := [[115, 108, 111, 119], [104, 101, 97, 118, 121], [111, 105, 108], [98, 97, 114], [98, 101, 97, 114, 115], [112, 107, 119, 110, 98, 113], [60, 61, 62], [115, 108, 111, 119, 32], [97, 114, 32], [101, 97, 114, 115, 32], [104, 101, 97, 118, 121, 32], [111, 105, 108, 32]]
def tL : List (String × Nat × String × Nat) := [("LanternBridge$Night", 82, "slow", 0), ("LanternBridge$Night", 88, "heavy", 1), ("LanternBridge$Night", 89, "oil", 2), ("LanternBridge$Night", 90, "bar", 3), ("LanternBridge$Night", 92, "bears", 4), ("LanternBridge$Night", 116, "pkwnbq", 5), ("LanternBridge$Night", 122, "<=>", 6), ("LanternBridgeModel", 119, "slow ", 7), ("LanternBridgeModel", 93, "pkwnbq", 5), ("LanternBridgeModel", 99, "<=>", 6), ("LanternBridgeModel", 111, "ar ", 8), ("LanternBridgeModel", 113, "ears ", 9), ("LanternBridgeModel", 124, "heavy ", 10), ("LanternBridgeModel", 126, "oil ", 11)]
def tR (adK : Nat → Nat) (U : State) : Prop := ∀ q ∈ tL, vk_R q.1 q.2.1 q.2.2.1 (adK q.2.2.2) U
def tS (adK adV : Nat → Nat) (A : Nat → Prop) (U : State) (H : Heap) : Prop := vk_S 12 lenS bytS adK adV A U H ∧ va_Z "java/lang/String" "COMPACT_STRINGS" "Z" (.int 1) A U H ∧ va_Zq "jdk/internal/util/Preconditions" "SIOOBE_FORMATTER" "Ljava/util/function/BiFunction;" A U H
theorem tR.warm {adK : Nat → Nat} {s U : State} (hW : s.WarmedH U.vm) (h : tR adK s) : tR adK U := fun q hq => (h q hq).warm hW
theorem tR.same {adK : Nat → Nat} {u U : State} (hv : U.vm = u.vm) (h : tR adK u) : tR adK U := fun q hq => (h q hq).same hv
theorem tS.moved {adK adV : Nat → Nat} {A : Nat → Prop} {u U : State} {H : Heap} (hvm : u.vm.Alike U.vm) (h : tS adK adV A u H) : tS adK adV A U H := ⟨h.1.moved hvm, h.2.1.moved hvm, h.2.2.moved hvm⟩
theorem tS.kept {adK adV : Nat → Nat} {A : Nat → Prop} {U : State} {H H1 : Heap} (h : tS adK adV A U H) (hq : ∀ a : Nat, a < H.size → ¬ A a → H1[a]? = H[a]?) : tS adK adV A U H1 := ⟨h.1.kept hq, h.2.1.kept hq, h.2.2.kept hq⟩
theorem tS.narrow {adK adV : Nat → Nat} {A B : Nat → Prop} {U : State} {H : Heap} (h : tS adK adV A U H) (hAB : ∀ q, B q → A q) : tS adK adV B U H := ⟨h.1.narrow hAB, h.2.1.narrow hAB, h.2.2.narrow hAB⟩
/-- length and char of a text -/
def sLen (i : Nat) : Int32 := nI (lenS.getD i 0)
def sCh (i k : Nat) : Int32 := (bytS.getD i []).getD k 0
theorem tr_Ni_82 {adK : Nat → Nat} {s : State} (h : tR adK s) : vk_R "LanternBridge$Night" 82 "slow" (adK 0) s := h ("LanternBridge$Night", 82, "slow", 0) (List.mem_of_getElem? (i := 0) rfl)
theorem tr_Ni_88 {adK : Nat → Nat} {s : State} (h : tR adK s) : vk_R "LanternBridge$Night" 88 "heavy" (adK 1) s := h ("LanternBridge$Night", 88, "heavy", 1) (List.mem_of_getElem? (i := 1) rfl)
theorem tr_Ni_89 {adK : Nat → Nat} {s : State} (h : tR adK s) : vk_R "LanternBridge$Night" 89 "oil" (adK 2) s := h ("LanternBridge$Night", 89, "oil", 2) (List.mem_of_getElem? (i := 2) rfl)
theorem tr_Ni_90 {adK : Nat → Nat} {s : State} (h : tR adK s) : vk_R "LanternBridge$Night" 90 "bar" (adK 3) s := h ("LanternBridge$Night", 90, "bar", 3) (List.mem_of_getElem? (i := 3) rfl)
theorem tr_Ni_92 {adK : Nat → Nat} {s : State} (h : tR adK s) : vk_R "LanternBridge$Night" 92 "bears" (adK 4) s := h ("LanternBridge$Night", 92, "bears", 4) (List.mem_of_getElem? (i := 4) rfl)
theorem tr_Ni_116 {adK : Nat → Nat} {s : State} (h : tR adK s) : vk_R "LanternBridge$Night" 116 "pkwnbq" (adK 5) s := h ("LanternBridge$Night", 116, "pkwnbq", 5) (List.mem_of_getElem? (i := 5) rfl)
theorem tr_Ni_122 {adK : Nat → Nat} {s : State} (h : tR adK s) : vk_R "LanternBridge$Night" 122 "<=>" (adK 6) s := h ("LanternBridge$Night", 122, "<=>", 6) (List.mem_of_getElem? (i := 6) rfl)
theorem tr_Md_119 {adK : Nat → Nat} {s : State} (h : tR adK s) : vk_R "LanternBridgeModel" 119 "slow " (adK 7) s := h ("LanternBridgeModel", 119, "slow ", 7) (List.mem_of_getElem? (i := 7) rfl)
theorem tr_Md_93 {adK : Nat → Nat} {s : State} (h : tR adK s) : vk_R "LanternBridgeModel" 93 "pkwnbq" (adK 5) s := h ("LanternBridgeModel", 93, "pkwnbq", 5) (List.mem_of_getElem? (i := 8) rfl)
theorem tr_Md_99 {adK : Nat → Nat} {s : State} (h : tR adK s) : vk_R "LanternBridgeModel" 99 "<=>" (adK 6) s := h ("LanternBridgeModel", 99, "<=>", 6) (List.mem_of_getElem? (i := 9) rfl)
theorem tr_Md_111 {adK : Nat → Nat} {s : State} (h : tR adK s) : vk_R "LanternBridgeModel" 111 "ar " (adK 8) s := h ("LanternBridgeModel", 111, "ar ", 8) (List.mem_of_getElem? (i := 10) rfl)
theorem tr_Md_113 {adK : Nat → Nat} {s : State} (h : tR adK s) : vk_R "LanternBridgeModel" 113 "ears " (adK 9) s := h ("LanternBridgeModel", 113, "ears ", 9) (List.mem_of_getElem? (i := 11) rfl)
theorem tr_Md_124 {adK : Nat → Nat} {s : State} (h : tR adK s) : vk_R "LanternBridgeModel" 124 "heavy " (adK 10) s := h ("LanternBridgeModel", 124, "heavy ", 10) (List.mem_of_getElem? (i := 12) rfl)
theorem tr_Md_126 {adK : Nat → Nat} {s : State} (h : tR adK s) : vk_R "LanternBridgeModel" 126 "oil " (adK 11) s := h ("LanternBridgeModel", 126, "oil ", 11) (List.mem_of_getElem? (i := 13) rfl)
