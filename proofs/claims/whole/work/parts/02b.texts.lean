/-! ===== the texts: 12 String constants ===== -/
def lenS : List Nat := [4, 5, 3, 3, 5, 6, 3, 5, 3, 5, 6, 4]
def bytS : List (List Int32) := [[115, 108, 111, 119], [104, 101, 97, 118, 121], [111, 105, 108], [98, 97, 114], [98, 101, 97, 114, 115], [112, 107, 119, 110, 98, 113], [60, 61, 62], [115, 108, 111, 119, 32], [97, 114, 32], [101, 97, 114, 115, 32], [104, 101, 97, 118, 121, 32], [111, 105, 108, 32]]
def tL : List (String × Nat × String × Nat) := [("LanternBridge$Night", 82, "slow", 0), ("LanternBridge$Night", 88, "heavy", 1), ("LanternBridge$Night", 89, "oil", 2), ("LanternBridge$Night", 90, "bar", 3), ("LanternBridge$Night", 92, "bears", 4), ("LanternBridge$Night", 116, "pkwnbq", 5), ("LanternBridge$Night", 122, "<=>", 6), ("LanternBridgeModel", 119, "slow ", 7), ("LanternBridgeModel", 93, "pkwnbq", 5), ("LanternBridgeModel", 99, "<=>", 6), ("LanternBridgeModel", 111, "ar ", 8), ("LanternBridgeModel", 113, "ears ", 9), ("LanternBridgeModel", 124, "heavy ", 10), ("LanternBridgeModel", 126, "oil ", 11)]
def tR (adK : Nat → Nat) (U : State) : Prop := ∀ q ∈ tL, vk_R q.1 q.2.1 q.2.2.1 (adK q.2.2.2) U
def tS (adK adV : Nat → Nat) (A : Nat → Prop) (U : State) (H : Heap) : Prop := vk_S 12 lenS bytS adK adV A U H ∧ va_Z "java/lang/String" "COMPACT_STRINGS" "Z" (.int 1) A U H ∧ va_Zq "jdk/internal/util/Preconditions" "SIOOBE_FORMATTER" "Ljava/util/function/BiFunction;" A U H
theorem tR.warm {adK : Nat → Nat} {s U : State} (hW : s.WarmedH U.vm) (h : tR adK s) : tR adK U := fun q hq => (h q hq).warm hW
theorem tR.same {adK : Nat → Nat} {u U : State} (hv : U.vm = u.vm) (h : tR adK u) : tR adK U := fun q hq => (h q hq).same hv
theorem tS.moved {adK adV : Nat → Nat} {A : Nat → Prop} {u U : State} {H : Heap} (hvm : u.vm.Alike U.vm) (h : tS adK adV A u H) : tS adK adV A U H := ⟨h.1.moved hvm, h.2.1.moved hvm, h.2.2.moved hvm⟩
theorem tS.kept {adK adV : Nat → Nat} {A : Nat → Prop} {U : State} {H H1 : Heap} (h : tS adK adV A U H) (hq : ∀ a : Nat, a < H.size → ¬ A a → H1[a]? = H[a]?) : tS adK adV A U H1 := ⟨h.1.kept hq, h.2.1.kept hq, h.2.2.kept hq⟩
theorem tS.narrow {adK adV : Nat → Nat} {A B : Nat → Prop} {U : State} {H : Heap} (h : tS adK adV A U H) (hAB : ∀ q, B q → A q) : tS adK adV B U H := ⟨h.1.narrow hAB, h.2.1.narrow hAB, h.2.2.narrow hAB⟩
/-- length and char of a text -/
def sLen (i : Nat) : Int32 := nI (lenS.getD i 0)
def sCh (i k : Nat) : Int32 := (bytS.getD i []).getD k 0
