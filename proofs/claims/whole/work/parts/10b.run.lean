/-! runs of members of a set, one behind another -/
def srun (a : Nat) : Nat → Nat
  | 0 => 0
  | b + 1 => if a.testBit b then srun a b + 1 else 0
def lrun (a : Nat) : Nat → Nat
  | 0 => 0
  | b + 1 => if lrun a b < srun a (b + 1) then srun a (b + 1) else lrun a b
set_option maxRecDepth 100000 in
theorem jp_run_dec : ∀ a, a < 4096 → jp_run (nI a) = nI (lrun a 12) := by decide +kernel
