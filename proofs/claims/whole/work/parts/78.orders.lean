/-! orders of jobs -/
def fiN (p : Nat → Nat) : Nat → Option Nat
  | 0 => none
  | k + 1 => if p k ≤ p (k + 1) then some k else fiN p k
def fjN (p : Nat → Nat) (i : Nat) : Nat → Nat
  | 0 => 0
  | k + 1 => if k + 1 ≤ i ∨ p i ≤ p (k + 1) then k + 1 else fjN p i k
def swP (p : Nat → Nat) (i j : Nat) : Nat → Nat := fun x => if x = j then p i else if x = i then p j else p x
def rvN : Nat → (Nat → Nat) → Nat → Nat → (Nat → Nat)
  | 0, p, _, _ => p
  | f + 1, p, a, b => if b ≤ a then p else rvN f (swP p a b) (a + 1) (b - 1)
def nxP (n : Nat) (p : Nat → Nat) : Option (Nat → Nat) := match fiN p (n - 1) with
  | none => none
  | some i => some (rvN 6 (swP p i (fjN p i (n - 1))) (i + 1) (n - 1))
def nxL (L : List Nat) : Option (List Nat) := match nxP L.length (lat L) with
  | none => none
  | some p => some ((List.range L.length).map p)
def dfsL (n : Nat) : Nat → List Nat → List (List Nat)
  | 0, pre => [pre]
  | d + 1, pre => (List.range n).flatMap (fun k => if k ∈ pre then [] else dfsL n d (pre ++ [k]))
def chainB : List (List Nat) → Bool
  | [] => false
  | [L] => decide (nxL L = none)
  | L :: M :: r => decide (nxL L = some M) && chainB (M :: r)
def lenB (n : Nat) (L : List Nat) : Bool := decide (L.length = n) && L.all (fun k => decide (k < n))
theorem ords_d : ∀ n : Nat, n < 7 → chainB (dfsL n n []) = true ∧ (dfsL n n []).head? = some (List.range n) ∧ (dfsL n n []).length ≤ 720 ∧ (dfsL n n []).all (lenB n) = true := by decide +kernel
