/-! ===== the reference's orders: the next one ===== -/
def prm : Nat → List Nat → List (List Nat)
  | 0, _ => [[]]
  | k + 1, R => R.flatMap (fun p => (prm k (R.erase p)).map (p :: ·))
def atF (o : Nat → Nat) : Nat → Option Nat
  | 0 => none
  | k + 1 => if o (k + 1) < o k then atF o k else some k
def wiF (o : Nat → Nat) (a : Nat) : Nat → Nat
  | 0 => 0
  | k + 1 => if o (k + 1) < o a then wiF o a k else k + 1
def swp (o : Nat → Nat) (a b : Nat) : Nat → Nat := fun i => if i = b then o a else if i = a then o b else o i
def revF : Nat → (Nat → Nat) → Nat → Nat → (Nat → Nat)
  | 0, o, _, _ => o
  | k + 1, o, a, b => if a < b then revF k (swp o a b) (a + 1) (b - 1) else o
def nextF (n : Nat) (o : Nat → Nat) : Option (Nat → Nat) := match atF o (n - 1) with
  | none => none
  | some a => some (revF 4 (swp o a (wiF o a (n - 1))) (a + 1) (n - 1))
def tof (q : List Nat) : Nat → Nat := fun i => q.getD i i
def same7 (o o' : Nat → Nat) : Bool := (List.range 7).all (fun i => Nat.beq (o i) (o' i))
def chkL (n : Nat) : List (List Nat) → Bool
  | [] => false
  | q :: r => match r with
    | [] => (nextF n (tof q)).isNone
    | q' :: _ => (match nextF n (tof q) with
      | none => false
      | some o => same7 o (tof q')) && chkL n r
theorem chk_all : ∀ n, n < 8 → chkL n (prm n (List.range n)) = true := by decide +kernel
