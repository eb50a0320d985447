section
theorem zz_t3 : True := by
  have h1 := @Lean.Grind.CommRing.Expr.rec
  have h2 := @Std.DTreeMap.Internal.Impl.rec
  trace_state
  trivial
def zz_ex (f : Nat → Option Nat) (n : Nat) : Option Nat :=
  match f n with
  | some 0 => none
  | some (k+1) => zz_ex f (k + n)
  | none => some n
partial_fixpoint
theorem zz_t4 (f : Nat → Option Nat) (n : Nat) (h : f n = none) : zz_ex f n = some n := by
  rw [zz_ex, h]
end
