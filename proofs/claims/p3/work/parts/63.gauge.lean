def yIo (k : Int32) : Prop := k = nI 43 ∨ k = nI 45 ∨ k = nI 42
def yop (k a b : Int32) : Int32 := if k = nI 110 then -a else if k = nI 43 then a + b else if k = nI 45 then a - b else if k = nI 42 then a * b else 0
def ymx (x y : Int32) : Int32 := if x < y then y else x
def yfN (_ _ a b : Int32) : Int32 := nI 1 + a + b
def yfL (_ _ a b : Int32) : Int32 := nI 1 + ymx a b
def zGc (g : Nat) : zC := (10, [.ref (g + 1), .ref (g + 3), .ref (g + 5)])
/-- a Gauge at g: three rows of 124 -/
def zGau (h : zH) (g : Nat) (A B C : List Int32) : Prop := h.1 g = zGc g ∧ zRow h (g + 1) A ∧ zRow h (g + 3) B ∧ zRow h (g + 5) C ∧ A.length = 124 ∧ B.length = 124 ∧ C.length = 124
theorem zGau_rc {h : zH} {g : Nat} {A B C : List Int32} {X : zR} (hg : zGau h g A B C) : zrc (h.1 g) 10 X = X := by
  rw [hg.1]
  exact zrc_k
theorem zGau_fr {h h' : zH} {lo hi g : Nat} {A B C : List Int32} (hg : zGau h g A B C) (hf : zfr lo hi h h') (hq : g + 7 ≤ lo ∨ hi ≤ g) : zGau h' g A B C := ⟨by rw [hf.1 g (by omega), hg.1], zRow_fr hg.2.1 hf (by omega), zRow_fr hg.2.2.1 hf (by omega), zRow_fr hg.2.2.2.1 hf (by omega), hg.2.2.2.2⟩
theorem zGau_1 {h : zH} {g : Nat} {A B C A' : List Int32} (hg : zGau h g A B C) (hA : A'.length = 124) : zGau (zup h (g + 1 + 1) (20, A'.map Value.int)) g A' B C := ⟨by rw [zup_ne (by omega), hg.1], zRow_new hg.2.1 (by rw [hA, hg.2.2.2.2.1]), zRow_up hg.2.2.1 (by omega) (by omega), zRow_up hg.2.2.2.1 (by omega) (by omega), hA, hg.2.2.2.2.2⟩
theorem zGau_2 {h : zH} {g : Nat} {A B C A' : List Int32} (hg : zGau h g A B C) (hA : A'.length = 124) : zGau (zup h (g + 3 + 1) (20, A'.map Value.int)) g A A' C := ⟨by rw [zup_ne (by omega), hg.1], zRow_up hg.2.1 (by omega) (by omega), zRow_new hg.2.2.1 (by rw [hA, hg.2.2.2.2.2.1]), zRow_up hg.2.2.2.1 (by omega) (by omega), hg.2.2.2.2.1, hA, hg.2.2.2.2.2.2⟩
theorem zGau_3 {h : zH} {g : Nat} {A B C A' : List Int32} (hg : zGau h g A B C) (hA : A'.length = 124) : zGau (zup h (g + 5 + 1) (20, A'.map Value.int)) g A B A' := ⟨by rw [zup_ne (by omega), hg.1], zRow_up hg.2.1 (by omega) (by omega), zRow_up hg.2.2.1 (by omega) (by omega), zRow_new hg.2.2.2.1 (by rw [hA, hg.2.2.2.2.2.2]), hg.2.2.2.2.1, hg.2.2.2.2.2.1, hA⟩
theorem ynd_ex {ns : List yN} {i : Nat} (hi : i < ns.length) : ∃ nd, ns[i]? = some nd := ⟨ns[i], List.getElem?_eq_getElem hi⟩
