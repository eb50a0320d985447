theorem zael_k {kd i : Nat} {vs : List Value} {v : Value} {K : Value → zR} (hv : vs[i]? = some v) (h2 : i < 2 ^ 31) : zael (kd, vs) kd (nI i) K = K v := by
  unfold zael zix
  have hi := (List.getElem?_eq_some_iff.mp hv).1
  rw [nI_clamp h2, if_pos ⟨rfl, by rw [decide_eq_true (nI_pos h2), decide_eq_true hi]; rfl⟩, List.getD_eq_getElem?_getD, hv]
  rfl
theorem zael_0 {kd : Nat} {vs : List Value} {v : Value} {K : Value → zR} : zael (kd, v :: vs) kd 0 K = K v := by
  rw [← nI_0, zael_k rfl (by decide)]
theorem nI_63 (x : Int32) : ∃ j, j < 64 ∧ x &&& nI 63 = nI j := by
  refine ⟨(x &&& nI 63).toBitVec.toNat, ?_, ?_⟩
  · rw [Int32.toBitVec_and, BitVec.toNat_and]
    exact Nat.and_lt_two_pow (n := 6) _ (by decide)
  · apply Int32.toBitVec_inj.mp
    show _ = BitVec.ofNat 32 _
    rw [BitVec.ofNat_toNat, BitVec.setWidth_eq]
