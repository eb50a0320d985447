theorem zael_k {kd i : Nat} {vs : List Value} {v : Value} {K : Value → zR} (hv : vs[i]? = some v) (h2 : i < 2 ^ 31) : zael (kd, vs) kd (nI i) K = K v := by
  unfold zael zix
  have hi := (List.getElem?_eq_some_iff.mp hv).1
  rw [nI_clamp h2, if_pos ⟨rfl, by rw [decide_eq_true (nI_pos h2), decide_eq_true hi]; rfl⟩, List.getD_eq_getElem?_getD, hv]
  rfl
theorem zael_0 {kd : Nat} {vs : List Value} {v : Value} {K : Value → zR} : zael (kd, v :: vs) kd 0 K = K v := by
  rw [← nI_0, zael_k rfl (by decide)]
theorem nI_63 (x : Int32) : ∃ j, j < 64 ∧ x &&& nI 63 = nI j := by
  refine ⟨(x &&& nI 63).toBitVec.toNat, ?_, ?_⟩
  · rw [Int32.toBitVec_and, BitVec.toNat_and]
    exact Nat.and_lt_two_pow (n := 6) _ (by decide)
  · apply Int32.toBitVec_inj.mp
    show _ = BitVec.ofNat 32 _
    rw [BitVec.ofNat_toNat, BitVec.setWidth_eq]
theorem nI_z4 : (0 : Int32) + nI 4 = nI 4 := by decide +kernel
theorem nI_44 : (nI 4 - nI 4 < nI 4) = True := by decide +kernel
theorem nI_40 : (nI 4 - nI 4 < 0) = False := by decide +kernel
section ZCW
variable {sv : Nat → Value} {C : zCall} {h : zH} {l1 l2 l3 l4 l6 l7 l8 : Slot} {b : Nat}
theorem l_out {vs : List Value} (hx : h.1 b = (28, vs)) (hn : vs.length < 4) : zrun zP sv C 299 28 [.val (.ref b), l1, l2, l3, l4, .val (.int 0), l6, l7, l8] [] h = some (.inl (some (.int (nI 1))), h) := by
  have e1 : nI vs.length - nI 4 < 0 := by
    rcases (show vs.length = 0 ∨ vs.length = 1 ∨ vs.length = 2 ∨ vs.length = 3 by omega) with h1 | h1 | h1 | h1 <;> rw [h1] <;> decide +kernel
  rw [zs_299_28, zs_299_30, zs_299_31, hx, zaln_k (by decide), zs_299_32, zs_299_33, zs_299_34, if_pos e1, zs_299_2682, zs_299_2683]
  rfl
theorem l_out4 {vs : List Value} (hx : h.1 b = (28, vs)) (hn : vs.length = 4) : zrun zP sv C 299 2676 [.val (.ref b), l1, l2, l3, l4, .val (.int 0), l6, l7, l8] [] h = some (.inl (some (.int (nI 1))), h) := by
  rw [zs_299_2676, zs_299_2679, nI_z4, zs_299_28, zs_299_30, zs_299_31, hx, zaln_k (by decide), zs_299_32, zs_299_33, zs_299_34, hn, if_pos (of_eq_true nI_44), zs_299_2682, zs_299_2683]
  rfl
theorem l_op {x0 : Int32} {vs : List Value} (hx : h.1 b = (28, .int x0 :: vs)) (hn : vs.length = 3) : zrun zP sv C 299 28 [.val (.ref b), l1, l2, l3, l4, .val (.int 0), l6, l7, l8] [] h = zrun zP sv C 299 (zswp (zP.2.2.2.1 3) 2676 (x0 &&& nI 63)) [.val (.ref b), l1, l2, l3, l4, .val (.int 0), l6, l7, l8] [] h := by
  rw [zs_299_28, zs_299_30, zs_299_31, hx, zaln_k (by decide), zs_299_32, zs_299_33, zs_299_34, List.length_cons, hn, if_neg (of_eq_false nI_40), zs_299_37, zs_299_38, zs_299_40, hx, zael_0, zs_299_41, zs_299_43, zs_299_44]
end ZCW
theorem zsw_d : ∀ j, j < 64 → 46 ≤ j → zswp (zP.2.2.2.1 3) 2676 (nI j) = 2676 := by decide +kernel
