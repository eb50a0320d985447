/-- a range may change, cells may be made: at most N objects and M slots -/
def zfx (lo hi N M : Nat) (h h' : zH) : Prop := (∀ q, q < h.2.1 → (q < lo ∨ hi ≤ q) → h'.1 q = h.1 q) ∧ h.2.1 ≤ h'.2.1 ∧ h'.2.1 ≤ h.2.1 + N ∧ h'.2.2 ≤ h.2.2 + M
theorem zfx_fr {lo hi a b : Nat} {h h' : zH} (hf : zfr a b h h') (h1 : lo ≤ a) (h2 : b ≤ hi) : zfx lo hi 0 0 h h' := ⟨fun q _ hq => hf.1 q (by omega), by rw [hf.2]; exact Nat.le_refl _, by rw [hf.2]; exact Nat.le_refl _, by rw [hf.2]; exact Nat.le_refl _⟩
theorem zfx_tr {lo hi N M N' M' : Nat} {h h' h'' : zH} (h1 : zfx lo hi N M h h') (h2 : zfx lo hi N' M' h' h'') : zfx lo hi (N + N') (M + M') h h'' := ⟨fun q hq hr => (h2.1 q (Nat.lt_of_lt_of_le hq h1.2.1) hr).trans (h1.1 q hq hr), Nat.le_trans h1.2.1 h2.2.1, by have := h1.2.2.1; have := h2.2.2.1; omega, by have := h1.2.2.2; have := h2.2.2.2; omega⟩
theorem zfx_mono {lo hi N M lo' hi' N' M' : Nat} {h h' : zH} (h1 : zfx lo hi N M h h') (ha : lo' ≤ lo) (hb : hi ≤ hi') (hc : N ≤ N') (hd : M ≤ M') : zfx lo' hi' N' M' h h' := ⟨fun q hq hr => h1.1 q hq (by omega), h1.2.1, by have := h1.2.2.1; omega, by have := h1.2.2.2; omega⟩
theorem zfx_rfl {lo hi : Nat} {h : zH} : zfx lo hi 0 0 h h := ⟨fun _ _ _ => rfl, Nat.le_refl _, Nat.le_refl _, Nat.le_refl _⟩
theorem zcg_fx {lo hi a b N M : Nat} {h h' : zH} (hf : zfx a b N M h h') (h1 : hi ≤ a ∨ b ≤ lo) (h2 : hi ≤ h.2.1) : zcg lo hi h h' := fun q h3 h4 => hf.1 q (by omega) (by omega)
theorem zfx_new {lo hi : Nat} {h : zH} {L : List zC} {S : Nat} : zfx lo hi L.length S h (zext h L S) := ⟨fun q hq _ => zext_lo hq, by rw [zext_sz]; omega, by rw [zext_sz]; omega, Nat.le_refl _⟩
def zECc (m : Nat) (le ik : Int32) : zC := (1, [.ref (m + 1), .int le, .ref (m + 3), .ref (m + 7), .int ik, .ref (m + 11), .ref (m + 45), .ref (m + 54), .ref (m + 63), .ref (m + 75), .ref (m + 78), .ref (m + 85), .ref (m + 97)])
theorem ymap0 {n : Nat} : (List.replicate n (0 : Int32)).map Value.int = List.replicate n (.int 0) := List.map_replicate
section ZDW
variable {sv : Nat → Value} {d : Nat} {h : zH} {m w mw : Nat} {le ik x : Int32} {ns : List yN} {A B C : List Int32}
theorem d_75 (he : h.1 m = zECc m le ik) (hg : zGau h (m + 78) A B C) (hw : zTre h w mw ns) (hwf : ywf ns) (hn : ns.length ≤ 124) (hd : m + 85 ≤ w ∨ w + 9 ≤ m + 78) (hb1 : w + 9 ≤ h.2.1) (hb2 : m + 119 ≤ h.2.1) (hx : ych ns.length x) (hs0 : 0 < ysz (ygt (ytm ns) x)) (hs : ysz (ygt (ytm ns) x) ≤ 60000) (hdp : ydp (ygt (ytm ns) x) ≤ 40) : ∃ h' A', zcall zP sv (d + 45) 75 [.ref m, .ref w, .int x] h = some (.inl (some (.ref h.2.1)), h') ∧ zGau h' (m + 78) A' B C ∧ zTre h' h.2.1 (ysz (ygt (ytm ns) x)) (ypo 0 (ygt (ytm ns) x)) ∧ (∀ q, q < h.2.1 → (q < m + 78 ∨ m + 85 ≤ q) → h'.1 q = h.1 q) ∧ h'.2.1 = h.2.1 + 9 ∧ h'.2.2 = h.2.2 + 6 + 4 * (1 + ysz (ygt (ytm ns) x)) := by
  generalize ht : ygt (ytm ns) x = t at *
  have l0 : ∀ q, q < h.2.1 → (zext h [(6, [.null, .null, .null, .null, .int 0, .int 0])] 6).1 q = h.1 q := fun q hq => zext_lo hq
  have e0 : (zext h [(6, [.null, .null, .null, .null, .int 0, .int 0])] 6).1 m = zECc m le ik := by rw [l0 m (by omega), he]
  have g0 : zGau (zext h [(6, [.null, .null, .null, .null, .int 0, .int 0])] 6) (m + 78) A B C := zGau_cg hg (fun q h1 h2 => l0 q (by omega))
  have w0 : zTre (zext h [(6, [.null, .null, .null, .null, .int 0, .int 0])] 6) w mw ns := zTre_cg hw (fun q h1 h2 => l0 q (by omega))
  have r0 : (zext h [(6, [.null, .null, .null, .null, .int 0, .int 0])] 6).1 h.2.1 = (6, [.null, .null, .null, .null, .int 0, .int 0]) := zext_0
  have s0 : (zext h [(6, [.null, .null, .null, .null, .int 0, .int 0])] 6).2 = (h.2.1 + 1, h.2.2 + 6) := rfl
  have eq0 : znew h (6, [.null, .null, .null, .null, .int 0, .int 0]) 6 = zext h [(6, [.null, .null, .null, .null, .int 0, .int 0])] 6 := zext_of _ _ _
  generalize zext h [(6, [.null, .null, .null, .null, .int 0, .int 0])] 6 = h1 at *
  obtain ⟨h2, A', e1, g1, q1, f1⟩ := d_117 (sv := sv) (d := d + 40) (rt := x) hwf (by omega) hn w0 g0
  have hv : yg A' x = nI (ysz t) := by rw [yQ_g q1 hx (Nat.le_refl _) hwf.1, ht, yfo_N]
  rw [hv] at e1
  have r1 : h2.1 h.2.1 = (6, [.null, .null, .null, .null, .int 0, .int 0]) := by rw [f1.1 _ (by omega), r0]
  have s1 : h2.2 = (h.2.1 + 1, h.2.2 + 6) := by rw [f1.2, s0]
  have sz1 : h2.2.1 = h.2.1 + 1 := by rw [s1]
  have sl1 : h2.2.2 = h.2.2 + 6 := by rw [s1]
  have e2 := c_Tree (sv := sv) (d := d + 42) (h := h2) (r := h.2.1) (n := ysz t) r1 (by omega) hs0 (by omega)
  rw [sz1] at e2
  have l2 : ∀ q, q < h.2.1 → ∀ c L S, (zext (zup h2 h.2.1 c) L S).1 q = h2.1 q := fun q hq c L S => by rw [zext_lo (by rw [zup_sz, sz1]; omega), zup_ne (by omega)]
  have k2 : ∀ c L S j, (zext (zup h2 h.2.1 c) L S).1 (h.2.1 + 1 + j) = (L[j]?).getD ((zup h2 h.2.1 c).1 (h.2.1 + 1 + j)) := fun c L S j => by
    have := zext_hi (h := zup h2 h.2.1 c) (L := L) (S := S) (k := j)
    rw [zup_sz, sz1] at this
    exact this
  have t2 : ∀ c L S, (zext (zup h2 h.2.1 c) L S).1 h.2.1 = c := fun c L S => by rw [zext_lo (by rw [zup_sz, sz1]; omega), zup_at]
  obtain ⟨h3, rfl⟩ : ∃ h3, h3 = zext (zup h2 h.2.1 (6, [.ref (h.2.1 + 1), .ref (h.2.1 + 1 + 2), .ref (h.2.1 + 1 + 4), .ref (h.2.1 + 1 + 6), .int (nI (ysz t)), .int 0])) [(4, [.ref (h.2.1 + 1 + 1)]), (20, List.replicate (ysz t) (.int 0)), (4, [.ref (h.2.1 + 1 + 3)]), (20, List.replicate (ysz t) (.int 0)), (4, [.ref (h.2.1 + 1 + 5)]), (20, List.replicate (ysz t) (.int 0)), (4, [.ref (h.2.1 + 1 + 7)]), (20, List.replicate (ysz t) (.int 0))] (1 + ysz t + (1 + ysz t + (1 + ysz t + (1 + ysz t)))) := ⟨_, rfl⟩
  have T3 : zTre (zext (zup h2 h.2.1 (6, [.ref (h.2.1 + 1), .ref (h.2.1 + 1 + 2), .ref (h.2.1 + 1 + 4), .ref (h.2.1 + 1 + 6), .int (nI (ysz t)), .int 0])) [(4, [.ref (h.2.1 + 1 + 1)]), (20, List.replicate (ysz t) (.int 0)), (4, [.ref (h.2.1 + 1 + 3)]), (20, List.replicate (ysz t) (.int 0)), (4, [.ref (h.2.1 + 1 + 5)]), (20, List.replicate (ysz t) (.int 0)), (4, [.ref (h.2.1 + 1 + 7)]), (20, List.replicate (ysz t) (.int 0))] (1 + ysz t + (1 + ysz t + (1 + ysz t + (1 + ysz t))))) h.2.1 (ysz t) [] := by
    refine ⟨List.replicate (ysz t) 0, List.replicate (ysz t) 0, List.replicate (ysz t) 0, List.replicate (ysz t) 0, t2 _ _ _, ⟨⟨?_, ?_, ?_⟩, ⟨?_, ?_, ?_⟩, ⟨?_, ?_, ?_⟩, ⟨?_, ?_, ?_⟩⟩, ⟨List.length_replicate, List.length_replicate, List.length_replicate, List.length_replicate, Nat.zero_le _⟩, rfl, rfl, rfl, rfl⟩
    · exact k2 _ _ _ 0
    · rw [ymap0]; exact k2 _ _ _ 1
    · rw [List.length_replicate]; omega
    · exact k2 _ _ _ 2
    · rw [ymap0]; exact k2 _ _ _ 3
    · rw [List.length_replicate]; omega
    · exact k2 _ _ _ 4
    · rw [ymap0]; exact k2 _ _ _ 5
    · rw [List.length_replicate]; omega
    · exact k2 _ _ _ 6
    · rw [ymap0]; exact k2 _ _ _ 7
    · rw [List.length_replicate]; omega
  have W3 := zTre_cg (zTre_fr w0 f1 (by omega)) (fun q a1 a2 => l2 q (by omega) (6, [.ref (h.2.1 + 1), .ref (h.2.1 + 1 + 2), .ref (h.2.1 + 1 + 4), .ref (h.2.1 + 1 + 6), .int (nI (ysz t)), .int 0]) [(4, [.ref (h.2.1 + 1 + 1)]), (20, List.replicate (ysz t) (.int 0)), (4, [.ref (h.2.1 + 1 + 3)]), (20, List.replicate (ysz t) (.int 0)), (4, [.ref (h.2.1 + 1 + 5)]), (20, List.replicate (ysz t) (.int 0)), (4, [.ref (h.2.1 + 1 + 7)]), (20, List.replicate (ysz t) (.int 0))] (1 + ysz t + (1 + ysz t + (1 + ysz t + (1 + ysz t)))))
  have G3 := zGau_cg g1 (fun q a1 a2 => l2 q (by omega) (6, [.ref (h.2.1 + 1), .ref (h.2.1 + 1 + 2), .ref (h.2.1 + 1 + 4), .ref (h.2.1 + 1 + 6), .int (nI (ysz t)), .int 0]) [(4, [.ref (h.2.1 + 1 + 1)]), (20, List.replicate (ysz t) (.int 0)), (4, [.ref (h.2.1 + 1 + 3)]), (20, List.replicate (ysz t) (.int 0)), (4, [.ref (h.2.1 + 1 + 5)]), (20, List.replicate (ysz t) (.int 0)), (4, [.ref (h.2.1 + 1 + 7)]), (20, List.replicate (ysz t) (.int 0))] (1 + ysz t + (1 + ysz t + (1 + ysz t + (1 + ysz t)))))
  have S3 : (zext (zup h2 h.2.1 (6, [.ref (h.2.1 + 1), .ref (h.2.1 + 1 + 2), .ref (h.2.1 + 1 + 4), .ref (h.2.1 + 1 + 6), .int (nI (ysz t)), .int 0])) [(4, [.ref (h.2.1 + 1 + 1)]), (20, List.replicate (ysz t) (.int 0)), (4, [.ref (h.2.1 + 1 + 3)]), (20, List.replicate (ysz t) (.int 0)), (4, [.ref (h.2.1 + 1 + 5)]), (20, List.replicate (ysz t) (.int 0)), (4, [.ref (h.2.1 + 1 + 7)]), (20, List.replicate (ysz t) (.int 0))] (1 + ysz t + (1 + ysz t + (1 + ysz t + (1 + ysz t))))).2 = (h.2.1 + 1 + 8, h.2.2 + 6 + (1 + ysz t + (1 + ysz t + (1 + ysz t + (1 + ysz t))))) := by
    show (h2.2.1 + 8, h2.2.2 + (1 + ysz t + (1 + ysz t + (1 + ysz t + (1 + ysz t))))) = _
    rw [sz1, sl1]
  have L3 := fun q hq => l2 q hq (6, [.ref (h.2.1 + 1), .ref (h.2.1 + 1 + 2), .ref (h.2.1 + 1 + 4), .ref (h.2.1 + 1 + 6), .int (nI (ysz t)), .int 0]) [(4, [.ref (h.2.1 + 1 + 1)]), (20, List.replicate (ysz t) (.int 0)), (4, [.ref (h.2.1 + 1 + 3)]), (20, List.replicate (ysz t) (.int 0)), (4, [.ref (h.2.1 + 1 + 5)]), (20, List.replicate (ysz t) (.int 0)), (4, [.ref (h.2.1 + 1 + 7)]), (20, List.replicate (ysz t) (.int 0))] (1 + ysz t + (1 + ysz t + (1 + ysz t + (1 + ysz t))))
  generalize zext (zup h2 h.2.1 (6, [.ref (h.2.1 + 1), .ref (h.2.1 + 1 + 2), .ref (h.2.1 + 1 + 4), .ref (h.2.1 + 1 + 6), .int (nI (ysz t)), .int 0])) [(4, [.ref (h.2.1 + 1 + 1)]), (20, List.replicate (ysz t) (.int 0)), (4, [.ref (h.2.1 + 1 + 3)]), (20, List.replicate (ysz t) (.int 0)), (4, [.ref (h.2.1 + 1 + 5)]), (20, List.replicate (ysz t) (.int 0)), (4, [.ref (h.2.1 + 1 + 7)]), (20, List.replicate (ysz t) (.int 0))] (1 + ysz t + (1 + ysz t + (1 + ysz t + (1 + ysz t)))) = h3 at *
  obtain ⟨h4, e3, T4, f4⟩ := d_86 (sv := sv) hwf (show w + 9 ≤ h.2.1 ∨ h.2.1 + 9 ≤ w by omega) t x (d + 44) 1 h3 [] hx ht (by omega) (by omega) (by show 0 + ysz t ≤ ysz t; omega) W3 T3
  refine ⟨h4, A', ?_, zGau_fr G3 f4 (by omega), T4, fun q hq hr => by rw [f4.1 q (by omega), L3 q hq, f1.1 q (by omega), l0 q hq], by rw [f4.2, S3], by rw [f4.2, S3]; show h.2.2 + 6 + (1 + ysz t + (1 + ysz t + (1 + ysz t + (1 + ysz t)))) = _; omega⟩
  have rc6 : ∀ X : zR, zrc (h2.1 h.2.1) 6 X = X := fun X => by rw [r1]; exact zrc_k
  simp (disch := exact znw_u) only [zc_75, zs_75_0, zs_75_3, zs_75_4, zs_75_4n, zs_75_5, zs_75_8, zs_75_8n, zs_75_9, zs_75_10, zs_75_13, zs_75_16, zs_75_16n, zs_75_17, zs_75_17n, zs_75_18, zs_75_19, zs_75_19n, zs_75_20, zs_75_21, zs_75_24, zs_75_25, zs_75_25n, zs_75_26, zs_75_26n, eq0, e0, zECc, zrc_1, zf_1_0, zp_1_0, zp_1_0n, zf_1_1, zp_1_1, zf_1_2, zp_1_2, zp_1_2n, zf_1_3, zp_1_3, zp_1_3n, zf_1_4, zp_1_40, zp_1_41, zf_1_5, zp_1_5, zp_1_5n, zf_1_6, zp_1_6, zp_1_6n, zf_1_7, zp_1_7, zp_1_7n, zf_1_8, zp_1_8, zp_1_8n, zf_1_9, zp_1_9, zp_1_9n, zf_1_10, zp_1_10, zp_1_10n, zf_1_11, zp_1_11, zp_1_11n, zf_1_12, zp_1_12, zp_1_12n, zGau_rc g0, e1, rc6, e2, e3, zbk_v, zts_s, zts_n]
end ZDW
