theorem zaln_l {kd : Nat} {vs : List Value} {K : Int32 → zR} (hk : 20 ≤ kd) : zaln (kd, vs) K = K (nI vs.length) := zaln_k hk
/-- a State at s: its formulas' addresses, letters, machine, removed -/
def ygv (as : List Nat) (j : Nat) : Value := match as[j]? with
  | some a => .ref a
  | none => .null
abbrev yS : Type := List Nat × List Int32 × Int32 × Int32
def zSta (h : zH) (s : Nat) (S : yS) : Prop := h.1 s = (3, [.ref (s + 1), .int (nI S.1.length), .ref (s + 2), .int S.2.2.1, .int S.2.2.2]) ∧ (∃ F, h.1 (s + 1) = (25, F) ∧ F.length = 6 ∧ ∀ j, j < 6 → F[j]? = some (ygv S.1 j)) ∧ zRow h (s + 2) S.2.1 ∧ S.2.1.length = 6 ∧ S.1.length ≤ 6
def zK6 (h : zH) (as : List Nat) : Prop := ∀ a, a ∈ as → ∃ vs, h.1 a = (6, vs)
theorem zSta_fr {h h' : zH} {lo hi s : Nat} {S : yS} (hs : zSta h s S) (hf : zfr lo hi h h') (hq : s + 4 ≤ lo ∨ hi ≤ s) : zSta h' s S := by
  obtain ⟨h1, ⟨F, h2, h3⟩, h4, h5⟩ := hs
  exact ⟨by rw [hf.1 s (by omega), h1], ⟨F, by rw [hf.1 (s + 1) (by omega), h2], h3⟩, zRow_fr h4 hf (by omega), h5⟩
theorem zSta_rc {h : zH} {s : Nat} {S : yS} {X : zR} (hs : zSta h s S) : zrc (h.1 s) 3 X = X := by
  rw [hs.1]
  exact zrc_k
theorem ygv_k {as : List Nat} {j a : Nat} (h : as[j]? = some a) : ygv as j = .ref a := by
  unfold ygv
  rw [h]
theorem ygv_n {as : List Nat} {j : Nat} (h : as[j]? = none) : ygv as j = .null := by
  unfold ygv
  rw [h]
theorem zK6_fr {h h' : zH} {lo hi : Nat} {as : List Nat} (hs : zK6 h as) (hf : zfr lo hi h h') (hq : ∀ a, a ∈ as → a < lo ∨ hi ≤ a) : zK6 h' as := fun a ha => by
  obtain ⟨vs, e⟩ := hs a ha
  exact ⟨vs, by rw [hf.1 a (hq a ha), e]⟩
theorem zasr_6 {F vs : List Value} {i b : Nat} {K : zC → zR} (hi : i < F.length) (h2 : i < 2 ^ 31) : zasr (25, F) (6, vs) 25 6 (nI i) b K = K (25, F.set i (.ref b)) := zasr_k hi h2
theorem zaelv {F : List Value} {kd i : Nat} {v : Value} {K : Value → zR} (hv : F[i]? = some v) (h2 : i < 2 ^ 31) : zael (kd, F) kd (nI i) K = K v := zael_k hv h2
section ZDJ
variable {sv : Nat → Value} {d : Nat}
theorem d_173k {h : zH} {s i a : Nat} {S : yS} (hs : zSta h s S) (hi : S.1[i]? = some a) : zcall zP sv (d + 1) 173 [.ref s, .int (nI i)] h = some (.inl (some (.ref a)), h) := by
  have h0 := (List.getElem?_eq_some_iff.mp hi).1
  obtain ⟨h1, ⟨F, h2, h3, h4⟩, _, _, h6⟩ := hs
  have e1 := h4 i (by omega)
  rw [ygv_k hi] at e1
  rw [zc_173, zs_173_0, zs_173_1, if_neg (nI_pos (by omega)), zs_173_4, zs_173_5, zs_173_6, h1, zf_3_1, zs_173_9, if_pos (nI_lt h0 (by omega)), zs_173_12, zs_173_13, zs_173_14, h1, zf_3_0, zs_173_17, h2, zaln_k (by decide), zs_173_18, h3, if_pos (nI_lt (by omega) (by omega)), zs_173_21, zs_173_22, h1, zf_3_0, zs_173_25, zs_173_26, h2, zaelv e1 (by omega), zs_173_27, zs_173_31]
theorem d_173n {h : zH} {s : Nat} {x : Int32} {S : yS} (hs : zSta h s S) (hx : x < 0 ∨ ¬ x < nI S.1.length) : zcall zP sv (d + 1) 173 [.ref s, .int x] h = some (.inl (some .null), h) := by
  obtain ⟨h1, _⟩ := hs
  by_cases g : x < 0
  · rw [zc_173, zs_173_0, zs_173_1, if_pos g, zs_173_30, zs_173_31n]
  · have g2 := hx.resolve_left g
    rw [zc_173, zs_173_0, zs_173_1, if_neg g, zs_173_4, zs_173_5, zs_173_6, h1, zf_3_1, zs_173_9, if_neg g2, zs_173_30, zs_173_31n]
theorem d_175 {h : zH} {r i b : Nat} {F : List Value} {w1 w2 w3 w4 : Value} (h1 : h.1 r = (3, [.ref (r + 1), w1, w2, w3, w4])) (h2 : h.1 (r + 1) = (25, F)) (h3 : F.length = 6) (hi : i < 6) (hb : ∃ vs, h.1 b = (6, vs)) : zcall zP sv (d + 1) 175 [.ref r, .int (nI i), .ref b] h = some (.inl none, zup h (r + 1) (25, F.set i (.ref b))) := by
  obtain ⟨vs, hb⟩ := hb
  rw [zc_175, zs_175_0, zs_175_1, if_neg (nI_pos (by omega)), zs_175_4, zs_175_5, zs_175_6, h1, zf_3_0, zs_175_9, h2, zaln_k (by decide), zs_175_10, h3, if_pos (nI_lt hi (by omega)), zs_175_13, zs_175_14, h1, zf_3_0, zs_175_17, zs_175_18, zs_175_19, h2, hb, zasr_6 (by omega) (by omega), zs_175_20]
theorem d_174 {h : zH} {s b : Nat} {S : yS} (hs : zSta h s S) (hl : S.1.length < 6) (hb : ∃ vs, h.1 b = (6, vs)) (hd : b < s ∨ s + 4 ≤ b) : ∃ h', zcall zP sv (d + 2) 174 [.ref s, .ref b] h = some (.inl (some (.int (nI S.1.length))), h') ∧ zSta h' s (S.1 ++ [b], S.2) ∧ zfr s (s + 4) h h' := by
  obtain ⟨h1, ⟨F, h2, h3, h4⟩, h5, h6, h7⟩ := hs
  obtain ⟨vs, hb⟩ := hb
  have a1 : (zup h s (3, [.ref (s + 1), .int (nI (S.1.length + 1)), .ref (s + 2), .int S.2.2.1, .int S.2.2.2])).1 (s + 1) = (25, F) := by rw [zup_ne (by omega), h2]
  have e1 := d_175 (sv := sv) (d := d) (i := S.1.length) (b := b) (zup_at (h := h) (a := s) (c := (3, [.ref (s + 1), .int (nI (S.1.length + 1)), .ref (s + 2), .int S.2.2.1, .int S.2.2.2]))) a1 h3 hl ⟨vs, by rw [zup_ne (by omega), hb]⟩
  have hl2 : (S.1 ++ [b]).length = S.1.length + 1 := by rw [List.length_append]; rfl
  have hsb : nI (S.1.length + 1) - nI 1 = nI S.1.length := by rw [← nI_add, Int32.add_sub_cancel]
  refine ⟨_, ?_, ⟨by rw [zup_ne (by omega), zup_at, hl2], ⟨F.set S.1.length (.ref b), zup_at, by rw [List.length_set, h3], fun j hj => ?_⟩, zRow_up (zRow_up h5 (by omega) (by omega)) (by omega) (by omega), h6, by rw [hl2]; omega⟩, zfr_tr (zfr_up (c := (3, [.ref (s + 1), .int (nI (S.1.length + 1)), .ref (s + 2), .int S.2.2.1, .int S.2.2.2])) (by omega) (by omega)) (zfr_up (by omega) (by omega))⟩
  · simp only [zc_174, zs_174_0, zs_174_0n, zs_174_1, zs_174_2, zs_174_5, zs_174_6, zs_174_7, zs_174_10, zs_174_10n, zs_174_11, zs_174_11n, zs_174_12, zs_174_15, zs_174_16, zs_174_17, zs_174_17n, zs_174_18, zs_174_21, zs_174_21n, zs_174_22, zs_174_25, zs_174_26, zs_174_27, h1, zrc_3, zf_3_0, zp_3_0, zp_3_0n, zf_3_1, zp_3_1, zf_3_2, zp_3_2, zp_3_2n, zf_3_3, zp_3_3, zf_3_4, zp_3_4, zup_at, nI_1', hsb, e1, zup_ne (show s ≠ s + 1 by omega), zbk_v, zts_s, zts_n]
  · by_cases hj2 : j = S.1.length
    · subst hj2
      rw [List.getElem?_set_self (by omega), ygv_k]
      rw [List.getElem?_append_right (Nat.le_refl _), Nat.sub_self]
      rfl
    · rw [List.getElem?_set_ne (by omega), h4 j hj]
      unfold ygv
      by_cases hj3 : j < S.1.length
      · rw [List.getElem?_append_left hj3]
      · rw [List.getElem?_eq_none (by omega), List.getElem?_eq_none (by rw [hl2]; omega)]
end ZDJ
