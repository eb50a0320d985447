section ZQN
variable {sv : Nat → Value} {d : Nat} {m : Nat} {F : Nat → Int32} {h : zH} {i : Nat} {t : yT}
/-- an instruction as the model keeps it -/
def ypl (x : Int32) : Int32 := if nI 3 < x then x + nI 6 else x
def ylf (i : yI) : Int32 := if i.1 = nI 99 then i.2.2.1 else if i.1 = nI 118 then i.2.2.1 - nI 97 else if i.1 = nI 110 then i.2.1 else if i.1 = nI 115 then i.2.2.1 else ypl i.2.2.2.1
def yrt (i : yI) : Int32 := if yis i.1 = true then ypl i.2.2.2.2 else 0
def zCdM (h : zH) (m : Nat) (q : List yI) : Prop := ∃ A B C D : List Int32, (h.1 (m + 12) = (21, A.map Value.int) ∧ h.1 (m + 13) = (20, B.map Value.int) ∧ h.1 (m + 14) = (20, C.map Value.int) ∧ h.1 (m + 15) = (20, D.map Value.int)) ∧ (A.length = 700 ∧ B.length = 700 ∧ C.length = 700 ∧ D.length = 700) ∧ (A.take q.length = q.map (fun i => i.1) ∧ B.take q.length = q.map (fun i => i.2.1) ∧ C.take q.length = q.map ylf ∧ D.take q.length = q.map yrt) ∧ q.length ≤ 700
def zcwr (m : Nat) (h h' : zH) : Prop := (∀ q, q ≠ m → (q < m + 12 ∨ m + 16 ≤ q) → h'.1 q = h.1 q) ∧ h'.2 = h.2
theorem zcwr_tr {h h' h'' : zH} (h1 : zcwr m h h') (h2 : zcwr m h' h'') : zcwr m h h'' := ⟨fun q a b => (h2.1 q a b).trans (h1.1 q a b), h2.2.trans h1.2⟩
theorem e_270 {q : List yI} {n : yI} {k b x y : Int32} (hm : h.1 m = (13, zMF m F)) (h19 : F 19 = nI q.length) (hc : zCdM h m q) (hq : q.length < 700) (hk : ynr k = k) (e1 : n.1 = k) (e2 : n.2.1 = b) (e3 : ylf n = x) (e4 : yrt n = y) : ∃ h', zcall zP sv (d + 1) 270 [.ref m, .int k, .int b, .int x, .int y] h = some (.inl none, h') ∧ h'.1 m = (13, zMF m (yup F 19 (nI (q.length + 1)))) ∧ zCdM h' m (q ++ [n]) ∧ zcwr m h h' := by
  obtain ⟨A, B, C, D, ⟨a1, a2, a3, a4⟩, ⟨b1, b2, b3, b4⟩, ⟨c1, c2, c3, c4⟩, q7⟩ := hc
  have hlen : (q ++ [n]).length = q.length + 1 := List.length_append
  have u1 := @zsC A q.length k
  have u2 := @zsI B q.length b
  have u3 := @zsI C q.length x
  have u4 := @zsI D q.length y
  refine ⟨zup (zup (zup (zup (zup h (m + 12) (21, (A.set q.length k).map Value.int)) (m + 13) (20, (B.set q.length b).map Value.int)) (m + 14) (20, (C.set q.length x).map Value.int)) m (13, zMF m (yup F 19 (nI (q.length + 1))))) (m + 15) (20, (D.set q.length y).map Value.int), ?_, ?_, ⟨A.set q.length k, B.set q.length b, C.set q.length x, D.set q.length y, ⟨?_, ?_, ?_, ?_⟩, ⟨by rw [List.length_set, b1], by rw [List.length_set, b2], by rw [List.length_set, b3], by rw [List.length_set, b4]⟩, ⟨?_, ?_, ?_, ?_⟩, by rw [hlen]; omega⟩, ⟨fun r r1 r2 => by rw [zup_ne (by omega), zup_ne (by omega), zup_ne (by omega), zup_ne (by omega), zup_ne (by omega)], rfl⟩⟩
  · simp (disch := omega) only [zc_270, zs_270_0, zs_270_0n, zs_270_1, zs_270_4, zs_270_4n, zs_270_5, zs_270_8, zs_270_9, zs_270_10, zs_270_10n, zs_270_11, zs_270_14, zs_270_14n, zs_270_15, zs_270_18, zs_270_19, zs_270_20, zs_270_20n, zs_270_21, zs_270_24, zs_270_24n, zs_270_25, zs_270_28, zs_270_29, zs_270_30, zs_270_30n, zs_270_31, zs_270_34, zs_270_34n, zs_270_35, zs_270_36, zs_270_39, zs_270_40, zs_270_41, zs_270_42, zs_270_45, zs_270_47, zs_270_48, hm, zmf_15, zmf_16, zmf_17, zmf_18, zmf_19, h19, a1, a2, a3, a4, u1, u2, u3, u4, hk, zup_ne, zup_at, zmp_19, nI_1']
  · rw [zup_ne (by omega), zup_at]
  · rw [zup_ne (by omega), zup_ne (by omega), zup_ne (by omega), zup_ne (by omega), zup_at]
  · rw [zup_ne (by omega), zup_ne (by omega), zup_ne (by omega), zup_at]
  · rw [zup_ne (by omega), zup_ne (by omega), zup_at]
  · rw [zup_at]
  · rw [hlen, ytk_set c1 (by omega), List.map_append, ← e1]; rfl
  · rw [hlen, ytk_set c2 (by omega), List.map_append, ← e2]; rfl
  · rw [hlen, ytk_set c3 (by omega), List.map_append, ← e3]; rfl
  · rw [hlen, ytk_set c4 (by omega), List.map_append, ← e4]; rfl
/-- the model's numbers while it writes code -/
def zCs (h : zH) (m : Nat) (F : Nat → Int32) (q : List yI) (j : Nat) : Prop := h.1 m = (13, zMF m F) ∧ F 19 = nI q.length ∧ F 20 = nI (ycs q) ∧ F 21 = nI (2 ^ yslo q - 1) ∧ F 22 = nI (2 ^ j - 1) ∧ zCdM h m q
def yF4 (F F' : Nat → Int32) : Prop := ∀ k, k ≠ 19 → k ≠ 20 → k ≠ 21 → k ≠ 22 → F' k = F k
theorem ybit1 : ∀ j, j < 21 → ∀ i, i < j → (nI (2 ^ j - 1) >>> (nI i &&& 31)) &&& nI 1 = nI 1 := by decide +kernel
theorem ybit0 : ∀ j, j < 21 → (nI (2 ^ j - 1) >>> (nI j &&& 31)) &&& nI 1 = 0 := by decide +kernel
theorem ybits : ∀ s, s < 21 → ∀ j, j ≤ s → nI (2 ^ s - 1) ||| (nI 1 <<< (nI j &&& 31)) = nI (2 ^ (max s (j + 1)) - 1) := by decide +kernel
theorem ybitu : ∀ j, j < 21 → nI (2 ^ (j + 1) - 1) &&& ((nI 1 <<< (nI j &&& 31)) ^^^ (-1)) = nI (2 ^ j - 1) := by decide +kernel
theorem e_271s {l1 l2 l3 l4 l5 l6 l7 l8 l9 l10 : Slot} {j : Nat} (hm : h.1 m = (13, zMF m F)) (h22 : F 22 = nI (2 ^ j - 1)) (hj : j < 21) : ∀ n i, i + n = j → zrun zP sv (zcall zP sv d) 271 159 [.val (.ref m), l1, l2, l3, l4, l5, l6, l7, l8, l9, l10, .val (.int (nI i))] [] h = zrun zP sv (zcall zP sv d) 271 178 [.val (.ref m), l1, l2, l3, l4, l5, l6, l7, l8, l9, l10, .val (.int (nI j))] [] h := by
  intro n
  induction n with
  | zero =>
    intro i hi
    obtain rfl : i = j := by omega
    have b0 := ybit0 i hj
    have e01 : ¬ (0 : Int32) = nI 1 := by decide +kernel
    simp only [zs_271_159, zs_271_160, zs_271_163, zs_271_165, zs_271_166, zs_271_167, zs_271_168, zs_271_169, hm, zmf_22, h22, b0, if_neg e01]
  | succ n ih =>
    intro i hi
    have b1 := ybit1 j hj i (by omega)
    rw [← ih (i + 1) (by omega)]
    have eb : zrun zP sv (zcall zP sv d) 271 172 [.val (.ref m), l1, l2, l3, l4, l5, l6, l7, l8, l9, l10, .val (.int (nI i))] [] h = zrun zP sv (zcall zP sv d) 271 159 [.val (.ref m), l1, l2, l3, l4, l5, l6, l7, l8, l9, l10, .val (.int (nI (i + 1)))] [] h := by rw [zs_271_172, zs_271_175, nI_1']
    rw [← eb]
    simp only [zs_271_159, zs_271_160, zs_271_163, zs_271_165, zs_271_166, zs_271_167, zs_271_168, zs_271_169, hm, zmf_22, h22, b1, ↓reduceIte]
end ZQN
