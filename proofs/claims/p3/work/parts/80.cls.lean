/-- well-formed terms -/
def ytw : yT → Bool
  | .leaf => false
  | .inner n k v l r => decide (n = 0) && ((decide (k = nI 99) && !ynl l && !ynl r) || (decide (k = nI 118) && ylet v && !ynl l && !ynl r) || (decide (k = nI 110) && decide (v = 0) && ytw l && !ynl r) || (yis k && decide (v = 0) && ytw l && ytw r))
def ytok (t : yT) : Prop := ytw t = true ∧ ysz t ≤ 31 ∧ ydp t ≤ 8
/-- what can be undone and saved: formulas, letters, machine, removed -/
abbrev yA : Type := List yT × List Int32 × Int32 × Int32
def yAok (A : yA) : Prop := A.1.length ≤ 6 ∧ (∀ t, t ∈ A.1 → ytok t) ∧ A.2.1.length = 6
def zFs (h : zH) (m : Nat) (as : List Nat) (ts : List yT) : Prop := as.length = ts.length ∧ ∀ (i a : Nat) (t : yT), as[i]? = some a → ts[i]? = some t → m + 139 ≤ a ∧ a + 9 ≤ h.2.1 ∧ zTre h a (ysz t) (ypo 0 t)
def zAS (h : zH) (m : Nat) (S : yS) (A : yA) : Prop := S.2 = A.2 ∧ zFs h m S.1 A.1 ∧ yAok A
def zNum (h : zH) (u : Nat) : Prop := h.1 u = (11, [.ref (u + 1), .ref (u + 10)]) ∧ (∃ ns, zTre h (u + 1) 62 ns) ∧ ∃ B, zRow h (u + 10) B ∧ B.length = 31
def zCod (h : zH) (c : Nat) : Prop := (∃ le ma : Int32, h.1 c = (12, [.ref (c + 8), .ref (c + 10), .ref (c + 12), .ref (c + 14), .ref (c + 16), .int le, .ref (c + 1), .ref (c + 18), .ref (c + 20), .int ma])) ∧ (∃ A B C, zGau h (c + 1) A B C) ∧ (∃ A, zRow h (c + 8) A ∧ A.length = 62) ∧ (∃ A, zRow h (c + 10) A ∧ A.length = 62) ∧ (∃ A, zRow h (c + 12) A ∧ A.length = 62) ∧ (∃ A, zRow h (c + 14) A ∧ A.length = 62) ∧ (∃ A, zRow h (c + 16) A ∧ A.length = 62) ∧ (∃ A, zRow h (c + 18) A ∧ A.length = 7 ∧ ∀ x, x ∈ A → x = 0) ∧ ∃ A, zRow h (c + 20) A ∧ A.length = 11
def zScr (h : zH) (m : Nat) : Prop := (∃ ns, zTre h (m + 45) 124 ns) ∧ (∃ ns, zTre h (m + 54) 124 ns) ∧ (∃ P, zAl h (m + 75) P) ∧ (∃ A B C, zGau h (m + 78) A B C) ∧ zNum h (m + 85) ∧ zCod h (m + 97)
/-- the output: a builder's object and its bytes -/
def zOut (h : zH) (m : Nat) (o : List Int32) : Prop := ∃ (v : Nat) (B : List Int32) (u : Int32), h.1 (m + 1) = (2, [.ref v, .int 0, .int u, .int (nI o.length)]) ∧ h.1 v = (24, B.map Value.int) ∧ (v = m + 2 ∨ (m + 139 ≤ v ∧ v < h.2.1)) ∧ o.length ≤ B.length ∧ B.take o.length = o ∧ B.length ≤ 1000 ∧ ∀ x, x ∈ B → zty 6 (.int x) = true
/-- what the class's object stands for: buffer, latest error, whether a state is kept, current, kept, history, output -/
abbrev yW : Type := List Int32 × Int32 × Bool × yA × yA × List yA × List Int32
def zHs (h : zH) (m : Nat) (H : List yS) (HA : List yA) : Prop := H.length = HA.length ∧ ∀ (j : Nat) (S : yS) (A : yA), H[j]? = some S → HA[j]? = some A → zAS h m S A
def zCls (h : zH) (m : Nat) (w : yW) : Prop := m + 139 ≤ h.2.1 ∧ h.1 m = zECc m w.2.1 (yb w.2.2.1) ∧ (∃ S, zSta h (m + 3) S ∧ zAS h m S w.2.2.2.1) ∧ (∃ S, zSta h (m + 7) S ∧ zAS h m S w.2.2.2.2.1) ∧ (∃ H, zHis h (m + 11) H ∧ zHs h m H w.2.2.2.2.2.1) ∧ (∃ pos ns, zPar h (m + 63) w.1 pos ns) ∧ zScr h m ∧ zOut h m w.2.2.2.2.2.2
theorem zNum_cg {h h' : zH} {u : Nat} (hn : zNum h u) (hf : zcg u (u + 12) h h') : zNum h' u := by
  obtain ⟨h1, ⟨ns, h2⟩, B, h3, h4⟩ := hn
  exact ⟨by rw [hf u (by omega) (by omega), h1], ⟨ns, zTre_cg h2 (zcg_mono hf (by omega) (by omega))⟩, B, zRow_cg h3 (zcg_mono hf (by omega) (by omega)), h4⟩
theorem zCod_cg {h h' : zH} {c : Nat} (hn : zCod h c) (hf : zcg c (c + 22) h h') : zCod h' c := by
  obtain ⟨⟨le, ma, h1⟩, ⟨A, B, C, h2⟩, ⟨A1, a1, b1⟩, ⟨A2, a2, b2⟩, ⟨A3, a3, b3⟩, ⟨A4, a4, b4⟩, ⟨A5, a5, b5⟩, ⟨A6, a6, b6⟩, A7, a7, b7⟩ := hn
  exact ⟨⟨le, ma, by rw [hf c (by omega) (by omega), h1]⟩, ⟨A, B, C, zGau_cg h2 (zcg_mono hf (by omega) (by omega))⟩, ⟨A1, zRow_cg a1 (zcg_mono hf (by omega) (by omega)), b1⟩, ⟨A2, zRow_cg a2 (zcg_mono hf (by omega) (by omega)), b2⟩, ⟨A3, zRow_cg a3 (zcg_mono hf (by omega) (by omega)), b3⟩, ⟨A4, zRow_cg a4 (zcg_mono hf (by omega) (by omega)), b4⟩, ⟨A5, zRow_cg a5 (zcg_mono hf (by omega) (by omega)), b5⟩, ⟨A6, zRow_cg a6 (zcg_mono hf (by omega) (by omega)), b6⟩, A7, zRow_cg a7 (zcg_mono hf (by omega) (by omega)), b7⟩
theorem zScr_cg {h h' : zH} {m : Nat} (hs : zScr h m) (h1 : zcg (m + 45) (m + 63) h h') (h2 : zcg (m + 75) (m + 119) h h') : zScr h' m := by
  obtain ⟨⟨n1, a1⟩, ⟨n2, a2⟩, ⟨P, a3⟩, ⟨A, B, C, a4⟩, a5, a6⟩ := hs
  exact ⟨⟨n1, zTre_cg a1 (zcg_mono h1 (by omega) (by omega))⟩, ⟨n2, zTre_cg a2 (zcg_mono h1 (by omega) (by omega))⟩, ⟨P, zAl_cg a3 (zcg_mono h2 (by omega) (by omega))⟩, ⟨A, B, C, zGau_cg a4 (zcg_mono h2 (by omega) (by omega))⟩, zNum_cg a5 (zcg_mono h2 (by omega) (by omega)), zCod_cg a6 (zcg_mono h2 (by omega) (by omega))⟩
/-- formulas stay -/
def zkp (m : Nat) (h h' : zH) : Prop := (∀ q, m + 139 ≤ q → q < h.2.1 → h'.1 q = h.1 q) ∧ h.2.1 ≤ h'.2.1
theorem zFs_kp {h h' : zH} {m : Nat} {as : List Nat} {ts : List yT} (hf : zFs h m as ts) (hk : zkp m h h') : zFs h' m as ts := ⟨hf.1, fun i a t h1 h2 => by
  obtain ⟨g1, g2, g3⟩ := hf.2 i a t h1 h2
  exact ⟨g1, Nat.le_trans g2 hk.2, zTre_cg g3 (fun q q1 q2 => hk.1 q (by omega) (by omega))⟩⟩
theorem zAS_kp {h h' : zH} {m : Nat} {S : yS} {A : yA} (hf : zAS h m S A) (hk : zkp m h h') : zAS h' m S A := ⟨hf.1, zFs_kp hf.2.1 hk, hf.2.2⟩
theorem zHs_kp {h h' : zH} {m : Nat} {H : List yS} {HA : List yA} (hf : zHs h m H HA) (hk : zkp m h h') : zHs h' m H HA := ⟨hf.1, fun j S A h1 h2 => zAS_kp (hf.2 j S A h1 h2) hk⟩
theorem zOut_kp {h h' : zH} {m : Nat} {o : List Int32} (ho : zOut h m o) (hk : zkp m h h') (hc : zcg (m + 1) (m + 3) h h') : zOut h' m o := by
  obtain ⟨v, B, u, h1, h2, h3, h4⟩ := ho
  refine ⟨v, B, u, by rw [hc _ (by omega) (by omega), h1], ?_, ?_, h4⟩
  · rcases h3 with rfl | ⟨g1, g2⟩
    · rw [hc _ (by omega) (by omega), h2]
    · rw [hk.1 v g1 g2, h2]
  · rcases h3 with g | ⟨g1, g2⟩
    · exact Or.inl g
    · exact Or.inr ⟨g1, Nat.lt_of_lt_of_le g2 hk.2⟩
theorem zkp_fx {m N M lo hi : Nat} {h h' : zH} (hf : zfx lo hi N M h h') (hh : hi ≤ m + 139) : zkp m h h' := ⟨fun q h1 h2 => hf.1 q h2 (by omega), hf.2.1⟩
theorem zkp_fr {m lo hi : Nat} {h h' : zH} (hf : zfr lo hi h h') (hh : hi ≤ m + 139) : zkp m h h' := ⟨fun q h1 h2 => hf.1 q (by omega), by rw [hf.2]; exact Nat.le_refl _⟩
theorem zkp_tr {m : Nat} {h h' h'' : zH} (h1 : zkp m h h') (h2 : zkp m h' h'') : zkp m h h'' := ⟨fun q a b => (h2.1 q a (Nat.lt_of_lt_of_le b h1.2)).trans (h1.1 q a b), Nat.le_trans h1.2 h2.2⟩
theorem zK6_of {h : zH} {m : Nat} {S : yS} {A : yA} (ha : zAS h m S A) : zK6 h S.1 ∧ ∀ a, a ∈ S.1 → m + 139 ≤ a := by
  have key : ∀ a, a ∈ S.1 → ∃ t, m + 139 ≤ a ∧ zTre h a (ysz t) (ypo 0 t) := fun a h1 => by
    obtain ⟨i, hi, rfl⟩ := List.getElem_of_mem h1
    have h2 := ha.2.1.1
    obtain ⟨g1, _, g3⟩ := ha.2.1.2 i S.1[i] (A.1[i]'(by omega)) (List.getElem?_eq_getElem hi) (List.getElem?_eq_getElem _)
    exact ⟨_, g1, g3⟩
  refine ⟨fun a h1 => ?_, fun a h1 => ?_⟩
  · obtain ⟨t, _, K, N, L, R, e, _⟩ := key a h1
    exact ⟨_, e⟩
  · obtain ⟨t, e, _⟩ := key a h1
    exact e
/-- all but the scratch stays -/
theorem zCls_q {h h' : zH} {m : Nat} {w : yW} (hc : zCls h m w) (h1 : zcg m (m + 45) h h') (h2 : zcg (m + 63) (m + 75) h h') (hk : zkp m h h') (hs : zScr h' m) : zCls h' m w := by
  obtain ⟨c0, c1, ⟨S, s1, s2⟩, ⟨T, t1, t2⟩, ⟨H, k1, k2⟩, ⟨pos, ns, p1⟩, c7, c8⟩ := hc
  exact ⟨Nat.le_trans c0 hk.2, by rw [h1 m (by omega) (by omega), c1], ⟨S, zSta_cg s1 (zcg_mono h1 (by omega) (by omega)), zAS_kp s2 hk⟩, ⟨T, zSta_cg t1 (zcg_mono h1 (by omega) (by omega)), zAS_kp t2 hk⟩, ⟨H, zHis_cg k1 (zcg_mono h1 (by omega) (by omega)), zHs_kp k2 hk⟩, ⟨pos, ns, zPar_cg p1 (zcg_mono h2 (by omega) (by omega))⟩, hs, zOut_kp c8 hk (zcg_mono h1 (by omega) (by omega))⟩
theorem zCls_new {h h' : zH} {m : Nat} {w : yW} (hc : zCls h m w) (h1 : ∀ q, q < h.2.1 → h'.1 q = h.1 q) (h2 : h.2.1 ≤ h'.2.1) : zCls h' m w := by
  have c0 := hc.1
  have c7 := hc.2.2.2.2.2.2.1
  exact zCls_q hc (fun q a b => h1 q (by omega)) (fun q a b => h1 q (by omega)) ⟨fun q _ b => h1 q b, h2⟩ (zScr_cg c7 (fun q a b => h1 q (by omega)) (fun q a b => h1 q (by omega)))
theorem ycase (x : Int32) {n : Nat} (hn : n < 2 ^ 31) : (x < 0 ∨ ¬ x < nI n) ∨ ∃ i, i < n ∧ x = nI i := by
  by_cases h0 : x < 0
  · exact Or.inl (Or.inl h0)
  · obtain ⟨i, hi, rfl⟩ := nI_of h0
    by_cases h1 : i < n
    · exact Or.inr ⟨i, h1, rfl⟩
    · exact Or.inl (Or.inr (nI_nlt (by omega) hi))
section ZDX
variable {sv : Nat → Value} {d : Nat} {h : zH} {m : Nat} {w : yW}
theorem d_70n {x : Int32} (hc : zCls h m w) (hx : x < 0 ∨ ¬ x < nI w.2.2.2.1.1.length) : zcall zP sv (d + 2) 70 [.ref m, .int x] h = some (.inr 2, zext h [(0, [])] 6) := by
  obtain ⟨c0, c1, ⟨S, s1, s2⟩, _⟩ := hc
  have e1 := d_173n (sv := sv) (d := d) (x := x) s1 (by rw [s2.2.1.1]; exact hx)
  simp (disch := exact znw_u) only [zc_70, zs_70_0, zs_70_0n, zs_70_1, zs_70_4, zs_70_5, zs_70_8, zs_70_8n, zs_70_9, zs_70_9n, zs_70_10, zs_70_10n, zs_70_13, zs_70_24, zs_70_24n, zs_70_25, zs_70_25n, c1, zECc, zrc_1, zf_1_0, zp_1_0, zp_1_0n, zf_1_1, zp_1_1, zf_1_2, zp_1_2, zp_1_2n, zf_1_3, zp_1_3, zp_1_3n, zf_1_4, zp_1_40, zp_1_41, zf_1_5, zp_1_5, zp_1_5n, zf_1_6, zp_1_6, zp_1_6n, zf_1_7, zp_1_7, zp_1_7n, zf_1_8, zp_1_8, zp_1_8n, zf_1_9, zp_1_9, zp_1_9n, zf_1_10, zp_1_10, zp_1_10n, zf_1_11, zp_1_11, zp_1_11n, zf_1_12, zp_1_12, zp_1_12n, zSta_rc s1, e1, zbk_v, zts_s, zext_of]
theorem d_70k {i : Nat} {t : yT} (hc : zCls h m w) (ht : w.2.2.2.1.1[i]? = some t) : ∃ a : Nat, zcall zP sv (d + 2) 70 [.ref m, .int (nI i)] h = some (.inl (some (.ref a)), h) ∧ m + 139 ≤ a ∧ a + 9 ≤ h.2.1 ∧ zTre h a (ysz t) (ypo 0 t) ∧ ytok t := by
  obtain ⟨c0, c1, ⟨S, s1, s2⟩, _⟩ := hc
  have hi := (List.getElem?_eq_some_iff.mp ht).1
  have hl := s2.2.1.1
  obtain ⟨a, ha⟩ : ∃ a, S.1[i]? = some a := ⟨S.1[i]'(by omega), List.getElem?_eq_getElem _⟩
  obtain ⟨g1, g2, g3⟩ := s2.2.1.2 i a t ha ht
  have e1 := d_173k (sv := sv) (d := d) s1 ha
  refine ⟨a, ?_, g1, g2, g3, s2.2.2.2.1 t (List.mem_of_getElem? ht)⟩
  simp (disch := exact znw_u) only [zc_70, zs_70_0, zs_70_0n, zs_70_1, zs_70_4, zs_70_5, zs_70_8, zs_70_8n, zs_70_9, zs_70_9n, zs_70_10, zs_70_10n, zs_70_13, zs_70_24, zs_70_24n, zs_70_25, zs_70_25n, c1, zECc, zrc_1, zf_1_0, zp_1_0, zp_1_0n, zf_1_1, zp_1_1, zf_1_2, zp_1_2, zp_1_2n, zf_1_3, zp_1_3, zp_1_3n, zf_1_4, zp_1_40, zp_1_41, zf_1_5, zp_1_5, zp_1_5n, zf_1_6, zp_1_6, zp_1_6n, zf_1_7, zp_1_7, zp_1_7n, zf_1_8, zp_1_8, zp_1_8n, zf_1_9, zp_1_9, zp_1_9n, zf_1_10, zp_1_10, zp_1_10n, zf_1_11, zp_1_11, zp_1_11n, zf_1_12, zp_1_12, zp_1_12n, zSta_rc s1, e1, zbk_v, zts_s]
end ZDX
