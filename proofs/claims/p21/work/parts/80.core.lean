/-- well-formed terms -/
def ytw : yT → Bool
  | .leaf => false
  | .inner n k v l r => decide (n = 0) && ((decide (k = nI 99) && !ynl l && !ynl r) || (decide (k = nI 118) && ylet v && !ynl l && !ynl r) || (decide (k = nI 110) && decide (v = 0) && ytw l && !ynl r) || (yis k && decide (v = 0) && ytw l && ytw r))
def ytok (t : yT) : Prop := ytw t = true ∧ ysz t ≤ 31 ∧ ydp t ≤ 8
/-- what can be undone and saved: formulas, letters, machine, removed -/
abbrev yA : Type := List yT × List Int32 × Int32 × Int32
def yAok (A : yA) : Prop := A.1.length ≤ 6 ∧ (∀ t, t ∈ A.1 → ytok t) ∧ A.2.1.length = 6
def zFs (h : zH) (m : Nat) (as : List Nat) (ts : List yT) : Prop := as.length = ts.length ∧ ∀ (i a : Nat) (t : yT), as[i]? = some a → ts[i]? = some t → m + 139 ≤ a ∧ a + 9 ≤ h.2.1 ∧ zTre h a (ysz t) (ypo 0 t)
def zAS (h : zH) (m : Nat) (S : yS) (A : yA) : Prop := S.2 = A.2 ∧ zFs h m S.1 A.1 ∧ yAok A
def zNum (h : zH) (u : Nat) : Prop := h.1 u = (11, [.ref (u + 1), .ref (u + 10)]) ∧ (∃ ns, zTre h (u + 1) 62 ns) ∧ ∃ B, zRow h (u + 10) B ∧ B.length = 31
def zCod (h : zH) (c : Nat) : Prop := (∃ le ma : Int32, h.1 c = (12, [.ref (c + 8), .ref (c + 10), .ref (c + 12), .ref (c + 14), .ref (c + 16), .int le, .ref (c + 1), .ref (c + 18), .ref (c + 20), .int ma])) ∧ (∃ A B C, zGau h (c + 1) A B C) ∧ (∃ A, zRow h (c + 8) A ∧ A.length = 62) ∧ (∃ A, zRow h (c + 10) A ∧ A.length = 62) ∧ (∃ A, zRow h (c + 12) A ∧ A.length = 62) ∧ (∃ A, zRow h (c + 14) A ∧ A.length = 62) ∧ (∃ A, zRow h (c + 16) A ∧ A.length = 62) ∧ (∃ A, zRow h (c + 18) A ∧ A.length = 7 ∧ ∀ x, x ∈ A → x = 0) ∧ ∃ A, zRow h (c + 20) A ∧ A.length = 11
def zScr (h : zH) (m : Nat) : Prop := (∃ ns, zTre h (m + 45) 124 ns) ∧ (∃ ns, zTre h (m + 54) 124 ns) ∧ (∃ P, zAl h (m + 75) P) ∧ (∃ A B C, zGau h (m + 78) A B C) ∧ zNum h (m + 85) ∧ zCod h (m + 97)
/-- the output: a builder's object and its bytes -/
def zOut (h : zH) (m : Nat) (o : List Int32) : Prop := ∃ (v : Nat) (B : List Int32) (u : Int32), h.1 (m + 1) = (2, [.ref v, .int 0, .int u, .int (nI o.length)]) ∧ h.1 v = (24, B.map Value.int) ∧ (v = m + 2 ∨ (m + 139 ≤ v ∧ v < h.2.1)) ∧ o.length ≤ B.length ∧ B.take o.length = o ∧ B.length ≤ 1000 ∧ ∀ x, x ∈ B → zty 6 (.int x) = true
/-- what the class's object stands for: buffer, latest error, whether a state is kept, current, kept, history, output -/
abbrev yW : Type := List Int32 × Int32 × Bool × yA × yA × List yA × List Int32
def zHs (h : zH) (m : Nat) (H : List yS) (HA : List yA) : Prop := H.length = HA.length ∧ ∀ (j : Nat) (S : yS) (A : yA), H[j]? = some S → HA[j]? = some A → zAS h m S A
def zCls (h : zH) (m : Nat) (w : yW) : Prop := m + 139 ≤ h.2.1 ∧ h.1 m = zECc m w.2.1 (yb w.2.2.1) ∧ (∃ S, zSta h (m + 3) S ∧ zAS h m S w.2.2.2.1) ∧ (∃ S, zSta h (m + 7) S ∧ zAS h m S w.2.2.2.2.1) ∧ (∃ H, zHis h (m + 11) H ∧ zHs h m H w.2.2.2.2.2.1) ∧ (∃ pos ns, zPar h (m + 63) w.1 pos ns) ∧ zScr h m ∧ zOut h m w.2.2.2.2.2.2
theorem zNum_cg {h h' : zH} {u : Nat} (hn : zNum h u) (hf : zcg u (u + 12) h h') : zNum h' u := by
  obtain ⟨h1, ⟨ns, h2⟩, B, h3, h4⟩ := hn
  exact ⟨by rw [hf u (by omega) (by omega), h1], ⟨ns, zTre_cg h2 (zcg_mono hf (by omega) (by omega))⟩, B, zRow_cg h3 (zcg_mono hf (by omega) (by omega)), h4⟩
theorem zCod_cg {h h' : zH} {c : Nat} (hn : zCod h c) (hf : zcg c (c + 22) h h') : zCod h' c := by
  obtain ⟨⟨le, ma, h1⟩, ⟨A, B, C, h2⟩, ⟨A1, a1, b1⟩, ⟨A2, a2, b2⟩, ⟨A3, a3, b3⟩, ⟨A4, a4, b4⟩, ⟨A5, a5, b5⟩, ⟨A6, a6, b6⟩, A7, a7, b7⟩ := hn
  exact ⟨⟨le, ma, by rw [hf c (by omega) (by omega), h1]⟩, ⟨A, B, C, zGau_cg h2 (zcg_mono hf (by omega) (by omega))⟩, ⟨A1, zRow_cg a1 (zcg_mono hf (by omega) (by omega)), b1⟩, ⟨A2, zRow_cg a2 (zcg_mono hf (by omega) (by omega)), b2⟩, ⟨A3, zRow_cg a3 (zcg_mono hf (by omega) (by omega)), b3⟩, ⟨A4, zRow_cg a4 (zcg_mono hf (by omega) (by omega)), b4⟩, ⟨A5, zRow_cg a5 (zcg_mono hf (by omega) (by omega)), b5⟩, ⟨A6, zRow_cg a6 (zcg_mono hf (by omega) (by omega)), b6⟩, A7, zRow_cg a7 (zcg_mono hf (by omega) (by omega)), b7⟩
theorem zScr_cg {h h' : zH} {m : Nat} (hs : zScr h m) (h1 : zcg (m + 45) (m + 63) h h') (h2 : zcg (m + 75) (m + 119) h h') : zScr h' m := by
  obtain ⟨⟨n1, a1⟩, ⟨n2, a2⟩, ⟨P, a3⟩, ⟨A, B, C, a4⟩, a5, a6⟩ := hs
  exact ⟨⟨n1, zTre_cg a1 (zcg_mono h1 (by omega) (by omega))⟩, ⟨n2, zTre_cg a2 (zcg_mono h1 (by omega) (by omega))⟩, ⟨P, zAl_cg a3 (zcg_mono h2 (by omega) (by omega))⟩, ⟨A, B, C, zGau_cg a4 (zcg_mono h2 (by omega) (by omega))⟩, zNum_cg a5 (zcg_mono h2 (by omega) (by omega)), zCod_cg a6 (zcg_mono h2 (by omega) (by omega))⟩
/-- formulas stay -/
def zkp (m : Nat) (h h' : zH) : Prop := (∀ q, m + 139 ≤ q → q < h.2.1 → h'.1 q = h.1 q) ∧ h.2.1 ≤ h'.2.1
theorem zFs_kp {h h' : zH} {m : Nat} {as : List Nat} {ts : List yT} (hf : zFs h m as ts) (hk : zkp m h h') : zFs h' m as ts := ⟨hf.1, fun i a t h1 h2 => by
  obtain ⟨g1, g2, g3⟩ := hf.2 i a t h1 h2
  exact ⟨g1, Nat.le_trans g2 hk.2, zTre_cg g3 (fun q q1 q2 => hk.1 q (by omega) (by omega))⟩⟩
theorem zAS_kp {h h' : zH} {m : Nat} {S : yS} {A : yA} (hf : zAS h m S A) (hk : zkp m h h') : zAS h' m S A := ⟨hf.1, zFs_kp hf.2.1 hk, hf.2.2⟩
theorem zHs_kp {h h' : zH} {m : Nat} {H : List yS} {HA : List yA} (hf : zHs h m H HA) (hk : zkp m h h') : zHs h' m H HA := ⟨hf.1, fun j S A h1 h2 => zAS_kp (hf.2 j S A h1 h2) hk⟩
theorem zOut_kp {h h' : zH} {m : Nat} {o : List Int32} (ho : zOut h m o) (hk : zkp m h h') (hc : zcg (m + 1) (m + 3) h h') : zOut h' m o := by
  obtain ⟨v, B, u, h1, h2, h3, h4⟩ := ho
  refine ⟨v, B, u, by rw [hc _ (by omega) (by omega), h1], ?_, ?_, h4⟩
  · rcases h3 with rfl | ⟨g1, g2⟩
    · rw [hc _ (by omega) (by omega), h2]
    · rw [hk.1 v g1 g2, h2]
  · rcases h3 with g | ⟨g1, g2⟩
    · exact Or.inl g
    · exact Or.inr ⟨g1, Nat.lt_of_lt_of_le g2 hk.2⟩
theorem zkp_fx {m N M lo hi : Nat} {h h' : zH} (hf : zfx lo hi N M h h') (hh : hi ≤ m + 139) : zkp m h h' := ⟨fun q h1 h2 => hf.1 q h2 (by omega), hf.2.1⟩
theorem zkp_fr {m lo hi : Nat} {h h' : zH} (hf : zfr lo hi h h') (hh : hi ≤ m + 139) : zkp m h h' := ⟨fun q h1 h2 => hf.1 q (by omega), by rw [hf.2]; exact Nat.le_refl _⟩
theorem zkp_tr {m : Nat} {h h' h'' : zH} (h1 : zkp m h h') (h2 : zkp m h' h'') : zkp m h h'' := ⟨fun q a b => (h2.1 q a (Nat.lt_of_lt_of_le b h1.2)).trans (h1.1 q a b), Nat.le_trans h1.2 h2.2⟩
theorem zK6_of {h : zH} {m : Nat} {S : yS} {A : yA} (ha : zAS h m S A) : zK6 h S.1 ∧ ∀ a, a ∈ S.1 → m + 139 ≤ a := by
  have key : ∀ a, a ∈ S.1 → ∃ t, m + 139 ≤ a ∧ zTre h a (ysz t) (ypo 0 t) := fun a h1 => by
    obtain ⟨i, hi, rfl⟩ := List.getElem_of_mem h1
    have h2 := ha.2.1.1
    obtain ⟨g1, _, g3⟩ := ha.2.1.2 i S.1[i] (A.1[i]'(by omega)) (List.getElem?_eq_getElem hi) (List.getElem?_eq_getElem _)
    exact ⟨_, g1, g3⟩
  refine ⟨fun a h1 => ?_, fun a h1 => ?_⟩
  · obtain ⟨t, _, K, N, L, R, e, _⟩ := key a h1
    exact ⟨_, e⟩
  · obtain ⟨t, e, _⟩ := key a h1
    exact e
/-- all but the scratch stays -/
theorem zCls_q {h h' : zH} {m : Nat} {w : yW} (hc : zCls h m w) (h1 : zcg m (m + 45) h h') (h2 : zcg (m + 63) (m + 75) h h') (hk : zkp m h h') (hs : zScr h' m) : zCls h' m w := by
  obtain ⟨c0, c1, ⟨S, s1, s2⟩, ⟨T, t1, t2⟩, ⟨H, k1, k2⟩, ⟨pos, ns, p1⟩, c7, c8⟩ := hc
  exact ⟨Nat.le_trans c0 hk.2, by rw [h1 m (by omega) (by omega), c1], ⟨S, zSta_cg s1 (zcg_mono h1 (by omega) (by omega)), zAS_kp s2 hk⟩, ⟨T, zSta_cg t1 (zcg_mono h1 (by omega) (by omega)), zAS_kp t2 hk⟩, ⟨H, zHis_cg k1 (zcg_mono h1 (by omega) (by omega)), zHs_kp k2 hk⟩, ⟨pos, ns, zPar_cg p1 (zcg_mono h2 (by omega) (by omega))⟩, hs, zOut_kp c8 hk (zcg_mono h1 (by omega) (by omega))⟩
theorem zCls_new {h h' : zH} {m : Nat} {w : yW} (hc : zCls h m w) (h1 : ∀ q, q < h.2.1 → h'.1 q = h.1 q) (h2 : h.2.1 ≤ h'.2.1) : zCls h' m w := by
  have c0 := hc.1
  have c7 := hc.2.2.2.2.2.2.1
  exact zCls_q hc (fun q a b => h1 q (by omega)) (fun q a b => h1 q (by omega)) ⟨fun q _ b => h1 q b, h2⟩ (zScr_cg c7 (fun q a b => h1 q (by omega)) (fun q a b => h1 q (by omega)))
theorem ycase (x : Int32) {n : Nat} (hn : n < 2 ^ 31) : (x < 0 ∨ ¬ x < nI n) ∨ ∃ i, i < n ∧ x = nI i := by
  by_cases h0 : x < 0
  · exact Or.inl (Or.inl h0)
  · obtain ⟨i, hi, rfl⟩ := nI_of h0
    by_cases h1 : i < n
    · exact Or.inr ⟨i, h1, rfl⟩
    · exact Or.inl (Or.inr (nI_nlt (by omega) hi))
section ZDX
variable {sv : Nat → Value} {d : Nat} {h : zH} {m : Nat} {w : yW}
theorem d_70n {x : Int32} (hc : zCls h m w) (hx : x < 0 ∨ ¬ x < nI w.2.2.2.1.1.length) : zcall zP sv (d + 2) 70 [.ref m, .int x] h = some (.inr 2, zext h [(0, [])] 6) := by
  obtain ⟨c0, c1, ⟨S, s1, s2⟩, _⟩ := hc
  have e1 := d_173n (sv := sv) (d := d) (x := x) s1 (by rw [s2.2.1.1]; exact hx)
  simp (disch := exact znw_u) only [zc_70, zs_70_0, zs_70_0n, zs_70_1, zs_70_4, zs_70_5, zs_70_8, zs_70_8n, zs_70_9, zs_70_9n, zs_70_10, zs_70_10n, zs_70_13, zs_70_24, zs_70_24n, zs_70_25, zs_70_25n, c1, zECc, zrc_1, zf_1_0, zp_1_0, zp_1_0n, zf_1_1, zp_1_1, zf_1_2, zp_1_2, zp_1_2n, zf_1_3, zp_1_3, zp_1_3n, zf_1_4, zp_1_40, zp_1_41, zf_1_5, zp_1_5, zp_1_5n, zf_1_6, zp_1_6, zp_1_6n, zf_1_7, zp_1_7, zp_1_7n, zf_1_8, zp_1_8, zp_1_8n, zf_1_9, zp_1_9, zp_1_9n, zf_1_10, zp_1_10, zp_1_10n, zf_1_11, zp_1_11, zp_1_11n, zf_1_12, zp_1_12, zp_1_12n, zSta_rc s1, e1, zbk_v, zts_s, zext_of]
theorem d_70k {i : Nat} {t : yT} (hc : zCls h m w) (ht : w.2.2.2.1.1[i]? = some t) : ∃ a : Nat, zcall zP sv (d + 2) 70 [.ref m, .int (nI i)] h = some (.inl (some (.ref a)), h) ∧ m + 139 ≤ a ∧ a + 9 ≤ h.2.1 ∧ zTre h a (ysz t) (ypo 0 t) ∧ ytok t := by
  obtain ⟨c0, c1, ⟨S, s1, s2⟩, _⟩ := hc
  have hi := (List.getElem?_eq_some_iff.mp ht).1
  have hl := s2.2.1.1
  obtain ⟨a, ha⟩ : ∃ a, S.1[i]? = some a := ⟨S.1[i]'(by omega), List.getElem?_eq_getElem _⟩
  obtain ⟨g1, g2, g3⟩ := s2.2.1.2 i a t ha ht
  have e1 := d_173k (sv := sv) (d := d) s1 ha
  refine ⟨a, ?_, g1, g2, g3, s2.2.2.2.1 t (List.mem_of_getElem? ht)⟩
  simp (disch := exact znw_u) only [zc_70, zs_70_0, zs_70_0n, zs_70_1, zs_70_4, zs_70_5, zs_70_8, zs_70_8n, zs_70_9, zs_70_9n, zs_70_10, zs_70_10n, zs_70_13, zs_70_24, zs_70_24n, zs_70_25, zs_70_25n, c1, zECc, zrc_1, zf_1_0, zp_1_0, zp_1_0n, zf_1_1, zp_1_1, zf_1_2, zp_1_2, zp_1_2n, zf_1_3, zp_1_3, zp_1_3n, zf_1_4, zp_1_40, zp_1_41, zf_1_5, zp_1_5, zp_1_5n, zf_1_6, zp_1_6, zp_1_6n, zf_1_7, zp_1_7, zp_1_7n, zf_1_8, zp_1_8, zp_1_8n, zf_1_9, zp_1_9, zp_1_9n, zf_1_10, zp_1_10, zp_1_10n, zf_1_11, zp_1_11, zp_1_11n, zf_1_12, zp_1_12, zp_1_12n, zSta_rc s1, e1, zbk_v, zts_s]
end ZDX

/-- what a call of the class leaves -/
def zEnd (h : zH) (m : Nat) (r : zR) (N M : Nat) (o : zO) (w : yW) : Prop := ∃ h', r = some (o, h') ∧ zCls h' m w ∧ zfx m (m + 119) N M h h'
def ycur (w : yW) : yA := w.2.2.2.1
def ykep (w : yW) : yA := w.2.2.2.2.1
def yhis (w : yW) : List yA := w.2.2.2.2.2.1
def ysc (w : yW) (A : yA) : yW := (w.1, w.2.1, w.2.2.1, A, w.2.2.2.2)
def ysk (w : yW) (A : yA) : yW := (w.1, w.2.1, w.2.2.1, w.2.2.2.1, A, w.2.2.2.2.2)
def ysh (w : yW) (H : List yA) : yW := (w.1, w.2.1, w.2.2.1, w.2.2.2.1, w.2.2.2.2.1, H, w.2.2.2.2.2.2)
def ysb (w : yW) (cs : List Int32) : yW := (cs, w.2)
def yse (w : yW) (e : Int32) : yW := (w.1, e, w.2.2)
def ysi (w : yW) (b : Bool) : yW := (w.1, w.2.1, b, w.2.2.2)
/-- the state before a recorded call -/
def yrec (w : yW) : yW := ysh w ((ycur w :: yhis w).take 8)
theorem zCls_cur {h h' : zH} {m : Nat} {w : yW} {S : yS} {A : yA} (hc : zCls h m w) (hf : zfr (m + 3) (m + 7) h h') (hs : zSta h' (m + 3) S) (ha : zAS h' m S A) : zCls h' m (ysc w A) := by
  obtain ⟨c0, c1, _, ⟨T, t1, t2⟩, ⟨H, k1, k2⟩, ⟨pos, ns, p1⟩, c7, c8⟩ := hc
  have hk := zkp_fr (m := m) hf (by omega)
  exact ⟨by rw [hf.2]; exact c0, by rw [hf.1 m (by omega)]; exact c1, ⟨S, hs, ha⟩, ⟨T, zSta_fr t1 hf (by omega), zAS_kp t2 hk⟩, ⟨H, zHis_fr k1 hf (by omega), zHs_kp k2 hk⟩, ⟨pos, ns, zPar_cg p1 (zcg_fr hf (by omega))⟩, zScr_cg c7 (zcg_fr hf (by omega)) (zcg_fr hf (by omega)), zOut_kp c8 hk (zcg_fr hf (by omega))⟩
theorem zCls_kep {h h' : zH} {m : Nat} {w : yW} {S : yS} {A : yA} (hc : zCls h m w) (hf : zfr (m + 7) (m + 11) h h') (hs : zSta h' (m + 7) S) (ha : zAS h' m S A) : zCls h' m (ysk w A) := by
  obtain ⟨c0, c1, ⟨T, t1, t2⟩, _, ⟨H, k1, k2⟩, ⟨pos, ns, p1⟩, c7, c8⟩ := hc
  have hk := zkp_fr (m := m) hf (by omega)
  exact ⟨by rw [hf.2]; exact c0, by rw [hf.1 m (by omega)]; exact c1, ⟨T, zSta_fr t1 hf (by omega), zAS_kp t2 hk⟩, ⟨S, hs, ha⟩, ⟨H, zHis_fr k1 hf (by omega), zHs_kp k2 hk⟩, ⟨pos, ns, zPar_cg p1 (zcg_fr hf (by omega))⟩, zScr_cg c7 (zcg_fr hf (by omega)) (zcg_fr hf (by omega)), zOut_kp c8 hk (zcg_fr hf (by omega))⟩
theorem zCls_his {h h' : zH} {m : Nat} {w : yW} {H : List yS} {HA : List yA} (hc : zCls h m w) (hf : zfr (m + 11) (m + 45) h h') (hs : zHis h' (m + 11) H) (ha : zHs h' m H HA) : zCls h' m (ysh w HA) := by
  obtain ⟨c0, c1, ⟨S, s1, s2⟩, ⟨T, t1, t2⟩, _, ⟨pos, ns, p1⟩, c7, c8⟩ := hc
  have hk := zkp_fr (m := m) hf (by omega)
  exact ⟨by rw [hf.2]; exact c0, by rw [hf.1 m (by omega)]; exact c1, ⟨S, zSta_fr s1 hf (by omega), zAS_kp s2 hk⟩, ⟨T, zSta_fr t1 hf (by omega), zAS_kp t2 hk⟩, ⟨H, hs, ha⟩, ⟨pos, ns, zPar_cg p1 (zcg_fr hf (by omega))⟩, zScr_cg c7 (zcg_fr hf (by omega)) (zcg_fr hf (by omega)), zOut_kp c8 hk (zcg_fr hf (by omega))⟩
theorem zCls_par {h h' : zH} {m pos : Nat} {w : yW} {cs : List Int32} {ns : List yN} (hc : zCls h m w) (hf : zfr (m + 63) (m + 75) h h') (hs : zPar h' (m + 63) cs pos ns) : zCls h' m (ysb w cs) := by
  obtain ⟨c0, c1, ⟨S, s1, s2⟩, ⟨T, t1, t2⟩, ⟨H, k1, k2⟩, _, c7, c8⟩ := hc
  have hk := zkp_fr (m := m) hf (by omega)
  exact ⟨by rw [hf.2]; exact c0, by rw [hf.1 m (by omega)]; exact c1, ⟨S, zSta_fr s1 hf (by omega), zAS_kp s2 hk⟩, ⟨T, zSta_fr t1 hf (by omega), zAS_kp t2 hk⟩, ⟨H, zHis_fr k1 hf (by omega), zHs_kp k2 hk⟩, ⟨pos, ns, hs⟩, zScr_cg c7 (zcg_fr hf (by omega)) (zcg_fr hf (by omega)), zOut_kp c8 hk (zcg_fr hf (by omega))⟩
theorem zCls_ec {h : zH} {m : Nat} {w : yW} {e : Int32} {b : Bool} (hc : zCls h m w) : zCls (zup h m (zECc m e (yb b))) m (ysi (yse w e) b) := by
  have hf : zfr m (m + 1) h (zup h m (zECc m e (yb b))) := zfr_up (Nat.le_refl _) (Nat.lt_succ_self _)
  obtain ⟨c0, c1, ⟨S, s1, s2⟩, ⟨T, t1, t2⟩, ⟨H, k1, k2⟩, ⟨pos, ns, p1⟩, c7, c8⟩ := hc
  have hk := zkp_fr (m := m) hf (by omega)
  exact ⟨c0, zup_at, ⟨S, zSta_fr s1 hf (by omega), zAS_kp s2 hk⟩, ⟨T, zSta_fr t1 hf (by omega), zAS_kp t2 hk⟩, ⟨H, zHis_fr k1 hf (by omega), zHs_kp k2 hk⟩, ⟨pos, ns, zPar_cg p1 (zcg_fr hf (by omega))⟩, zScr_cg c7 (zcg_fr hf (by omega)) (zcg_fr hf (by omega)), zOut_kp c8 hk (zcg_fr hf (by omega))⟩
section ZDY
variable {sv : Nat → Value} {d : Nat} {h : zH} {m : Nat} {w : yW}
theorem zCls_0 (hc : zCls h m w) : h.1 m = zECc m w.2.1 (yb w.2.2.1) := hc.2.1
theorem zthrow (hc : zCls h m w) : zCls (zext h [(0, [])] 6) m w ∧ zfx m (m + 119) 1 6 h (zext h [(0, [])] 6) := ⟨zCls_new hc (fun q hq => zext_lo hq) (by rw [zext_sz]; omega), zfx_new⟩
theorem d_132E (hc : zCls h m w) : ∃ h', zcall zP sv (d + 4) 132 [.ref (m + 11), .ref (m + 3)] h = some (.inl none, h') ∧ zCls h' m (yrec w) ∧ zfr (m + 11) (m + 45) h h' := by
  have hc' := hc
  obtain ⟨c0, c1, ⟨S, s1, s2⟩, _, ⟨H, k1, k2⟩, _⟩ := hc
  have z6 := zK6_of s2
  obtain ⟨h', e, g1, f1⟩ := d_132 (sv := sv) (d := d) k1 s1 (by omega) z6.1 (fun a ha => by have := z6.2 a ha; omega)
  have hk := zkp_fr (m := m) f1 (by omega)
  refine ⟨h', e, zCls_his hc' (zfr_mono f1 (by omega) (by omega)) g1 ⟨?_, fun j S' A' q1 q2 => ?_⟩, zfr_mono f1 (by omega) (by omega)⟩
  · rw [List.length_take, List.length_take, List.length_cons, List.length_cons, k2.1]; rfl
  · have hj : j < 8 := by
      have := (List.getElem?_eq_some_iff.mp q1).1
      rw [List.length_take] at this
      omega
    rw [List.getElem?_take_of_lt hj] at q1 q2
    cases j with
    | zero =>
      injection q1 with q1
      injection q2 with q2
      subst q1 q2
      exact zAS_kp s2 hk
    | succ j => exact zAS_kp (k2.2 j S' A' q1 q2) hk
theorem zfr_fx {lo hi : Nat} {h h' : zH} (hf : zfr lo hi h h') (h1 : m ≤ lo) (h2 : hi ≤ m + 119) : zfx m (m + 119) 0 0 h h' := zfx_fr hf h1 h2
/-- feed -/
def ynr (x : Int32) : Int32 := x.toUInt32.toUInt16.toUInt32.toInt32
theorem ynr_chr {x : Int32} : ychr (ynr x) := by
  unfold ychr ynr
  have h1 : x.toUInt32.toUInt16.toUInt32.toNat < 65536 := by
    rw [UInt16.toNat_toUInt32]
    exact UInt16.toNat_lt _
  obtain ⟨n, hn⟩ : ∃ n, x.toUInt32.toUInt16.toUInt32.toNat = n := ⟨_, rfl⟩
  have e : x.toUInt32.toUInt16.toUInt32.toInt32 = nI n := by
    apply Int32.toBitVec_inj.mp
    show x.toUInt32.toUInt16.toUInt32.toBitVec = BitVec.ofNat 32 n
    rw [← hn, UInt32.toNat, BitVec.ofNat_toNat, BitVec.setWidth_eq]
  rw [e]
  have h2 : (0 : Int32) ≤ nI n := nI_pos' (by omega)
  have h3 : nI n ≤ nI 65535 := nI_le (by omega) (by decide)
  have h4 : (65535 : Int32) = nI 65535 := by decide +kernel
  show (decide (0 ≤ nI n) && decide (nI n ≤ 65535)) = true
  rw [Bool.and_eq_true, h4]
  exact ⟨decide_eq_true h2, decide_eq_true h3⟩
theorem d_139 {q : Nat} {cs : List Int32} {x : Int32} (hi : zInp h q cs) (hl : cs.length < 60) : ∃ h', zcall zP sv (d + 1) 139 [.ref q, .int x] h = some (.inl none, h') ∧ zInp h' q (cs ++ [ynr x]) ∧ zfr q (q + 2) h h' := by
  obtain ⟨h1, ⟨B, h2, h3, h4⟩, h5, h6⟩ := hi
  have g1 : ¬ nI cs.length < 0 := nI_pos (by omega)
  have g2 : nI cs.length < nI 60 := nI_lt hl (by decide)
  have e1 : ∀ K : zC → zR, zaset (21, B.map Value.int) 21 (nI cs.length) (.int x) K = K (21, (B.set cs.length (ynr x)).map Value.int) := fun K => by
    unfold zaset zix
    rw [nI_clamp (by omega), if_pos ⟨rfl, by rw [decide_eq_true (nI_pos (by omega)), decide_eq_true (by rw [List.length_map]; omega)]; rfl⟩, List.map_set]
    rfl
  have hlen : (cs ++ [ynr x]).length = cs.length + 1 := List.length_append
  refine ⟨zup (zup h (q + 1) (21, (B.set cs.length (ynr x)).map Value.int)) q (8, [.ref (q + 1), .int (nI (cs.length + 1))]), ?_, ⟨by rw [zup_at, hlen], ⟨B.set cs.length (ynr x), by rw [zup_ne (by omega), zup_at], by rw [List.length_set, h3], by rw [hlen, ytk_set h4 (by omega)]⟩, by rw [hlen]; omega, fun y hy => ?_⟩, zfr_tr (zfr_up (by omega) (by omega)) (zfr_up (by omega) (by omega))⟩
  · simp only [zc_139, zs_139_0, zs_139_1, zs_139_4, zs_139_7, zs_139_8, zs_139_11, zs_139_12, zs_139_15, zs_139_16, zs_139_19, zs_139_20, zs_139_23, zs_139_24, zs_139_27, zs_139_28, zs_139_29, zs_139_30, zs_139_31, zs_139_34, zs_139_35, zs_139_36, zs_139_39, h1, zrc_8, zf_8_0, zp_8_0, zp_8_0n, zf_8_1, zp_8_1, if_neg g1, h2, zaln_k (show 20 ≤ 21 by decide), List.length_map, h3, if_pos g2, e1, zup_ne (show q ≠ q + 1 by omega), nI_1']
  · rcases List.mem_append.mp hy with g | g
    · exact h6 y g
    · rw [List.mem_singleton.mp g]
      exact ynr_chr
theorem d_24 {x : Int32} (hc : zCls h m w) : zEnd h m (zcall zP sv (d + 3) 24 [.ref m, .int x] h) 1 6 (if w.1.length < 60 then .inl (some (.int (nI (w.1.length + 1)))) else .inr 0) (if w.1.length < 60 then ysb w (w.1 ++ [ynr x]) else w) := by
  have hc' := hc
  have c1 := zCls_0 hc
  obtain ⟨c0, _, _, _, _, ⟨pos, ns, p1⟩, _⟩ := hc
  have p0 := p1.1
  obtain ⟨i1, ⟨B, i2, i3, i4⟩, i5, i6⟩ := p1.2.1
  have hi := p1.2.1
  have e149 : ∀ h', h'.1 (m + 63) = (7, [.ref (m + 63 + 1), .ref (m + 63 + 3), .int (nI pos)]) → zcall zP sv (d + 2) 149 [.ref (m + 63)] h' = some (.inl (some (.ref (m + 63 + 1))), h') := fun h' e => by simp only [zc_149, zs_149_0, zs_149_1, zs_149_4, e, zrc_7, zf_7_0, zp_7_0, zp_7_0n, zf_7_1, zp_7_1, zp_7_1n, zf_7_2, zp_7_2]
  by_cases hl : w.1.length < 60
  · rw [if_pos hl, if_pos hl]
    obtain ⟨h', e2, w2, f2⟩ := d_139 (sv := sv) (d := d + 1) (x := x) hi hl
    have g1 : nI w.1.length < nI 60 := nI_lt hl (by decide)
    have p3 : zPar h' (m + 63) (w.1 ++ [ynr x]) pos ns := ⟨by rw [f2.1 _ (by omega), p0], w2, zTre_fr p1.2.2 f2 (by omega)⟩
    have e3 := d_138 (sv := sv) (d := d + 1) w2
    rw [show (w.1 ++ [ynr x]).length = w.1.length + 1 from List.length_append] at e3
    refine ⟨h', ?_, zCls_par hc' (zfr_mono f2 (by omega) (by omega)) p3, zfx_mono (zfr_fx f2 (by omega) (by omega)) (Nat.le_refl _) (Nat.le_refl _) (Nat.zero_le _) (Nat.zero_le _)⟩
    simp (disch := exact znw_u) only [zc_24, zs_24_0, zs_24_1, zs_24_4, zs_24_7, zs_24_8, zs_24_9, zs_24_12, zs_24_15, zs_24_25, zs_24_26, zs_24_27, zs_24_30, zs_24_31, zs_24_34, c1, zECc, zrc_1, zf_1_0, zp_1_0, zp_1_0n, zf_1_1, zp_1_1, zf_1_2, zp_1_2, zp_1_2n, zf_1_3, zp_1_3, zp_1_3n, zf_1_4, zp_1_40, zp_1_41, zf_1_5, zp_1_5, zp_1_5n, zf_1_6, zp_1_6, zp_1_6n, zf_1_7, zp_1_7, zp_1_7n, zf_1_8, zp_1_8, zp_1_8n, zf_1_9, zp_1_9, zp_1_9n, zf_1_10, zp_1_10, zp_1_10n, zf_1_11, zp_1_11, zp_1_11n, zf_1_12, zp_1_12, zp_1_12n, zrc_8, zf_8_0, zp_8_0, zp_8_0n, zf_8_1, zp_8_1, zPar_rc p1, e149 h p0, zInp_rc hi, zc_137, zs_137_0, zs_137_1, zs_137_4, zs_137_5, zs_137_8, zs_137_9, zs_137_12, zs_137_13, zs_137_16, zs_137_17, i1, i2, zaln_k (show 20 ≤ 21 by decide), List.length_map, i3, if_pos g1, zty_50, zgd_t, e2, zInp_rc w2, e3, zbk_v, zts_s, zts_n, ↓reduceIte]
  · rw [if_neg hl, if_neg hl]
    have g1 : ¬ nI w.1.length < nI 60 := nI_nlt (by omega) (by omega)
    obtain ⟨t1, t2⟩ := zthrow hc'
    refine ⟨_, ?_, t1, t2⟩
    simp (disch := exact znw_u) only [zc_24, zs_24_0, zs_24_1, zs_24_4, zs_24_7, zs_24_8, zs_24_9, zs_24_12, zs_24_15, zs_24_25, zs_24_26, zs_24_27, zs_24_30, zs_24_31, zs_24_34, c1, zECc, zrc_1, zf_1_0, zp_1_0, zp_1_0n, zf_1_1, zp_1_1, zf_1_2, zp_1_2, zp_1_2n, zf_1_3, zp_1_3, zp_1_3n, zf_1_4, zp_1_40, zp_1_41, zf_1_5, zp_1_5, zp_1_5n, zf_1_6, zp_1_6, zp_1_6n, zf_1_7, zp_1_7, zp_1_7n, zf_1_8, zp_1_8, zp_1_8n, zf_1_9, zp_1_9, zp_1_9n, zf_1_10, zp_1_10, zp_1_10n, zf_1_11, zp_1_11, zp_1_11n, zf_1_12, zp_1_12, zp_1_12n, zrc_8, zf_8_0, zp_8_0, zp_8_0n, zf_8_1, zp_8_1, zPar_rc p1, e149 h p0, zInp_rc hi, zc_137, zs_137_0, zs_137_1, zs_137_4, zs_137_5, zs_137_8, zs_137_9, zs_137_12, zs_137_13, zs_137_16, zs_137_17, i1, i2, zaln_k (show 20 ≤ 21 by decide), List.length_map, i3, if_neg g1, zty_51, zgd_t, nI_1e0, zbk_v, zts_s, zts_n, zext_of, ↓reduceIte]
theorem d_25 (hc : zCls h m w) : zEnd h m (zcall zP sv (d + 3) 25 [.ref m] h) 0 0 (.inl (some (.int (nI w.1.length)))) (ysb w []) := by
  have hc' := hc
  have c1 := zCls_0 hc
  obtain ⟨c0, _, _, _, _, ⟨pos, ns, p1⟩, _⟩ := hc
  have p0 := p1.1
  have hi := p1.2.1
  have e149 : ∀ h', h'.1 (m + 63) = (7, [.ref (m + 63 + 1), .ref (m + 63 + 3), .int (nI pos)]) → zcall zP sv (d + 2) 149 [.ref (m + 63)] h' = some (.inl (some (.ref (m + 63 + 1))), h') := fun h' e => by simp only [zc_149, zs_149_0, zs_149_1, zs_149_4, e, zrc_7, zf_7_0, zp_7_0, zp_7_0n, zf_7_1, zp_7_1, zp_7_1n, zf_7_2, zp_7_2]
  have e3 := d_138 (sv := sv) (d := d + 1) hi
  obtain ⟨h', e2, w2, f2⟩ := d_140 (sv := sv) (d := d + 1) hi
  have p3 : zPar h' (m + 63) [] pos ns := ⟨by rw [f2.1 _ (by omega), p0], w2, zTre_fr p1.2.2 f2 (by omega)⟩
  refine ⟨h', ?_, zCls_par hc' (zfr_mono f2 (by omega) (by omega)) p3, zfr_fx f2 (by omega) (by omega)⟩
  simp (disch := exact znw_u) only [zc_25, zs_25_0, zs_25_1, zs_25_4, zs_25_7, zs_25_10, zs_25_11, zs_25_12, zs_25_15, zs_25_18, zs_25_21, zs_25_22, c1, zECc, zrc_1, zf_1_0, zp_1_0, zp_1_0n, zf_1_1, zp_1_1, zf_1_2, zp_1_2, zp_1_2n, zf_1_3, zp_1_3, zp_1_3n, zf_1_4, zp_1_40, zp_1_41, zf_1_5, zp_1_5, zp_1_5n, zf_1_6, zp_1_6, zp_1_6n, zf_1_7, zp_1_7, zp_1_7n, zf_1_8, zp_1_8, zp_1_8n, zf_1_9, zp_1_9, zp_1_9n, zf_1_10, zp_1_10, zp_1_10n, zf_1_11, zp_1_11, zp_1_11n, zf_1_12, zp_1_12, zp_1_12n, zPar_rc p1, e149 h p0, zInp_rc hi, e3, e2, zbk_v, zts_s, zts_n]
end ZDY

theorem yl1 {c : Int32} (h : ylet c = false) : c < nI 97 ∨ (¬ c < nI 97 ∧ nI 102 < c) := by
  by_cases h1 : c < nI 97
  · exact Or.inl h1
  · exact Or.inr ⟨h1, (ylet_f h).resolve_left h1⟩
section ZDZ
variable {sv : Nat → Value} {d : Nat} {h : zH} {m : Nat} {w : yW}
theorem d_72 {c : Int32} (hl : ylet c = true) : zcall zP sv (d + 1) 72 [.int c] h = some (.inl none, h) := by
  have g := ylet_r hl
  simp only [zc_72, zs_72_0, zs_72_1, zs_72_3, zs_72_6, zs_72_7, zs_72_9, zs_72_12, zs_72_23, if_neg g.1, if_neg g.2]
theorem d_72n {c : Int32} (hl : ylet c = false) : zcall zP sv (d + 1) 72 [.int c] h = some (.inr 1, zext h [(0, [])] 6) := by
  rcases yl1 hl with g | g
  · simp only [zc_72, zs_72_0, zs_72_1, zs_72_3, zs_72_6, zs_72_7, zs_72_9, zs_72_12, zs_72_23, if_pos g, zext_of]
  · simp only [zc_72, zs_72_0, zs_72_1, zs_72_3, zs_72_6, zs_72_7, zs_72_9, zs_72_12, zs_72_23, if_neg g.1, if_pos g.2, zext_of]
theorem d_178 {s : Nat} {S : yS} {c x : Int32} (hs : zSta h s S) : ∃ h', zcall zP sv (d + 2) 178 [.ref s, .int c, .int x] h = some (.inl (some (.int (yg S.2.1 (c - nI 97)))), h') ∧ zSta h' s (S.1, ys S.2.1 (c - nI 97) x, S.2.2) ∧ zfr s (s + 4) h h' := by
  obtain ⟨h1, ⟨F, h2, h3⟩, h4, h5, h6⟩ := hs
  have e1 := d_166 (sv := sv) (d := d) (x := c - nI 97) (y := x) h4
  refine ⟨_, ?_, ⟨by rw [zup_ne (by omega)]; exact h1, ⟨F, by rw [zup_ne (by omega)]; exact h2, h3⟩, zRow_new h4 ys_len, by rw [← h5]; exact ys_len, h6⟩, zfr_up (by omega) (by omega)⟩
  simp (disch := exact znw_u) only [zc_178, zs_178_0, zs_178_0n, zs_178_1, zs_178_4, zs_178_5, zs_178_7, zs_178_8, zs_178_11, zs_178_12, zs_178_12n, zs_178_13, zs_178_16, zs_178_17, zs_178_19, zs_178_20, zs_178_21, zs_178_24, zs_178_25, h1, zrc_3, zf_3_0, zp_3_0, zp_3_0n, zf_3_1, zp_3_1, zf_3_2, zp_3_2, zp_3_2n, zf_3_3, zp_3_3, zf_3_4, zp_3_4, zRow_rc h4, d_165 h4, e1, zbk_v, zts_s, zts_n]
theorem d_179 {s : Nat} {S : yS} {x : Int32} (hs : zSta h s S) : ∃ h', zcall zP sv (d + 1) 179 [.ref s, .int x] h = some (.inl (some (.int S.2.2.1)), h') ∧ zSta h' s (S.1, S.2.1, x, S.2.2.2) ∧ zfr s (s + 4) h h' := by
  obtain ⟨h1, ⟨F, h2, h3⟩, h4, h5, h6⟩ := hs
  refine ⟨zup h s (3, [.ref (s + 1), .int (nI S.1.length), .ref (s + 2), .int x, .int S.2.2.2]), ?_, ⟨zup_at, ⟨F, by rw [zup_ne (by omega)]; exact h2, h3⟩, zRow_up h4 (by omega) (by omega), h5, h6⟩, zfr_up (by omega) (by omega)⟩
  simp (disch := exact znw_u) only [zc_179, zs_179_0, zs_179_0n, zs_179_1, zs_179_4, zs_179_5, zs_179_5n, zs_179_6, zs_179_7, zs_179_10, zs_179_11, h1, zrc_3, zf_3_0, zp_3_0, zp_3_0n, zf_3_1, zp_3_1, zf_3_2, zp_3_2, zp_3_2n, zf_3_3, zp_3_3, zf_3_4, zp_3_4]
theorem d_177 {s : Nat} {S : yS} {x : Int32} (hs : zSta h s S) : ∃ h', zcall zP sv (d + 1) 177 [.ref s, .int x] h = some (.inl none, h') ∧ zSta h' s (S.1, S.2.1, S.2.2.1, S.2.2.2 + x) ∧ zfr s (s + 4) h h' := by
  obtain ⟨h1, ⟨F, h2, h3⟩, h4, h5, h6⟩ := hs
  refine ⟨zup h s (3, [.ref (s + 1), .int (nI S.1.length), .ref (s + 2), .int S.2.2.1, .int (S.2.2.2 + x)]), ?_, ⟨zup_at, ⟨F, by rw [zup_ne (by omega)]; exact h2, h3⟩, zRow_up h4 (by omega) (by omega), h5, h6⟩, zfr_up (by omega) (by omega)⟩
  simp (disch := exact znw_u) only [zc_177, zs_177_0, zs_177_0n, zs_177_1, zs_177_2, zs_177_5, zs_177_6, zs_177_7, zs_177_10, h1, zrc_3, zf_3_0, zp_3_0, zp_3_0n, zf_3_1, zp_3_1, zf_3_2, zp_3_2, zp_3_2n, zf_3_3, zp_3_3, zf_3_4, zp_3_4]
theorem d_31n {c x : Int32} (hc : zCls h m w) (hb : ylet c = false ∨ x < -999 ∨ nI 999 < x) : zEnd h m (zcall zP sv (d + 6) 31 [.ref m, .int c, .int x] h) 1 6 (.inr 1) w := by
  obtain ⟨t1, t2⟩ := zthrow hc
  refine ⟨_, ?_, t1, t2⟩
  cases hl : ylet c with
  | false => simp (disch := exact znw_u) only [zc_31, zs_31_0, zs_31_1, zs_31_4, zs_31_5, zs_31_8, zs_31_11, zs_31_12, zs_31_15, zs_31_18, zs_31_28, zs_31_29, zs_31_32, zs_31_33, zs_31_36, zs_31_39, zs_31_40, zs_31_43, zs_31_44, zs_31_45, zs_31_48, d_72n hl, zbk_x]
  | true =>
    rw [hl] at hb
    rcases hb with g | g | g
    · cases g
    · simp (disch := exact znw_u) only [zc_31, zs_31_0, zs_31_1, zs_31_4, zs_31_5, zs_31_8, zs_31_11, zs_31_12, zs_31_15, zs_31_18, zs_31_28, zs_31_29, zs_31_32, zs_31_33, zs_31_36, zs_31_39, zs_31_40, zs_31_43, zs_31_44, zs_31_45, zs_31_48, d_72 hl, zbk_v, zts_n, if_pos g, zext_of]
    · by_cases g2 : x < -999
      · simp (disch := exact znw_u) only [zc_31, zs_31_0, zs_31_1, zs_31_4, zs_31_5, zs_31_8, zs_31_11, zs_31_12, zs_31_15, zs_31_18, zs_31_28, zs_31_29, zs_31_32, zs_31_33, zs_31_36, zs_31_39, zs_31_40, zs_31_43, zs_31_44, zs_31_45, zs_31_48, d_72 hl, zbk_v, zts_n, if_pos g2, zext_of]
      · simp (disch := exact znw_u) only [zc_31, zs_31_0, zs_31_1, zs_31_4, zs_31_5, zs_31_8, zs_31_11, zs_31_12, zs_31_15, zs_31_18, zs_31_28, zs_31_29, zs_31_32, zs_31_33, zs_31_36, zs_31_39, zs_31_40, zs_31_43, zs_31_44, zs_31_45, zs_31_48, d_72 hl, zbk_v, zts_n, if_neg g2, if_pos g, zext_of]
theorem d_31 {c x : Int32} (hc : zCls h m w) (h1 : ylet c = true) (h2 : ¬ x < -999) (h3 : ¬ nI 999 < x) : zEnd h m (zcall zP sv (d + 6) 31 [.ref m, .int c, .int x] h) 0 0 (.inl (some (.int (yg (ycur w).2.1 (c - nI 97))))) (ysc (yrec w) ((ycur w).1, ys (ycur w).2.1 (c - nI 97) x, (ycur w).2.2)) := by
  have q1 := zCls_0 hc
  have q3 : ∀ X, zrc (h.1 (m + 11)) 5 X = X := fun X => by
    obtain ⟨_, _, _, _, ⟨H, k1, _⟩, _⟩ := hc
    exact zHis_rc k1
  obtain ⟨h1', e1, w1, f1⟩ := d_132E (sv := sv) (d := d + 1) hc
  obtain ⟨S, s1, s2⟩ := w1.2.2.1
  obtain ⟨h2', e2, w2, f2⟩ := d_178 (sv := sv) (d := d + 3) (c := c) (x := x) s1
  have a2 : zAS h2' m (S.1, ys S.2.1 (c - nI 97) x, S.2.2) ((ycur w).1, ys (ycur w).2.1 (c - nI 97) x, (ycur w).2.2) := by
    have hk := zkp_fr (m := m) f2 (by omega)
    obtain ⟨b1, b2, b3⟩ := s2
    have b4 : S.2 = (ycur w).2 := b1
    exact ⟨by rw [b4], zFs_kp b2 hk, b3.1, b3.2.1, ys_len.trans b3.2.2⟩
  refine ⟨h2', ?_, zCls_cur w1 f2 w2 a2, zfx_mono (zfx_tr (zfr_fx f1 (by omega) (by omega)) (zfr_fx f2 (by omega) (by omega))) (Nat.le_refl _) (Nat.le_refl _) (Nat.le_refl _) (Nat.le_refl _)⟩
  have q2 := zCls_0 w1
  have q4 : S.2.1 = (ycur w).2.1 := by
    have : S.2 = (ycur w).2 := s2.1
    rw [this]
  rw [q4] at e2
  simp (disch := exact znw_u) only [zc_31, zs_31_0, zs_31_1, zs_31_4, zs_31_5, zs_31_8, zs_31_11, zs_31_12, zs_31_15, zs_31_18, zs_31_28, zs_31_29, zs_31_32, zs_31_33, zs_31_36, zs_31_39, zs_31_40, zs_31_43, zs_31_44, zs_31_45, zs_31_48, d_72 h1, if_neg h2, if_neg h3, q1, q2, zECc, zrc_1, zf_1_0, zp_1_0, zp_1_0n, zf_1_1, zp_1_1, zf_1_2, zp_1_2, zp_1_2n, zf_1_3, zp_1_3, zp_1_3n, zf_1_4, zp_1_40, zp_1_41, zf_1_5, zp_1_5, zp_1_5n, zf_1_6, zp_1_6, zp_1_6n, zf_1_7, zp_1_7, zp_1_7n, zf_1_8, zp_1_8, zp_1_8n, zf_1_9, zp_1_9, zp_1_9n, zf_1_10, zp_1_10, zp_1_10n, zf_1_11, zp_1_11, zp_1_11n, zf_1_12, zp_1_12, zp_1_12n, q3, e1, zSta_rc s1, e2, zbk_v, zts_s, zts_n]
theorem d_32n {x : Int32} (hc : zCls h m w) (hb : x < nI 1 ∨ nI 4 < x) : zEnd h m (zcall zP sv (d + 6) 32 [.ref m, .int x] h) 1 6 (.inr 1) w := by
  obtain ⟨t1, t2⟩ := zthrow hc
  refine ⟨_, ?_, t1, t2⟩
  by_cases g2 : x < nI 1
  · simp (disch := exact znw_u) only [zc_32, zs_32_0, zs_32_1, zs_32_2, zs_32_5, zs_32_6, zs_32_7, zs_32_10, zs_32_20, zs_32_21, zs_32_24, zs_32_25, zs_32_28, zs_32_31, zs_32_32, zs_32_35, zs_32_36, zs_32_39, if_pos g2, zext_of]
  · simp (disch := exact znw_u) only [zc_32, zs_32_0, zs_32_1, zs_32_2, zs_32_5, zs_32_6, zs_32_7, zs_32_10, zs_32_20, zs_32_21, zs_32_24, zs_32_25, zs_32_28, zs_32_31, zs_32_32, zs_32_35, zs_32_36, zs_32_39, if_neg g2, if_pos (hb.resolve_left g2), zext_of]
theorem d_32 {x : Int32} (hc : zCls h m w) (h2 : ¬ x < nI 1) (h3 : ¬ nI 4 < x) : zEnd h m (zcall zP sv (d + 6) 32 [.ref m, .int x] h) 0 0 (.inl (some (.int (ycur w).2.2.1))) (ysc (yrec w) ((ycur w).1, (ycur w).2.1, x, (ycur w).2.2.2)) := by
  have q1 := zCls_0 hc
  have q3 : ∀ X, zrc (h.1 (m + 11)) 5 X = X := fun X => by
    obtain ⟨_, _, _, _, ⟨H, k1, _⟩, _⟩ := hc
    exact zHis_rc k1
  obtain ⟨h1', e1, w1, f1⟩ := d_132E (sv := sv) (d := d + 1) hc
  obtain ⟨S, s1, s2⟩ := w1.2.2.1
  obtain ⟨h2', e2, w2, f2⟩ := d_179 (sv := sv) (d := d + 4) (x := x) s1
  have q4 : S.2 = (ycur w).2 := s2.1
  have a2 : zAS h2' m (S.1, S.2.1, x, S.2.2.2) ((ycur w).1, (ycur w).2.1, x, (ycur w).2.2.2) := by
    have hk := zkp_fr (m := m) f2 (by omega)
    obtain ⟨b1, b2, b3⟩ := s2
    exact ⟨by rw [q4], zFs_kp b2 hk, b3.1, b3.2.1, b3.2.2⟩
  refine ⟨h2', ?_, zCls_cur w1 f2 w2 a2, zfx_mono (zfx_tr (zfr_fx f1 (by omega) (by omega)) (zfr_fx f2 (by omega) (by omega))) (Nat.le_refl _) (Nat.le_refl _) (Nat.le_refl _) (Nat.le_refl _)⟩
  have q2 := zCls_0 w1
  rw [show S.2.2.1 = (ycur w).2.2.1 by rw [q4]] at e2
  simp (disch := exact znw_u) only [zc_32, zs_32_0, zs_32_1, zs_32_2, zs_32_5, zs_32_6, zs_32_7, zs_32_10, zs_32_20, zs_32_21, zs_32_24, zs_32_25, zs_32_28, zs_32_31, zs_32_32, zs_32_35, zs_32_36, zs_32_39, if_neg h2, if_neg h3, q1, q2, zECc, zrc_1, zf_1_0, zp_1_0, zp_1_0n, zf_1_1, zp_1_1, zf_1_2, zp_1_2, zp_1_2n, zf_1_3, zp_1_3, zp_1_3n, zf_1_4, zp_1_40, zp_1_41, zf_1_5, zp_1_5, zp_1_5n, zf_1_6, zp_1_6, zp_1_6n, zf_1_7, zp_1_7, zp_1_7n, zf_1_8, zp_1_8, zp_1_8n, zf_1_9, zp_1_9, zp_1_9n, zf_1_10, zp_1_10, zp_1_10n, zf_1_11, zp_1_11, zp_1_11n, zf_1_12, zp_1_12, zp_1_12n, q3, e1, zSta_rc s1, e2, zbk_v, zts_s, zts_n]
theorem d_27n {x : Int32} (hc : zCls h m w) (hx : x < 0 ∨ ¬ x < nI (ycur w).1.length) : zEnd h m (zcall zP sv (d + 6) 27 [.ref m, .int x] h) 1 6 (.inr 2) w := by
  obtain ⟨t1, t2⟩ := zthrow hc
  refine ⟨_, ?_, t1, t2⟩
  have q1 := zCls_0 hc
  have e1 := d_70n (sv := sv) (d := d + 3) hc hx
  have q5 : ∀ X : zR, zrc (h.1 m) 1 X = X := fun X => by rw [q1]; exact zrc_k
  simp (disch := exact znw_u) only [zc_27, zs_27_0, zs_27_1, zs_27_2, zs_27_5, zs_27_6, zs_27_7, zs_27_10, zs_27_11, zs_27_14, zs_27_17, zs_27_18, zs_27_21, zs_27_22, zs_27_25, zs_27_26, zs_27_29, zs_27_32, q5, e1, zbk_x]
theorem d_27 {i : Nat} (hc : zCls h m w) (hi : i < (ycur w).1.length) : zEnd h m (zcall zP sv (d + 6) 27 [.ref m, .int (nI i)] h) 0 0 (.inl (some (.int (nI ((ycur w).1.length - 1))))) (ysc (yrec w) ((ycur w).1.eraseIdx i, (ycur w).2)) := by
  have q1 := zCls_0 hc
  have q5 : ∀ X : zR, zrc (h.1 m) 1 X = X := fun X => by rw [q1]; exact zrc_k
  obtain ⟨a, e0, _⟩ := d_70k (sv := sv) (d := d + 3) (t := (ycur w).1[i]) hc (List.getElem?_eq_getElem hi)
  have q3 : ∀ X, zrc (h.1 (m + 11)) 5 X = X := fun X => by
    obtain ⟨_, _, _, _, ⟨H, k1, _⟩, _⟩ := hc
    exact zHis_rc k1
  obtain ⟨h1', e1, w1, f1⟩ := d_132E (sv := sv) (d := d + 1) hc
  obtain ⟨S, s1, s2⟩ := w1.2.2.1
  have hl : S.1.length = (ycur w).1.length := s2.2.1.1
  have z6 := zK6_of s2
  obtain ⟨h2', e2, w2, f2⟩ := d_176 (sv := sv) (d := d + 3) (i := i) s1 (by omega) z6.1 (fun a ha => by have := z6.2 a ha; omega)
  have hle : (S.1.eraseIdx i).length = (ycur w).1.length - 1 := by rw [List.length_eraseIdx, if_pos (by omega), hl]
  have a2 : zAS h2' m (S.1.eraseIdx i, S.2) ((ycur w).1.eraseIdx i, (ycur w).2) := by
    have hk := zkp_fr (m := m) f2 (by omega)
    obtain ⟨b1, b2, b3⟩ := s2
    have b4 := zFs_kp b2 hk
    refine ⟨b1, ⟨by rw [hle, List.length_eraseIdx, if_pos hi], fun j a t h1 h2 => ?_⟩, ?_, fun t ht => b3.2.1 t (List.mem_of_mem_eraseIdx ht), b3.2.2⟩
    · rw [List.getElem?_eraseIdx] at h1 h2
      by_cases hj : j < i
      · rw [if_pos hj] at h1 h2
        exact b4.2 j a t h1 h2
      · rw [if_neg hj] at h1 h2
        exact b4.2 (j + 1) a t h1 h2
    · have := b3.1
      have e9 : ((ycur w).1.eraseIdx i).length = (ycur w).1.length - 1 := by rw [List.length_eraseIdx, if_pos hi]
      show ((ycur w).1.eraseIdx i).length ≤ 6
      have h10 : (ycur w).1.length ≤ 6 := b3.1
      omega
  refine ⟨h2', ?_, zCls_cur w1 f2 w2 a2, zfx_mono (zfx_tr (zfr_fx f1 (by omega) (by omega)) (zfr_fx f2 (by omega) (by omega))) (Nat.le_refl _) (Nat.le_refl _) (Nat.le_refl _) (Nat.le_refl _)⟩
  have q2 := zCls_0 w1
  have q6 : h2'.1 m = zECc m w.2.1 (yb w.2.2.1) := by rw [f2.1 m (by omega)]; exact q2
  have e3 : zcall zP sv (d + 5) 169 [.ref (m + 3)] h2' = some (.inl (some (.int (nI ((ycur w).1.length - 1)))), h2') := by
    rw [zc_169, zs_169_0, zs_169_1, w2.1, zf_3_1, zs_169_4, hle]
  simp (disch := exact znw_u) only [zc_27, zs_27_0, zs_27_1, zs_27_2, zs_27_5, zs_27_6, zs_27_7, zs_27_10, zs_27_11, zs_27_14, zs_27_17, zs_27_18, zs_27_21, zs_27_22, zs_27_25, zs_27_26, zs_27_29, zs_27_32, q5, e0, q1, q2, q6, zECc, zrc_1, zf_1_0, zp_1_0, zp_1_0n, zf_1_1, zp_1_1, zf_1_2, zp_1_2, zp_1_2n, zf_1_3, zp_1_3, zp_1_3n, zf_1_4, zp_1_40, zp_1_41, zf_1_5, zp_1_5, zp_1_5n, zf_1_6, zp_1_6, zp_1_6n, zf_1_7, zp_1_7, zp_1_7n, zf_1_8, zp_1_8, zp_1_8n, zf_1_9, zp_1_9, zp_1_9n, zf_1_10, zp_1_10, zp_1_10n, zf_1_11, zp_1_11, zp_1_11n, zf_1_12, zp_1_12, zp_1_12n, q3, e1, zSta_rc s1, zSta_rc w2, e2, e3, zbk_v, zts_s, zts_n]
theorem d_68 (hc : zCls h m w) : zEnd h m (zcall zP sv (d + 6) 68 [.ref m] h) 0 0 (.inl (some (.int (nI (ycur w).1.length)))) (ysi (ysk w (ycur w)) true) := by
  have q1 := zCls_0 hc
  have hc' := hc
  obtain ⟨c0, c1, ⟨S, s1, s2⟩, ⟨T, t1, t2⟩, _⟩ := hc
  have z6 := zK6_of s2
  obtain ⟨h1, e1, w1, f1⟩ := d_180 (sv := sv) (d := d + 2) t1 s1 (by omega) z6.1 (fun a ha => by have := z6.2 a ha; omega)
  have k1 := zCls_kep hc' f1 w1 (zAS_kp s2 (zkp_fr (m := m) f1 (by omega)))
  have q2 := zCls_0 k1
  have k2 := zCls_ec (e := w.2.1) (b := true) k1
  have s3 := zSta_fr (zSta_fr s1 f1 (by omega)) (zfr_up (lo := m) (hi := m + 1) (a := m) (c := zECc m w.2.1 (yb true)) (by omega) (by omega)) (by omega)
  refine ⟨_, ?_, k2, zfx_mono (zfx_tr (zfr_fx f1 (by omega) (by omega)) (zfr_fx (zfr_up (lo := m) (hi := m + 1) (by omega) (by omega)) (by omega) (by omega))) (Nat.le_refl _) (Nat.le_refl _) (Nat.le_refl _) (Nat.le_refl _)⟩
  have hl : S.1.length = (ycur w).1.length := s2.2.1.1
  have q3 : h1.1 m = zECc m w.2.1 (yb w.2.2.1) := q2
  have e3 : zcall zP sv (d + 5) 169 [.ref (m + 3)] (zup h1 m (zECc m w.2.1 (yb true))) = some (.inl (some (.int (nI (ycur w).1.length))), zup h1 m (zECc m w.2.1 (yb true))) := by
    rw [zc_169, zs_169_0, zs_169_1, s3.1, zf_3_1, zs_169_4, hl]
  rw [yb_t, zECc] at e3
  rw [yb_t, zECc] at s3
  simp (disch := exact znw_u) only [zc_68, zs_68_0, zs_68_1, zs_68_4, zs_68_5, zs_68_8, zs_68_11, zs_68_12, zs_68_13, zs_68_16, zs_68_17, zs_68_20, zs_68_23, c1, q3, zECc, zrc_1, zf_1_0, zp_1_0, zp_1_0n, zf_1_1, zp_1_1, zf_1_2, zp_1_2, zp_1_2n, zf_1_3, zp_1_3, zp_1_3n, zf_1_4, zp_1_40, zp_1_41, zf_1_5, zp_1_5, zp_1_5n, zf_1_6, zp_1_6, zp_1_6n, zf_1_7, zp_1_7, zp_1_7n, zf_1_8, zp_1_8, zp_1_8n, zf_1_9, zp_1_9, zp_1_9n, zf_1_10, zp_1_10, zp_1_10n, zf_1_11, zp_1_11, zp_1_11n, zf_1_12, zp_1_12, zp_1_12n, zSta_rc t1, e1, zup_at, zSta_rc s3, e3, yb_t, zbk_v, zts_s, zts_n]
theorem d_69n (hc : zCls h m w) (hk : w.2.2.1 = false) : zEnd h m (zcall zP sv (d + 6) 69 [.ref m] h) 1 6 (.inr 0) w := by
  obtain ⟨t1, t2⟩ := zthrow hc
  have q1 := zCls_0 hc
  rw [hk, yb_f] at q1
  refine ⟨_, ?_, t1, t2⟩
  simp (disch := exact znw_u) only [zc_69, zs_69_0, zs_69_1, zs_69_4, zs_69_7, zs_69_18, zs_69_19, zs_69_22, zs_69_23, zs_69_26, zs_69_29, zs_69_30, zs_69_33, zs_69_36, zs_69_37, zs_69_40, zs_69_43, q1, zECc, zrc_1, zf_1_0, zp_1_0, zp_1_0n, zf_1_1, zp_1_1, zf_1_2, zp_1_2, zp_1_2n, zf_1_3, zp_1_3, zp_1_3n, zf_1_4, zp_1_40, zp_1_41, zf_1_5, zp_1_5, zp_1_5n, zf_1_6, zp_1_6, zp_1_6n, zf_1_7, zp_1_7, zp_1_7n, zf_1_8, zp_1_8, zp_1_8n, zf_1_9, zp_1_9, zp_1_9n, zf_1_10, zp_1_10, zp_1_10n, zf_1_11, zp_1_11, zp_1_11n, zf_1_12, zp_1_12, zp_1_12n, zext_of, ↓reduceIte]
theorem d_69 (hc : zCls h m w) (hk : w.2.2.1 = true) : zEnd h m (zcall zP sv (d + 6) 69 [.ref m] h) 0 0 (.inl (some (.int (nI (ykep w).1.length)))) (ysh (ysc w (ykep w)) []) := by
  have q1 := zCls_0 hc
  have hc' := hc
  rw [hk, yb_t] at q1
  obtain ⟨c0, c1, ⟨S, s1, s2⟩, ⟨T, t1, t2⟩, ⟨H, g1, g2⟩, _⟩ := hc
  have z6 := zK6_of t2
  obtain ⟨h1, e1, w1, f1⟩ := d_180 (sv := sv) (d := d + 2) s1 t1 (by omega) z6.1 (fun a ha => by have := z6.2 a ha; omega)
  have k1 := zCls_cur hc' f1 w1 (zAS_kp t2 (zkp_fr (m := m) f1 (by omega)))
  have g3 := zHis_fr g1 f1 (by omega)
  obtain ⟨h2, e2, w2, f2⟩ := d_134 (sv := sv) (d := d + 4) g3
  have k2 := zCls_his (HA := []) k1 (zfr_mono f2 (by omega) (by omega)) w2 ⟨rfl, fun j S A h1 => by rw [List.getElem?_nil] at h1; cases h1⟩
  have s3 := zSta_fr w1 f2 (by omega)
  have q2 : h1.1 m = zECc m w.2.1 (nI 1) := by rw [f1.1 m (by omega), q1]
  have q3 : h2.1 m = zECc m w.2.1 (nI 1) := by rw [f2.1 m (by omega), q2]
  have hl : T.1.length = (ykep w).1.length := t2.2.1.1
  have e3 : zcall zP sv (d + 5) 169 [.ref (m + 3)] h2 = some (.inl (some (.int (nI (ykep w).1.length))), h2) := by
    rw [zc_169, zs_169_0, zs_169_1, s3.1, zf_3_1, zs_169_4, hl]
  refine ⟨h2, ?_, k2, zfx_mono (zfx_tr (zfr_fx f1 (by omega) (by omega)) (zfr_fx f2 (by omega) (by omega))) (Nat.le_refl _) (Nat.le_refl _) (Nat.le_refl _) (Nat.le_refl _)⟩
  simp (disch := exact znw_u) only [zc_69, zs_69_0, zs_69_1, zs_69_4, zs_69_7, zs_69_18, zs_69_19, zs_69_22, zs_69_23, zs_69_26, zs_69_29, zs_69_30, zs_69_33, zs_69_36, zs_69_37, zs_69_40, zs_69_43, q1, q2, q3, zECc, zrc_1, zf_1_0, zp_1_0, zp_1_0n, zf_1_1, zp_1_1, zf_1_2, zp_1_2, zp_1_2n, zf_1_3, zp_1_3, zp_1_3n, zf_1_4, zp_1_40, zp_1_41, zf_1_5, zp_1_5, zp_1_5n, zf_1_6, zp_1_6, zp_1_6n, zf_1_7, zp_1_7, zp_1_7n, zf_1_8, zp_1_8, zp_1_8n, zf_1_9, zp_1_9, zp_1_9n, zf_1_10, zp_1_10, zp_1_10n, zf_1_11, zp_1_11, zp_1_11n, zf_1_12, zp_1_12, zp_1_12n, nI_1e0, zSta_rc s1, e1, zHis_rc g3, e2, zSta_rc s3, e3, zbk_v, zts_s, zts_n, ↓reduceIte]
theorem d_67n (hc : zCls h m w) (hk : yhis w = []) : zEnd h m (zcall zP sv (d + 6) 67 [.ref m] h) 1 6 (.inr 0) w := by
  obtain ⟨t1, t2⟩ := zthrow hc
  have q1 := zCls_0 hc
  obtain ⟨_, _, _, _, ⟨H, g1, g2⟩, _⟩ := hc
  have e1 := d_131 (sv := sv) (d := d + 4) g1
  have hl : H.length = (yhis w).length := g2.1
  rw [hl, hk, List.length_nil, nI_0] at e1
  refine ⟨_, ?_, t1, t2⟩
  simp (disch := exact znw_u) only [zc_67, zs_67_0, zs_67_1, zs_67_4, zs_67_7, zs_67_10, zs_67_21, zs_67_22, zs_67_25, zs_67_26, zs_67_29, zs_67_32, zs_67_33, zs_67_36, zs_67_39, q1, zECc, zrc_1, zf_1_0, zp_1_0, zp_1_0n, zf_1_1, zp_1_1, zf_1_2, zp_1_2, zp_1_2n, zf_1_3, zp_1_3, zp_1_3n, zf_1_4, zp_1_40, zp_1_41, zf_1_5, zp_1_5, zp_1_5n, zf_1_6, zp_1_6, zp_1_6n, zf_1_7, zp_1_7, zp_1_7n, zf_1_8, zp_1_8, zp_1_8n, zf_1_9, zp_1_9, zp_1_9n, zf_1_10, zp_1_10, zp_1_10n, zf_1_11, zp_1_11, zp_1_11n, zf_1_12, zp_1_12, zp_1_12n, zHis_rc g1, e1, zbk_v, zts_s, zext_of, ↓reduceIte]
theorem d_67 {A : yA} {HA : List yA} (hc : zCls h m w) (hk : yhis w = A :: HA) : zEnd h m (zcall zP sv (d + 6) 67 [.ref m] h) 0 0 (.inl (some (.int (nI HA.length)))) (ysh (ysc w A) HA) := by
  have q1 := zCls_0 hc
  have hc' := hc
  obtain ⟨c0, c1, ⟨R, s1, s2⟩, ⟨T, t1, t2⟩, ⟨H, g1, g2⟩, ⟨pos, ns, p1⟩, c7, c8⟩ := hc
  have hg2 : zHs h m H (A :: HA) := by
    have : zHs h m H (yhis w) := g2
    rw [hk] at this
    exact this
  cases H with
  | nil => exact absurd hg2.1 (by rw [List.length_nil, List.length_cons]; omega)
  | cons S H =>
    have hA : zAS h m S A := hg2.2 0 S A rfl rfl
    have hHA : zHs h m H HA := ⟨by have := hg2.1; rw [List.length_cons, List.length_cons] at this; omega, fun j S' A' h1 h2 => hg2.2 (j + 1) S' A' (by rw [List.getElem?_cons_succ]; exact h1) (by rw [List.getElem?_cons_succ]; exact h2)⟩
    have z6 := zK6_of hA
    have e1 := d_131 (sv := sv) (d := d + 4) g1
    obtain ⟨h1, e2, w1, w2, f1, f2⟩ := d_133 (sv := sv) (d := d + 1) g1 s1 (by omega) z6.1 (fun a ha => by have := z6.2 a ha; omega) (fun a ha => by have := z6.2 a ha; omega)
    have ff : zfr (m + 3) (m + 45) h h1 := ⟨fun q hq => f1 q (by omega) (by omega), f2⟩
    have hk1 := zkp_fr (m := m) ff (by omega)
    have e3 := d_131 (sv := sv) (d := d + 4) w1
    have hl : H.length = HA.length := hHA.1
    have tt := zSta_cg t1 (fun q a b => f1 q (by omega) (by omega))
    refine ⟨h1, ?_, ⟨by rw [f2]; exact c0, by rw [ff.1 m (by omega)]; exact c1, ⟨S, w2, zAS_kp hA hk1⟩, ⟨T, tt, zAS_kp t2 hk1⟩, ⟨H, w1, zHs_kp hHA hk1⟩, ⟨pos, ns, zPar_cg p1 (zcg_fr ff (by omega))⟩, zScr_cg c7 (zcg_fr ff (by omega)) (zcg_fr ff (by omega)), zOut_kp c8 hk1 (zcg_fr ff (by omega))⟩, zfx_mono (zfr_fx ff (by omega) (by omega)) (Nat.le_refl _) (Nat.le_refl _) (Nat.le_refl _) (Nat.le_refl _)⟩
    have g9 : ¬ nI (S :: H).length = 0 := nI_ne0 (by rw [List.length_cons]; omega) (by have := hg2.1; obtain ⟨nx, _, _, _, _, _, p5⟩ := g1; omega)
    have q2 : h1.1 m = zECc m w.2.1 (yb w.2.2.1) := by rw [ff.1 m (by omega), q1]
    rw [hl] at e3
    simp (disch := exact znw_u) only [zc_67, zs_67_0, zs_67_1, zs_67_4, zs_67_7, zs_67_10, zs_67_21, zs_67_22, zs_67_25, zs_67_26, zs_67_29, zs_67_32, zs_67_33, zs_67_36, zs_67_39, q1, q2, zECc, zrc_1, zf_1_0, zp_1_0, zp_1_0n, zf_1_1, zp_1_1, zf_1_2, zp_1_2, zp_1_2n, zf_1_3, zp_1_3, zp_1_3n, zf_1_4, zp_1_40, zp_1_41, zf_1_5, zp_1_5, zp_1_5n, zf_1_6, zp_1_6, zp_1_6n, zf_1_7, zp_1_7, zp_1_7n, zf_1_8, zp_1_8, zp_1_8n, zf_1_9, zp_1_9, zp_1_9n, zf_1_10, zp_1_10, zp_1_10n, zf_1_11, zp_1_11, zp_1_11n, zf_1_12, zp_1_12, zp_1_12n, zHis_rc g1, e1, if_neg g9, e2, zHis_rc w1, e3, zbk_v, zts_s, zts_n]
end ZDZ

theorem ynl_f {t : yT} (h : (!ynl t) = true) : t = .leaf := by
  cases t with
  | leaf => rfl
  | inner n k v l r => cases h
theorem ytw_el {n : Nat} {k v : Int32} {l r : yT} (h : ytw (.inner n k v l r) = true) : (k = nI 99 ∧ l = .leaf ∧ r = .leaf) ∨ (k = nI 118 ∧ ylet v = true ∧ l = .leaf ∧ r = .leaf) ∨ (k = nI 110 ∧ v = 0 ∧ ytw l = true ∧ r = .leaf) ∨ (yis k = true ∧ v = 0 ∧ ytw l = true ∧ ytw r = true) := by
  have h' : ((decide (k = nI 99) && !ynl l && !ynl r) || (decide (k = nI 118) && ylet v && !ynl l && !ynl r) || (decide (k = nI 110) && decide (v = 0) && ytw l && !ynl r) || (yis k && decide (v = 0) && ytw l && ytw r)) = true := by
    have h0 : (decide (n = 0) && ((decide (k = nI 99) && !ynl l && !ynl r) || (decide (k = nI 118) && ylet v && !ynl l && !ynl r) || (decide (k = nI 110) && decide (v = 0) && ytw l && !ynl r) || (yis k && decide (v = 0) && ytw l && ytw r))) = true := h
    rw [Bool.and_eq_true] at h0
    exact h0.2
  rw [Bool.or_eq_true, Bool.or_eq_true, Bool.or_eq_true] at h'
  rcases h' with ((h1 | h1) | h1) | h1
  · rw [Bool.and_eq_true, Bool.and_eq_true] at h1
    exact Or.inl ⟨of_decide_eq_true h1.1.1, ynl_f h1.1.2, ynl_f h1.2⟩
  · rw [Bool.and_eq_true, Bool.and_eq_true, Bool.and_eq_true] at h1
    exact Or.inr (Or.inl ⟨of_decide_eq_true h1.1.1.1, h1.1.1.2, ynl_f h1.1.2, ynl_f h1.2⟩)
  · rw [Bool.and_eq_true, Bool.and_eq_true, Bool.and_eq_true] at h1
    exact Or.inr (Or.inr (Or.inl ⟨of_decide_eq_true h1.1.1.1, of_decide_eq_true h1.1.1.2, h1.1.2, ynl_f h1.2⟩))
  · rw [Bool.and_eq_true, Bool.and_eq_true, Bool.and_eq_true] at h1
    exact Or.inr (Or.inr (Or.inr ⟨h1.1.1.1, of_decide_eq_true h1.1.1.2, h1.1.2, h1.2⟩))
theorem ytw_0 {n : Nat} {k v : Int32} {l r : yT} (h : ytw (.inner n k v l r) = true) : n = 0 := by
  have h0 : (decide (n = 0) && ((decide (k = nI 99) && !ynl l && !ynl r) || (decide (k = nI 118) && ylet v && !ynl l && !ynl r) || (decide (k = nI 110) && decide (v = 0) && ytw l && !ynl r) || (yis k && decide (v = 0) && ytw l && ytw r))) = true := h
  rw [Bool.and_eq_true] at h0
  exact of_decide_eq_true h0.1
theorem ytw_c {v : Int32} : ytw (ycn v) = true := rfl
theorem ytw_v {v : Int32} (h : ylet v = true) : ytw (ymk (nI 118) v .leaf .leaf) = true := by
  show (decide ((0 : Nat) = 0) && ((decide (nI 118 = nI 99) && !ynl .leaf && !ynl .leaf) || (decide (nI 118 = nI 118) && ylet v && !ynl .leaf && !ynl .leaf) || (decide (nI 118 = nI 110) && decide (v = 0) && ytw .leaf && !ynl .leaf) || (yis (nI 118) && decide (v = 0) && ytw .leaf && ytw .leaf))) = true
  rw [h]
  rfl
theorem ytw_n {a : yT} (h : ytw a = true) : ytw (ymk (nI 110) 0 a .leaf) = true := by
  show (decide ((0 : Nat) = 0) && ((decide (nI 110 = nI 99) && !ynl a && !ynl .leaf) || (decide (nI 110 = nI 118) && ylet 0 && !ynl a && !ynl .leaf) || (decide (nI 110 = nI 110) && decide ((0 : Int32) = 0) && ytw a && !ynl .leaf) || (yis (nI 110) && decide ((0 : Int32) = 0) && ytw a && ytw .leaf))) = true
  rw [h]
  cases ynl a <;> rfl
theorem ytw_o {k : Int32} {a b : yT} (hk : yis k = true) (ha : ytw a = true) (hb : ytw b = true) : ytw (ymk k 0 a b) = true := by
  show (decide ((0 : Nat) = 0) && ((decide (k = nI 99) && !ynl a && !ynl b) || (decide (k = nI 118) && ylet 0 && !ynl a && !ynl b) || (decide (k = nI 110) && decide ((0 : Int32) = 0) && ytw a && !ynl b) || (yis k && decide ((0 : Int32) = 0) && ytw a && ytw b))) = true
  rw [hk, ha, hb]
  simp
theorem ytw_sz : ∀ {t : yT}, ytw t = true → 0 < ysz t
  | .leaf, h => by cases h
  | .inner _ _ _ _ _, _ => Nat.succ_pos _
theorem yis_k {k : Int32} (h : yis k = true) : k = nI 43 ∨ k = nI 45 ∨ k = nI 42 := by
  unfold yis at h
  rw [Bool.or_eq_true, Bool.or_eq_true] at h
  rcases h with (h | h) | h
  · exact Or.inl (of_decide_eq_true h)
  · exact Or.inr (Or.inl (of_decide_eq_true h))
  · exact Or.inr (Or.inr (of_decide_eq_true h))
theorem yis_n110 {k : Int32} (h : yis k = true) : ¬ k = nI 110 := by
  intro g
  rw [g, yis_110] at h
  cases h
theorem ytw_yl {a : yT} (h : ytw a = true) (hk : yk a = nI 110) : ytw (yl a) = true := by
  cases a with
  | leaf => cases h
  | inner n k v l r =>
    have hk' : k = nI 110 := hk
    rcases ytw_el h with g | g | g | g
    · exact absurd (g.1.symm.trans hk') (by decide +kernel)
    · exact absurd (g.1.symm.trans hk') (by decide +kernel)
    · exact g.2.2.1
    · exact absurd hk' (yis_n110 g.1)
theorem ytw_ysn {a : yT} (h : ytw a = true) : ytw (ysn a) = true := by
  unfold ysn
  split
  · exact ytw_c
  · split
    · rename_i h1
      exact ytw_yl h h1
    · exact ytw_n h
theorem ytw_ysp {k : Int32} {a b : yT} (hk : yis k = true) (ha : ytw a = true) (hb : ytw b = true) : ytw (ysp k a b) = true := by
  unfold ysp ysu ysd ysm
  repeat' split
  all_goals first
    | exact ytw_c
    | exact ha
    | exact hb
    | (rename_i h1; exact ytw_yl hb h1)
    | exact ytw_n hb
    | exact ytw_o (by decide +kernel) ha hb
theorem ytw_ysim : ∀ t : yT, ytw t = true → ytw (ysim t) = true
  | .leaf, h => h
  | .inner n k v l r, h => by
    show ytw (if k = nI 110 then ysn (ysim l) else if yis k = true then ysp k (ysim l) (ysim r) else ymk k v .leaf .leaf) = true
    rcases ytw_el h with g | g | g | g
    · rw [g.1, if_neg (by decide +kernel), if_neg (by decide +kernel)]
      exact ytw_c
    · rw [g.1, if_neg (by decide +kernel), if_neg (by decide +kernel)]
      exact ytw_v g.2.1
    · rw [if_pos g.1]
      exact ytw_ysn (ytw_ysim l g.2.2.1)
    · rw [if_neg (yis_n110 g.1), if_pos g.1]
      exact ytw_ysp g.1 (ytw_ysim l g.2.2.1) (ytw_ysim r g.2.2.2)
theorem ysz_yl {a : yT} : ysz (yl a) ≤ ysz a := by
  cases a with
  | leaf => exact Nat.le_refl _
  | inner n k v l r =>
    show ysz l ≤ ysz l + ysz r + 1
    omega
theorem ysz_cn {v : Int32} : ysz (ycn v) = 1 := rfl
theorem ysz_ysn {a : yT} : ysz (ysn a) ≤ ysz a + 1 := by
  have := ysz_yl (a := a)
  unfold ysn
  split
  · rw [ysz_cn]; omega
  · split
    · omega
    · show ysz a + 0 + 1 ≤ _
      omega
theorem ysz_ysp {k : Int32} {a b : yT} : ysz (ysp k a b) ≤ ysz a + ysz b + 1 := by
  have m3 := ysz_yl (a := b)
  have m4 : ∀ k v, ysz (ymk k v b .leaf) = ysz b + 1 := fun k v => rfl
  unfold ysp ysu ysd ysm
  repeat' split
  all_goals first
    | (rw [ysz_cn]; omega)
    | (rw [ysz_mk]; omega)
    | (rw [m4]; omega)
    | omega
theorem ysz_ysim : ∀ t : yT, ysz (ysim t) ≤ ysz t
  | .leaf => Nat.le_refl _
  | .inner n k v l r => by
    have i1 := ysz_ysim l
    have i2 := ysz_ysim r
    show ysz (if k = nI 110 then ysn (ysim l) else if yis k = true then ysp k (ysim l) (ysim r) else ymk k v .leaf .leaf) ≤ ysz l + ysz r + 1
    split
    · have := ysz_ysn (a := ysim l)
      omega
    · split
      · have := ysz_ysp (k := k) (a := ysim l) (b := ysim r)
        omega
      · show 0 + 0 + 1 ≤ _
        omega
theorem ytw_yder {c : Int32} : ∀ t : yT, ytw t = true → ytw (yder c t) = true
  | .leaf, h => h
  | .inner n k v l r, h => by
    show ytw (if k = nI 110 then ymk (nI 110) 0 (yder c l) .leaf else if k = nI 43 ∨ k = nI 45 then ymk k 0 (yder c l) (yder c r) else if k = nI 42 then ymk (nI 43) 0 (ymk (nI 42) 0 (yder c l) r) (ymk (nI 42) 0 l (yder c r)) else ycn (if k = nI 118 ∧ v = c then nI 1 else 0)) = true
    rcases ytw_el h with g | g | g | g
    · rw [if_neg (by rw [g.1]; decide +kernel), if_neg (by rw [g.1]; decide +kernel), if_neg (by rw [g.1]; decide +kernel)]
      exact ytw_c
    · rw [if_neg (by rw [g.1]; decide +kernel), if_neg (by rw [g.1]; decide +kernel), if_neg (by rw [g.1]; decide +kernel)]
      exact ytw_c
    · rw [if_pos g.1]
      exact ytw_n (ytw_yder l g.2.2.1)
    · rw [if_neg (yis_n110 g.1)]
      split
      · exact ytw_o g.1 (ytw_yder l g.2.2.1) (ytw_yder r g.2.2.2)
      · split
        · exact ytw_o yis_43 (ytw_o yis_42 (ytw_yder l g.2.2.1) g.2.2.2) (ytw_o yis_42 g.2.2.1 (ytw_yder r g.2.2.2))
        · exact ytw_c
theorem ytw_yins {c : Int32} {w : yT} (hw : ytw w = true) : ∀ t : yT, ytw t = true → ytw (yins c w t) = true
  | .leaf, h => h
  | .inner n k v l r, h => by
    show ytw (if k = nI 118 ∧ v = c then w else ymk k v (yins c w l) (yins c w r)) = true
    split
    · exact hw
    · rcases ytw_el h with g | g | g | g
      · rw [g.1, g.2.1, g.2.2]
        exact ytw_c
      · rw [g.1, g.2.2.1, g.2.2.2]
        exact ytw_v g.2.1
      · rw [g.1, g.2.1, g.2.2.2]
        exact ytw_n (ytw_yins hw l g.2.2.1)
      · rw [g.2.1]
        exact ytw_o g.1 (ytw_yins hw l g.2.2.1) (ytw_yins hw r g.2.2.2)
theorem ydp_yder {c : Int32} : ∀ t : yT, ydp (yder c t) ≤ 2 * ydp t
  | .leaf => Nat.le_refl _
  | .inner n k v l r => by
    have i1 := ydp_yder (c := c) l
    have i2 := ydp_yder (c := c) r
    show ydp (if k = nI 110 then ymk (nI 110) 0 (yder c l) .leaf else if k = nI 43 ∨ k = nI 45 then ymk k 0 (yder c l) (yder c r) else if k = nI 42 then ymk (nI 43) 0 (ymk (nI 42) 0 (yder c l) r) (ymk (nI 42) 0 l (yder c r)) else ycn (if k = nI 118 ∧ v = c then nI 1 else 0)) ≤ 2 * (max (ydp l) (ydp r) + 1)
    split
    · show max (ydp (yder c l)) 0 + 1 ≤ _
      omega
    · split
      · rw [ydp_mk]
        omega
      · split
        · rw [ydp_mk, ydp_mk, ydp_mk]
          omega
        · rw [ydp_cn]
          omega
theorem ydp_yins {c : Int32} {w : yT} : ∀ t : yT, ydp (yins c w t) ≤ ydp t + ydp w
  | .leaf => Nat.zero_le _
  | .inner n k v l r => by
    have i1 := ydp_yins (c := c) (w := w) l
    have i2 := ydp_yins (c := c) (w := w) r
    show ydp (if k = nI 118 ∧ v = c then w else ymk k v (yins c w l) (yins c w r)) ≤ max (ydp l) (ydp r) + 1 + ydp w
    split
    · omega
    · rw [ydp_mk]
      omega
theorem ysz_dp : ∀ t : yT, ysz t < 2 ^ ydp t
  | .leaf => by decide
  | .inner n k v l r => by
    have i1 := ysz_dp l
    have i2 := ysz_dp r
    have p1 : 2 ^ ydp l ≤ 2 ^ max (ydp l) (ydp r) := Nat.pow_le_pow_right (by decide) (Nat.le_max_left _ _)
    have p2 : 2 ^ ydp r ≤ 2 ^ max (ydp l) (ydp r) := Nat.pow_le_pow_right (by decide) (Nat.le_max_right _ _)
    show ysz l + ysz r + 1 < 2 ^ (max (ydp l) (ydp r) + 1)
    rw [Nat.pow_succ]
    omega
theorem ysz_16 {t : yT} (h : ydp t ≤ 16) : ysz t < 2 ^ 31 := Nat.lt_of_lt_of_le (ysz_dp t) (Nat.pow_le_pow_right (by decide) (by omega))
/-- the nodes of a term in post-order stand for its subterms, the last one for itself -/
theorem ytm_ypo : ∀ (t : yT) (ms : List yN), ywf ms → ms.length + ysz t < 2 ^ 31 → ywf (ms ++ ypo ms.length t) ∧ (ytw t = true → ygt (ytm (ms ++ ypo ms.length t)) (yri ms.length t) = t)
  | .leaf, ms, hw, _ => ⟨by rw [show ypo ms.length (.leaf : yT) = [] from rfl, List.append_nil]; exact hw, fun h => by cases h⟩
  | .inner n k v l r, ms, hw, hl => by
    have hl' : ms.length + (ysz l + ysz r + 1) < 2 ^ 31 := hl
    have e1 : ypo ms.length (.inner n k v l r) = ypo ms.length l ++ ypo (ms.length + ysz l) r ++ [(k, v, yri ms.length l, yri (ms.length + ysz l) r)] := rfl
    obtain ⟨w1, t1⟩ := ytm_ypo l ms hw (by omega)
    have n1 : (ms ++ ypo ms.length l).length = ms.length + ysz l := by rw [List.length_append, ypo_len]
    obtain ⟨w2, t2⟩ := ytm_ypo r (ms ++ ypo ms.length l) w1 (by omega)
    rw [n1] at w2 t2
    have n2 : (ms ++ ypo ms.length l ++ ypo (ms.length + ysz l) r).length = ms.length + ysz l + ysz r := by rw [List.length_append, n1, ypo_len]
    have c1 : ∀ (o : Nat) (u : yT), ych (o + ysz u) (yri o u) := fun o u => by
      cases u with
      | leaf => exact Or.inl rfl
      | inner n k v a b =>
        refine Or.inr ⟨o + ysz a + ysz b, ?_, rfl⟩
        show _ < o + (ysz a + ysz b + 1)
        omega
    have w3 := ywf_snoc (nd := (k, v, yri ms.length l, yri (ms.length + ysz l) r)) w2 (ych_mono (c1 ms.length l) (by omega)) (ych_mono (c1 (ms.length + ysz l) r) (by omega)) (by omega)
    rw [e1, ← List.append_assoc, ← List.append_assoc]
    refine ⟨w3, fun hh => ?_⟩
    have h0 := ytw_0 hh
    subst h0
    have hr : yri ms.length (.inner 0 k v l r) = nI (ms ++ ypo ms.length l ++ ypo (ms.length + ysz l) r).length := by rw [n2]; rfl
    rw [hr, ygt_new (by omega)]
    show ymk k v (ygt _ (yri ms.length l)) (ygt _ (yri (ms.length + ysz l) r)) = ymk k v l r
    have g1 : (l = .leaf ∨ ytw l = true) ∧ (r = .leaf ∨ ytw r = true) := by
      rcases ytw_el hh with g | g | g | g
      · exact ⟨Or.inl g.2.1, Or.inl g.2.2⟩
      · exact ⟨Or.inl g.2.2.1, Or.inl g.2.2.2⟩
      · exact ⟨Or.inr g.2.2.1, Or.inl g.2.2.2⟩
      · exact ⟨Or.inr g.2.2.1, Or.inr g.2.2.2⟩
    have a1 : ygt (ytm (ms ++ ypo ms.length l ++ ypo (ms.length + ysz l) r)) (yri ms.length l) = l := by
      rcases g1.1 with g | g
      · subst g
        rw [show yri ms.length (.leaf : yT) = -1 from rfl, ygt_n]
      · rw [ygt_pre (by omega) (ych_mono (c1 ms.length l) (by omega)), t1 g]
    have a2 : ygt (ytm (ms ++ ypo ms.length l ++ ypo (ms.length + ysz l) r)) (yri (ms.length + ysz l) r) = r := by
      rcases g1.2 with g | g
      · subst g
        rw [show yri (ms.length + ysz l) (.leaf : yT) = -1 from rfl, ygt_n]
      · exact t2 g
    rw [a1, a2]
theorem yform {t : yT} (ht : ytw t = true) (hs : ysz t < 2 ^ 31) : ywf (ypo 0 t) ∧ ygt (ytm (ypo 0 t)) (nI (ysz t - 1)) = t ∧ (ypo 0 t).length = ysz t ∧ 0 < ysz t := by
  obtain ⟨w, e⟩ := ytm_ypo t [] ywf_nil (by rw [List.length_nil]; omega)
  rw [List.length_nil, List.nil_append] at w e
  have h0 := ytw_sz ht
  have hr : yri 0 t = nI (ysz t - 1) := by
    cases t with
    | leaf => cases ht
    | inner n k v l r =>
      show nI (0 + ysz l + ysz r) = nI (ysz l + ysz r + 1 - 1)
      congr 1
      omega
  rw [hr] at e
  exact ⟨w, e ht, ypo_len t 0, h0⟩
theorem ypo_bd {B : Nat} : ∀ (t : yT) (ms : List yN), ywf ms → ms.length + ysz t < 2 ^ 31 → yBd B ms → (t = .leaf ∨ ytw t = true) → ydp t ≤ B → yBd B (ms ++ ypo ms.length t)
  | .leaf, ms, _, _, hb, _, _ => by
    rw [show ypo ms.length (.leaf : yT) = [] from rfl, List.append_nil]
    exact hb
  | .inner n k v l r, ms, hw, hl, hb, ht, hd => by
    have hh := ht.resolve_left (fun g => by cases g)
    have hl' : ms.length + (ysz l + ysz r + 1) < 2 ^ 31 := hl
    have hd' : max (ydp l) (ydp r) + 1 ≤ B := hd
    have g1 : (l = .leaf ∨ ytw l = true) ∧ (r = .leaf ∨ ytw r = true) := by
      rcases ytw_el hh with g | g | g | g
      · exact ⟨Or.inl g.2.1, Or.inl g.2.2⟩
      · exact ⟨Or.inl g.2.2.1, Or.inl g.2.2.2⟩
      · exact ⟨Or.inr g.2.2.1, Or.inl g.2.2.2⟩
      · exact ⟨Or.inr g.2.2.1, Or.inr g.2.2.2⟩
    have i1 := ypo_bd l ms hw (by omega) hb g1.1 (by omega)
    obtain ⟨w1, t1⟩ := ytm_ypo l ms hw (by omega)
    have n1 : (ms ++ ypo ms.length l).length = ms.length + ysz l := by rw [List.length_append, ypo_len]
    have i2 := ypo_bd r (ms ++ ypo ms.length l) w1 (by omega) i1 g1.2 (by omega)
    rw [n1] at i2
    have e1 : ypo ms.length (.inner n k v l r) = ypo ms.length l ++ ypo (ms.length + ysz l) r ++ [(k, v, yri ms.length l, yri (ms.length + ysz l) r)] := rfl
    have n2 : (ms ++ ypo ms.length l ++ ypo (ms.length + ysz l) r).length = ms.length + ysz l + ysz r := by rw [List.length_append, n1, ypo_len]
    have hr : yri ms.length (.inner n k v l r) = nI (ms ++ ypo ms.length l ++ ypo (ms.length + ysz l) r).length := by rw [n2]; rfl
    obtain ⟨w9, t9⟩ := ytm_ypo (.inner n k v l r) ms hw hl
    have e9 := t9 hh
    rw [e1, ← List.append_assoc, ← List.append_assoc, hr, ygt_new (by omega)] at e9
    rw [e1, ← List.append_assoc, ← List.append_assoc]
    refine yBd_snoc i2 ?_
    rw [e9]
    exact hd
theorem yform_bd {t : yT} {B : Nat} (ht : ytw t = true) (hs : ysz t < 2 ^ 31) (hd : ydp t ≤ B) : yBd B (ypo 0 t) := by
  have := ypo_bd t [] ywf_nil (by rw [List.length_nil]; omega) yBd_nil (Or.inr ht) hd
  rw [List.length_nil, List.nil_append] at this
  exact this

theorem zFs_set {h : zH} {m i b : Nat} {as : List Nat} {ts : List yT} {u : yT} (hf : zFs h m as ts) (hi : i < as.length) (hb : m + 139 ≤ b ∧ b + 9 ≤ h.2.1 ∧ zTre h b (ysz u) (ypo 0 u)) : zFs h m (as.set i b) (ts.set i u) := by
  refine ⟨by rw [List.length_set, List.length_set]; exact hf.1, fun j a t h1 h2 => ?_⟩
  have hl := hf.1
  by_cases hj : j = i
  · subst hj
    rw [List.getElem?_set_self hi] at h1
    rw [List.getElem?_set_self (by omega)] at h2
    injection h1 with h1
    injection h2 with h2
    subst h1 h2
    exact hb
  · rw [List.getElem?_set_ne (Ne.symm hj)] at h1 h2
    exact hf.2 j a t h1 h2
theorem zFs_app {h : zH} {m b : Nat} {as : List Nat} {ts : List yT} {u : yT} (hf : zFs h m as ts) (hb : m + 139 ≤ b ∧ b + 9 ≤ h.2.1 ∧ zTre h b (ysz u) (ypo 0 u)) : zFs h m (as ++ [b]) (ts ++ [u]) := by
  have hl := hf.1
  refine ⟨by rw [List.length_append, List.length_append, hl]; rfl, fun j a t h1 h2 => ?_⟩
  by_cases hj : j < as.length
  · rw [List.getElem?_append_left hj] at h1
    rw [List.getElem?_append_left (by omega)] at h2
    exact hf.2 j a t h1 h2
  · rw [List.getElem?_append_right (by omega)] at h1
    rw [List.getElem?_append_right (by omega)] at h2
    have hj2 : j - as.length = 0 := by
      have := (List.getElem?_eq_some_iff.mp h1).1
      have e : [b].length = 1 := rfl
      omega
    rw [hj2] at h1
    rw [show j - ts.length = 0 by omega] at h2
    injection h1 with h1
    injection h2 with h2
    subst h1 h2
    exact hb
theorem zScr_gau {h h' : zH} {m : Nat} {A B C : List Int32} (hs : zScr h m) (hf : ∀ q, q < m + 119 → (q < m + 78 ∨ m + 85 ≤ q) → h'.1 q = h.1 q) (hg : zGau h' (m + 78) A B C) : zScr h' m := by
  obtain ⟨⟨n1, a1⟩, ⟨n2, a2⟩, ⟨P, a3⟩, _, a5, a6⟩ := hs
  exact ⟨⟨n1, zTre_cg a1 (fun q b c => hf q (by omega) (by omega))⟩, ⟨n2, zTre_cg a2 (fun q b c => hf q (by omega) (by omega))⟩, ⟨P, zAl_cg a3 (fun q b c => hf q (by omega) (by omega))⟩, ⟨A, B, C, hg⟩, zNum_cg a5 (fun q b c => hf q (by omega) (by omega)), zCod_cg a6 (fun q b c => hf q (by omega) (by omega))⟩
theorem zScr_ro {h h' : zH} {m : Nat} {ns : List yN} {P : List Int32} (hs : zScr h m) (hf : zf2 (m + 45) (m + 54) (m + 75) (m + 78) h h') (ht : zTre h' (m + 45) 124 ns) (hp : zAl h' (m + 75) P) : zScr h' m := by
  obtain ⟨_, ⟨n2, a2⟩, _, ⟨A, B, C, a4⟩, a5, a6⟩ := hs
  exact ⟨⟨ns, ht⟩, ⟨n2, zTre_cg a2 (zcg_f2 hf (by omega) (by omega))⟩, ⟨P, hp⟩, ⟨A, B, C, zGau_cg a4 (zcg_f2 hf (by omega) (by omega))⟩, zNum_cg a5 (zcg_f2 hf (by omega) (by omega)), zCod_cg a6 (zcg_f2 hf (by omega) (by omega))⟩
theorem zScr_sm {h h' : zH} {m : Nat} {ns : List yN} {P : List Int32} (hs : zScr h m) (hf : zf2 (m + 54) (m + 63) (m + 75) (m + 78) h h') (ht : zTre h' (m + 54) 124 ns) (hp : zAl h' (m + 75) P) : zScr h' m := by
  obtain ⟨⟨n2, a2⟩, _, _, ⟨A, B, C, a4⟩, a5, a6⟩ := hs
  exact ⟨⟨n2, zTre_cg a2 (zcg_f2 hf (by omega) (by omega))⟩, ⟨ns, ht⟩, ⟨P, hp⟩, ⟨A, B, C, zGau_cg a4 (zcg_f2 hf (by omega) (by omega))⟩, zNum_cg a5 (zcg_f2 hf (by omega) (by omega)), zCod_cg a6 (zcg_f2 hf (by omega) (by omega))⟩
theorem zCls_f2 {h h' : zH} {m a b c e : Nat} {w : yW} (hc : zCls h m w) (hf : zf2 a b c e h h') (h1 : m + 45 ≤ a) (h2 : b ≤ m + 63 ∨ m + 75 ≤ a) (h3 : m + 45 ≤ c) (h4 : e ≤ m + 63 ∨ m + 75 ≤ c) (h5 : b ≤ m + 119) (h6 : e ≤ m + 119) (hs : zScr h' m) : zCls h' m w := zCls_q hc (zcg_f2 hf (by omega) (by omega)) (zcg_f2 hf (by omega) (by omega)) ⟨fun q a b => hf.1 q (by omega) (by omega), by rw [hf.2]; exact Nat.le_refl _⟩ hs
section ZEA
variable {sv : Nat → Value} {d : Nat} {h : zH} {m : Nat} {w : yW}
theorem d_175S {s i b : Nat} {S : yS} (hs : zSta h s S) (hi : i < S.1.length) (hb : ∃ vs, h.1 b = (6, vs)) : ∃ h', zcall zP sv (d + 1) 175 [.ref s, .int (nI i), .ref b] h = some (.inl none, h') ∧ zSta h' s (S.1.set i b, S.2) ∧ zfr s (s + 4) h h' := by
  obtain ⟨h1, ⟨F, h2, h3, h4⟩, h5, h6, h7⟩ := hs
  have e1 := d_175 (sv := sv) (d := d) (i := i) (b := b) h1 h2 h3 (by omega) hb
  refine ⟨_, e1, ⟨by rw [zup_ne (by omega), h1, List.length_set], ⟨F.set i (.ref b), zup_at, by rw [List.length_set, h3], fun j hj => ?_⟩, zRow_up h5 (by omega) (by omega), h6, by rw [List.length_set]; exact h7⟩, zfr_up (by omega) (by omega)⟩
  by_cases hj2 : j = i
  · subst hj2
    rw [List.getElem?_set_self (by omega), ygv_k (List.getElem?_set_self hi)]
  · rw [List.getElem?_set_ne (Ne.symm hj2), h4 j hj]
    unfold ygv
    rw [List.getElem?_set_ne (Ne.symm hj2)]
theorem zTre_k6 {t mm : Nat} {ns : List yN} (ht : zTre h t mm ns) : ∃ vs, h.1 t = (6, vs) := by
  obtain ⟨K, N, L, R, e, _⟩ := ht
  exact ⟨_, e⟩
/-- a new formula out of a work tree, at class level -/
theorem d_75E {a ma : Nat} {ns : List yN} {x : Int32} {t : yT} (hc : zCls h m w) (ht : zTre h a ma ns) (hw : ywf ns) (hn : ns.length ≤ 124) (hd : m + 85 ≤ a ∨ a + 9 ≤ m + 78) (hb : a + 9 ≤ h.2.1) (hx : ych ns.length x) (hxt : ygt (ytm ns) x = t) (hs0 : 0 < ysz t) (hs : ysz t ≤ 31) (hdp : ydp t ≤ 40) : ∃ h', zcall zP sv (d + 45) 75 [.ref m, .ref a, .int x] h = some (.inl (some (.ref h.2.1)), h') ∧ zCls h' m w ∧ zfx (m + 78) (m + 85) 9 134 h h' ∧ zTre h' h.2.1 (ysz t) (ypo 0 t) ∧ h'.2.1 = h.2.1 + 9 := by
  have hc' := hc
  have c0 := hc.1
  have cs := hc.2.2.2.2.2.2.1
  obtain ⟨A, B, C, hg⟩ := cs.2.2.2.1
  subst hxt
  obtain ⟨h', A', e, g, T, f, s1, s2⟩ := d_75 (sv := sv) (d := d) (zCls_0 hc) hg ht hw hn hd hb (by omega) hx hs0 (by omega) hdp
  have hfx : zfx (m + 78) (m + 85) 9 134 h h' := ⟨f, by omega, by omega, by omega⟩
  refine ⟨h', e, zCls_q hc' (zcg_fx hfx (by omega) (by omega)) (zcg_fx hfx (by omega) (by omega)) (zkp_fx hfx (by omega)) (zScr_gau cs (fun q q1 q2 => f q (by omega) q2) g), hfx, T, s1⟩
theorem d_28n {x : Int32} (hc : zCls h m w) (hx : x < 0 ∨ ¬ x < nI (ycur w).1.length) : zEnd h m (zcall zP sv (d + 47) 28 [.ref m, .int x] h) 1 6 (.inr 2) w := by
  obtain ⟨t1, t2⟩ := zthrow hc
  refine ⟨_, ?_, t1, t2⟩
  have q1 := zCls_0 hc
  have e1 := d_70n (sv := sv) (d := d + 44) hc hx
  have q5 : ∀ X : zR, zrc (h.1 m) 1 X = X := fun X => by rw [q1]; exact zrc_k
  simp (disch := exact znw_u) only [zc_28, zs_28_0, zs_28_1, zs_28_2, zs_28_5, zs_28_6, zs_28_7, zs_28_10, zs_28_11, zs_28_12, zs_28_15, zs_28_16, zs_28_19, zs_28_22, zs_28_23, zs_28_24, zs_28_25, zs_28_28, zs_28_29, zs_28_32, zs_28_34, zs_28_35, zs_28_38, zs_28_40, zs_28_43, zs_28_44, zs_28_46, zs_28_47, zs_28_50, zs_28_51, zs_28_54, zs_28_57, zs_28_58, zs_28_61, zs_28_62, zs_28_64, zs_28_67, zs_28_68, zs_28_71, zs_28_73, zs_28_76, zs_28_78, q5, e1, zbk_x]
theorem zthr_his (hc : zCls h m w) : ∀ X, zrc (h.1 (m + 11)) 5 X = X := fun X => by
  obtain ⟨_, _, _, _, ⟨H, k1, _⟩, _⟩ := hc
  exact zHis_rc k1
theorem d_28 {i : Nat} {t : yT} (hc : zCls h m w) (hi : (ycur w).1[i]? = some t) : zEnd h m (zcall zP sv (d + 47) 28 [.ref m, .int (nI i)] h) 9 134 (.inl (some (.int (nI (ysz t - ysz (ysim t)))))) (ysc (yrec w) ((ycur w).1.set i (ysim t), (ycur w).2.1, (ycur w).2.2.1, (ycur w).2.2.2 + nI (ysz t - ysz (ysim t)))) := by
  have q1 := zCls_0 hc
  have q5 : ∀ X : zR, zrc (h.1 m) 1 X = X := fun X => by rw [q1]; exact zrc_k
  have c0 := hc.1
  have cs := hc.2.2.2.2.2.2.1
  obtain ⟨a, e0, a1, a2, a3, a4⟩ := d_70k (sv := sv) (d := d + 44) hc hi
  have hil := (List.getElem?_eq_some_iff.mp hi).1
  obtain ⟨f1, f2, f3, f4⟩ := yform a4.1 (by have := a4.2.1; omega)
  obtain ⟨n2, b2⟩ := cs.2.1
  obtain ⟨P, b3⟩ := cs.2.2.1
  have hsz := a4.2.1
  have hdp := a4.2.2
  have hroot : nI (ypo 0 t).length - nI 1 = nI (ysz t - 1) := by
    rw [f3]
    conv => lhs; rw [show ysz t = ysz t - 1 + 1 by omega, ← nI_add, Int32.add_sub_cancel]
  have hdps : ∀ x, ych (ypo 0 t).length x → ydp (ysim (ygt (ytm (ypo 0 t)) x)) ≤ 40 := fun x hx => by
    have h1 := ydp_ysim (ygt (ytm (ypo 0 t)) x)
    have h2 : ∀ (u : yT) (ns : List yN) (y : Int32), ywf ns → ych ns.length y → ydp (ygt (ytm ns) y) ≤ ns.length := fun u ns y hw hy => by
      rcases hy with rfl | ⟨j, hj, rfl⟩
      · rw [ygt_n]; exact Nat.zero_le _
      · have : ∀ n j, j ≤ n → j < ns.length → ydp (ygt (ytm ns) (nI j)) ≤ j + 1 := by
          intro n
          induction n with
          | zero =>
            intro j hj hl
            obtain rfl : j = 0 := by omega
            obtain ⟨nd, hnd⟩ := ynd_ex hl
            have hc := hw.2 0 nd hnd
            have z : ∀ y, ych 0 y → ygt (ytm ns) y = .leaf := fun y hy => by
              rcases hy with rfl | ⟨k, hk, _⟩
              · exact ygt_n
              · omega
            rw [ygt_at hw hnd, z _ hc.1, z _ hc.2]
            exact Nat.le_refl _
          | succ n ih =>
            intro j hj hl
            obtain ⟨nd, hnd⟩ := ynd_ex hl
            have hc := hw.2 j nd hnd
            have z : ∀ y, ych j y → ydp (ygt (ytm ns) y) ≤ j := fun y hy => by
              rcases hy with rfl | ⟨k, hk, rfl⟩
              · rw [ygt_n]; exact Nat.zero_le _
              · have := ih k (by omega) (by omega)
                omega
            rw [ygt_at hw hnd, ydp_mk]
            have := z _ hc.1
            have := z _ hc.2
            omega
        have := this j j (Nat.le_refl _) hj
        omega
    have := h2 t (ypo 0 t) x f1 hx
    omega
  obtain ⟨h1, os, P1, x, e1, o1, o2, o3, o4, o5, o6, o7⟩ := d_95 (sv := sv) (d := d) (rt := nI (ysz t - 1)) f1 (by omega) (show a + 9 ≤ m + 54 ∨ m + 54 + 9 ≤ a by omega) (show a + 9 ≤ m + 75 ∨ m + 75 + 3 ≤ a by omega) (by omega) hdps a3 b2 b3 (Or.inr ⟨ysz t - 1, by omega, rfl⟩)
  rw [f2] at o6
  have C1 := zCls_f2 hc o7 (by omega) (by omega) (by omega) (by omega) (by omega) (by omega) (zScr_sm cs o7 o3 o4)
  have hss := ysz_ysim t
  have hds := ydp_ysim t
  have hw2 := ytw_ysim t a4.1
  have k1 : zkp m h h1 := ⟨fun q p1 p2 => o7.1 q (by omega) (by omega), by rw [o7.2]; exact Nat.le_refl _⟩
  obtain ⟨h2, e2, C2, fx2, T2, s2⟩ := d_75E (sv := sv) (d := d + 1) (t := ysim t) C1 o3 o2 (by omega) (by omega) (by rw [o7.2]; omega) o5 o6 (ytw_sz hw2) (by omega) (by omega)
  rw [o7.2] at e2 T2 s2
  have k2 : zkp m h1 h2 := zkp_fx fx2 (by omega)
  have A2 := zTre_cg a3 (fun q p1 p2 => ((zkp_tr k1 k2).1 q (by omega) (by omega)))
  obtain ⟨h3, e3, C3, f3'⟩ := d_132E (sv := sv) (d := d + 42) C2
  obtain ⟨S, s1, s2'⟩ := C3.2.2.1
  have hl : S.1.length = (ycur w).1.length := s2'.2.1.1
  have T3 := zTre_cg T2 (zcg_fr f3' (by omega))
  obtain ⟨h4, e4, w4, f4'⟩ := d_175S (sv := sv) (d := d + 45) (i := i) s1 (by omega) (zTre_k6 T3)
  obtain ⟨h5, e5, w5, f5'⟩ := d_177 (sv := sv) (d := d + 45) (x := nI (ysz t - ysz (ysim t))) w4
  have f45 := zfr_tr f4' f5'
  have k45 := zkp_fr (m := m) f45 (by omega)
  have T5 := zTre_cg T3 (zcg_fr f45 (by omega))
  have q5S : S.2 = (ycur w).2 := s2'.1
  have b3S := s2'.2.2
  have hA5 : zAS h5 m (S.1.set i h.2.1, S.2.1, S.2.2.1, S.2.2.2 + nI (ysz t - ysz (ysim t))) ((ycur w).1.set i (ysim t), (ycur w).2.1, (ycur w).2.2.1, (ycur w).2.2.2 + nI (ysz t - ysz (ysim t))) := by
    refine ⟨by rw [q5S], zFs_set (zFs_kp s2'.2.1 k45) (by omega) ⟨c0, by rw [f45.2, f3'.2, s2]; exact Nat.le_refl _, T5⟩, ?_, fun u hu => ?_, b3S.2.2⟩
    · rw [List.length_set]; exact b3S.1
    · rcases List.mem_or_eq_of_mem_set hu with g | g
      · exact b3S.2.1 u g
      · rw [g]
        exact ⟨hw2, by omega, by omega⟩
  refine ⟨h5, ?_, zCls_cur C3 f45 w5 hA5, ?_⟩
  · have e6 := d_182 (sv := sv) (d := d + 45) A2
    have e7 := d_182 (sv := sv) (d := d + 45) T2
    have q2 : h2.1 m = zECc m w.2.1 (yb w.2.2.1) := zCls_0 C2
    have q3 : h3.1 m = zECc m w.2.1 (yb w.2.2.1) := zCls_0 (w := yrec w) C3
    have q4 : h4.1 m = zECc m w.2.1 (yb w.2.2.1) := by rw [f4'.1 m (by omega), q3]
    have hp1 := zCls_0 C1
    have q6 : ∀ X : zR, zrc (h1.1 m) 1 X = X := fun X => by rw [hp1]; exact zrc_k
    have edec : nI (ypo 0 t).length - nI (ypo 0 (ysim t)).length = nI (ysz t - ysz (ysim t)) := by
      rw [ypo_len, ypo_len]
      conv => lhs; rw [show ysz t = ysz t - ysz (ysim t) + ysz (ysim t) by omega, ← nI_add, Int32.add_sub_cancel]
    simp (disch := exact znw_u) only [zc_28, zs_28_0, zs_28_1, zs_28_2, zs_28_5, zs_28_6, zs_28_7, zs_28_10, zs_28_11, zs_28_12, zs_28_15, zs_28_16, zs_28_19, zs_28_22, zs_28_23, zs_28_24, zs_28_25, zs_28_28, zs_28_29, zs_28_32, zs_28_34, zs_28_35, zs_28_38, zs_28_40, zs_28_43, zs_28_44, zs_28_46, zs_28_47, zs_28_50, zs_28_51, zs_28_54, zs_28_57, zs_28_58, zs_28_61, zs_28_62, zs_28_64, zs_28_67, zs_28_68, zs_28_71, zs_28_73, zs_28_76, zs_28_78, q5, e0, q1, hp1, q2, q3, q4, zECc, zrc_1, zf_1_0, zp_1_0, zp_1_0n, zf_1_1, zp_1_1, zf_1_2, zp_1_2, zp_1_2n, zf_1_3, zp_1_3, zp_1_3n, zf_1_4, zp_1_40, zp_1_41, zf_1_5, zp_1_5, zp_1_5n, zf_1_6, zp_1_6, zp_1_6n, zf_1_7, zp_1_7, zp_1_7n, zf_1_8, zp_1_8, zp_1_8n, zf_1_9, zp_1_9, zp_1_9n, zf_1_10, zp_1_10, zp_1_10n, zf_1_11, zp_1_11, zp_1_11n, zf_1_12, zp_1_12, zp_1_12n, zAl_rc b3, zTre_rc a3, d_183 a3, hroot, e1, q6, e2, zTre_rc A2, zTre_rc T2, e6, e7, edec, zthr_his C2, e3, zSta_rc s1, e4, zSta_rc w4, e5, zbk_v, zts_s, zts_n]
  · have g1 : zfx m (m + 119) 0 0 h h1 := ⟨fun q _ p => o7.1 q (by omega) (by omega), by rw [o7.2]; exact Nat.le_refl _, by rw [o7.2]; exact Nat.le_refl _, by rw [o7.2]; exact Nat.le_refl _⟩
    exact zfx_mono (zfx_tr g1 (zfx_tr (zfx_mono fx2 (by omega) (by omega) (Nat.le_refl _) (Nat.le_refl _)) (zfx_tr (zfr_fx f3' (by omega) (by omega)) (zfr_fx f45 (by omega) (by omega))))) (Nat.le_refl _) (Nat.le_refl _) (by omega) (by omega)
end ZEA

def yfit (t : yT) : Prop := ysz t ≤ 31 ∧ ydp t ≤ 8
section ZEB
variable {sv : Nat → Value} {d : Nat} {h : zH} {m : Nat} {w : yW}
theorem zCls_g {h' : zH} {A B C : List Int32} (hc : zCls h m w) (hf : zfr (m + 78) (m + 85) h h') (hg : zGau h' (m + 78) A B C) : zCls h' m w := zCls_q hc (zcg_fr hf (by omega)) (zcg_fr hf (by omega)) (zkp_fr hf (by omega)) (zScr_gau hc.2.2.2.2.2.2.1 (fun q _ q2 => hf.1 q q2) hg)
theorem d_74E {a ma : Nat} {ns : List yN} {x : Int32} {t : yT} (hc : zCls h m w) (ht : zTre h a ma ns) (hw : ywf ns) (hn : ns.length ≤ 124) (hd : m + 85 ≤ a ∨ a + 9 ≤ m + 78) (hx : ych ns.length x) (hxt : ygt (ytm ns) x = t) (hsz : ysz t < 2 ^ 31) (hf : yfit t) : ∃ h', zcall zP sv (d + 5) 74 [.ref m, .ref a, .int x] h = some (.inl none, h') ∧ zCls h' m w ∧ zfr (m + 78) (m + 85) h h' := by
  have hdp := ydp_sz t
  have q1 := zCls_0 hc
  obtain ⟨A, B, C, hg⟩ := hc.2.2.2.2.2.2.1.2.2.2.1
  obtain ⟨h1, A1, e1, g1, r1, f1⟩ := d_117 (sv := sv) (d := d) (rt := x) hw (by omega) hn ht hg
  have ht1 := zTre_fr ht f1 (by omega)
  obtain ⟨h2, A2, e2, g2, r2, f2⟩ := d_118 (sv := sv) (d := d) (rt := x) hw (by omega) hn ht1 g1
  rw [yQ_g r1 hx (Nat.le_refl _) hw.1, hxt, yfo_N] at e1
  rw [yQ_g r2 hx (Nat.le_refl _) hw.1, hxt, yfo_L t (by omega)] at e2
  have q2 : h1.1 m = zECc m w.2.1 (yb w.2.2.1) := by rw [f1.1 m (by omega)]; exact q1
  refine ⟨h2, ?_, zCls_g hc (zfr_tr f1 f2) g2, zfr_tr f1 f2⟩
  have c1 : ¬ nI 31 < nI (ysz t) := nI_nlt hf.1 (by decide)
  have c2 : ¬ nI 8 < nI (ydp t) := nI_nlt hf.2 (by decide)
  simp (disch := exact znw_u) only [zc_74, zs_74_0, zs_74_1, zs_74_4, zs_74_5, zs_74_6, zs_74_9, zs_74_11, zs_74_14, zs_74_15, zs_74_18, zs_74_19, zs_74_20, zs_74_23, zs_74_25, zs_74_28, zs_74_39, q1, q2, zECc, zrc_1, zf_1_0, zp_1_0, zp_1_0n, zf_1_1, zp_1_1, zf_1_2, zp_1_2, zp_1_2n, zf_1_3, zp_1_3, zp_1_3n, zf_1_4, zp_1_40, zp_1_41, zf_1_5, zp_1_5, zp_1_5n, zf_1_6, zp_1_6, zp_1_6n, zf_1_7, zp_1_7, zp_1_7n, zf_1_8, zp_1_8, zp_1_8n, zf_1_9, zp_1_9, zp_1_9n, zf_1_10, zp_1_10, zp_1_10n, zf_1_11, zp_1_11, zp_1_11n, zf_1_12, zp_1_12, zp_1_12n, zGau_rc hg, zGau_rc g1, e1, e2, if_neg c1, if_neg c2, zbk_v, zts_s]
theorem d_74n {a ma : Nat} {ns : List yN} {x : Int32} {t : yT} (hc : zCls h m w) (ht : zTre h a ma ns) (hw : ywf ns) (hn : ns.length ≤ 124) (hd : m + 85 ≤ a ∨ a + 9 ≤ m + 78) (hx : ych ns.length x) (hxt : ygt (ytm ns) x = t) (hsz : ysz t < 2 ^ 31) (hf : ¬ yfit t) : ∃ h', zcall zP sv (d + 5) 74 [.ref m, .ref a, .int x] h = some (.inr 3, h') ∧ zCls h' m w ∧ zfx m (m + 119) 1 6 h h' := by
  have hdp := ydp_sz t
  have q1 := zCls_0 hc
  obtain ⟨A, B, C, hg⟩ := hc.2.2.2.2.2.2.1.2.2.2.1
  obtain ⟨h1, A1, e1, g1, r1, f1⟩ := d_117 (sv := sv) (d := d) (rt := x) hw (by omega) hn ht hg
  have ht1 := zTre_fr ht f1 (by omega)
  obtain ⟨h2, A2, e2, g2, r2, f2⟩ := d_118 (sv := sv) (d := d) (rt := x) hw (by omega) hn ht1 g1
  rw [yQ_g r1 hx (Nat.le_refl _) hw.1, hxt, yfo_N] at e1
  rw [yQ_g r2 hx (Nat.le_refl _) hw.1, hxt, yfo_L t (by omega)] at e2
  have q2 : h1.1 m = zECc m w.2.1 (yb w.2.2.1) := by rw [f1.1 m (by omega)]; exact q1
  have hs := hsz
  by_cases c1 : ysz t ≤ 31
  · have c2 : nI 8 < nI (ydp t) := nI_lt (by
      have h9 : ¬ ydp t ≤ 8 := fun g => hf ⟨c1, g⟩
      omega) (by omega)
    have c3 : ¬ nI 31 < nI (ysz t) := nI_nlt c1 (by decide)
    have C2 := zCls_g hc (zfr_tr f1 f2) g2
    obtain ⟨t1, t2⟩ := zthrow C2
    refine ⟨_, ?_, t1, zfx_mono (zfx_tr (zfr_fx (zfr_tr f1 f2) (by omega) (by omega)) t2) (Nat.le_refl _) (Nat.le_refl _) (by omega) (by omega)⟩
    simp (disch := exact znw_u) only [zc_74, zs_74_0, zs_74_1, zs_74_4, zs_74_5, zs_74_6, zs_74_9, zs_74_11, zs_74_14, zs_74_15, zs_74_18, zs_74_19, zs_74_20, zs_74_23, zs_74_25, zs_74_28, zs_74_39, q1, q2, zECc, zrc_1, zf_1_0, zp_1_0, zp_1_0n, zf_1_1, zp_1_1, zf_1_2, zp_1_2, zp_1_2n, zf_1_3, zp_1_3, zp_1_3n, zf_1_4, zp_1_40, zp_1_41, zf_1_5, zp_1_5, zp_1_5n, zf_1_6, zp_1_6, zp_1_6n, zf_1_7, zp_1_7, zp_1_7n, zf_1_8, zp_1_8, zp_1_8n, zf_1_9, zp_1_9, zp_1_9n, zf_1_10, zp_1_10, zp_1_10n, zf_1_11, zp_1_11, zp_1_11n, zf_1_12, zp_1_12, zp_1_12n, zGau_rc hg, zGau_rc g1, e1, e2, if_neg c3, if_pos c2, zbk_v, zts_s, zext_of]
  · have c3 : nI 31 < nI (ysz t) := nI_lt (by omega) hs
    have C2 := zCls_g hc f1 g1
    obtain ⟨t1, t2⟩ := zthrow C2
    refine ⟨_, ?_, t1, zfx_mono (zfx_tr (zfr_fx f1 (by omega) (by omega)) t2) (Nat.le_refl _) (Nat.le_refl _) (by omega) (by omega)⟩
    simp (disch := exact znw_u) only [zc_74, zs_74_0, zs_74_1, zs_74_4, zs_74_5, zs_74_6, zs_74_9, zs_74_11, zs_74_14, zs_74_15, zs_74_18, zs_74_19, zs_74_20, zs_74_23, zs_74_25, zs_74_28, zs_74_39, q1, zECc, zrc_1, zf_1_0, zp_1_0, zp_1_0n, zf_1_1, zp_1_1, zf_1_2, zp_1_2, zp_1_2n, zf_1_3, zp_1_3, zp_1_3n, zf_1_4, zp_1_40, zp_1_41, zf_1_5, zp_1_5, zp_1_5n, zf_1_6, zp_1_6, zp_1_6n, zf_1_7, zp_1_7, zp_1_7n, zf_1_8, zp_1_8, zp_1_8n, zf_1_9, zp_1_9, zp_1_9n, zf_1_10, zp_1_10, zp_1_10n, zf_1_11, zp_1_11, zp_1_11n, zf_1_12, zp_1_12, zp_1_12n, zGau_rc hg, e1, if_pos c3, zbk_v, zts_s, zext_of]
theorem d_73 (hc : zCls h m w) (hl : (ycur w).1.length < 6) : zcall zP sv (d + 2) 73 [.ref m] h = some (.inl none, h) := by
  have q1 := zCls_0 hc
  obtain ⟨_, _, ⟨S, s1, s2⟩, _⟩ := hc
  have hS : S.1.length = (ycur w).1.length := s2.2.1.1
  have g1 : nI S.1.length < nI 6 := nI_lt (by omega) (by decide)
  have e1 : zcall zP sv (d + 1) 169 [.ref (m + 3)] h = some (.inl (some (.int (nI S.1.length))), h) := by
    rw [zc_169, zs_169_0, zs_169_1, s1.1, zf_3_1, zs_169_4]
  simp (disch := exact znw_u) only [zc_73, zs_73_0, zs_73_1, zs_73_4, zs_73_7, zs_73_9, zs_73_12, zs_73_23, q1, zECc, zrc_1, zf_1_0, zp_1_0, zp_1_0n, zf_1_1, zp_1_1, zf_1_2, zp_1_2, zp_1_2n, zf_1_3, zp_1_3, zp_1_3n, zf_1_4, zp_1_40, zp_1_41, zf_1_5, zp_1_5, zp_1_5n, zf_1_6, zp_1_6, zp_1_6n, zf_1_7, zp_1_7, zp_1_7n, zf_1_8, zp_1_8, zp_1_8n, zf_1_9, zp_1_9, zp_1_9n, zf_1_10, zp_1_10, zp_1_10n, zf_1_11, zp_1_11, zp_1_11n, zf_1_12, zp_1_12, zp_1_12n, zSta_rc s1, e1, if_pos g1, zbk_v, zts_s]
theorem d_73n (hc : zCls h m w) (hl : (ycur w).1.length = 6) : zcall zP sv (d + 2) 73 [.ref m] h = some (.inr 0, zext h [(0, [])] 6) := by
  have q1 := zCls_0 hc
  obtain ⟨_, _, ⟨S, s1, s2⟩, _⟩ := hc
  have hS : S.1.length = (ycur w).1.length := s2.2.1.1
  have g1 : ¬ nI S.1.length < nI 6 := nI_nlt (by omega) (by omega)
  have e1 : zcall zP sv (d + 1) 169 [.ref (m + 3)] h = some (.inl (some (.int (nI S.1.length))), h) := by
    rw [zc_169, zs_169_0, zs_169_1, s1.1, zf_3_1, zs_169_4]
  simp (disch := exact znw_u) only [zc_73, zs_73_0, zs_73_1, zs_73_4, zs_73_7, zs_73_9, zs_73_12, zs_73_23, q1, zECc, zrc_1, zf_1_0, zp_1_0, zp_1_0n, zf_1_1, zp_1_1, zf_1_2, zp_1_2, zp_1_2n, zf_1_3, zp_1_3, zp_1_3n, zf_1_4, zp_1_40, zp_1_41, zf_1_5, zp_1_5, zp_1_5n, zf_1_6, zp_1_6, zp_1_6n, zf_1_7, zp_1_7, zp_1_7n, zf_1_8, zp_1_8, zp_1_8n, zf_1_9, zp_1_9, zp_1_9n, zf_1_10, zp_1_10, zp_1_10n, zf_1_11, zp_1_11, zp_1_11n, zf_1_12, zp_1_12, zp_1_12n, zSta_rc s1, e1, if_neg g1, zbk_v, zts_s, zext_of]
/-- a fitting term of a work tree becomes one more formula: history.remember, formulaFrom, append (as the calls end) -/
theorem d_app {a ma : Nat} {ns : List yN} {x : Int32} {t : yT} (hc : zCls h m w) (ht : zTre h a ma ns) (hw : ywf ns) (hn : ns.length ≤ 124) (hd : m + 85 ≤ a ∨ a + 9 ≤ m + 78 ) (hb : a + 9 ≤ h.2.1) (hd2 : m + 45 ≤ a) (hx : ych ns.length x) (hxt : ygt (ytm ns) x = t) (hok : ytok t) (hl : (ycur w).1.length < 6) : ∃ h1 h2 h3, zcall zP sv (d + 45) 132 [.ref (m + 11), .ref (m + 3)] h = some (.inl none, h1) ∧ (∀ X, zrc (h.1 (m + 11)) 5 X = X) ∧ h1.1 m = zECc m w.2.1 (yb w.2.2.1) ∧ zcall zP sv (d + 45) 75 [.ref m, .ref a, .int x] h1 = some (.inl (some (.ref h.2.1)), h2) ∧ h2.1 m = zECc m w.2.1 (yb w.2.2.1) ∧ (∀ X, zrc (h2.1 (m + 3)) 3 X = X) ∧ zcall zP sv (d + 45) 174 [.ref (m + 3), .ref h.2.1] h2 = some (.inl (some (.int (nI (ycur w).1.length))), h3) ∧ zCls h3 m (ysc (yrec w) ((ycur w).1 ++ [t], (ycur w).2)) ∧ zfx m (m + 119) 9 134 h h3 ∧ zfr (m + 11) (m + 45) h h1 := by
  have c0 := hc.1
  obtain ⟨h1, e1, C1, f1⟩ := d_132E (sv := sv) (d := d + 41) hc
  have ht1 := zTre_fr ht f1 (by omega)
  obtain ⟨h2, e2, C2, fx2, T2, s2⟩ := d_75E (sv := sv) (d := d) (t := t) C1 ht1 hw hn hd (by rw [f1.2]; exact hb) hx hxt (ytw_sz hok.1) hok.2.1 (by have := hok.2.2; omega)
  rw [f1.2] at e2 T2 s2
  obtain ⟨S, s1, s2'⟩ := C2.2.2.1
  have hS : S.1.length = (ycur w).1.length := s2'.2.1.1
  obtain ⟨h3, e3, w3, f3⟩ := d_174 (sv := sv) (d := d + 43) (b := h.2.1) s1 (by omega) (zTre_k6 T2) (by omega)
  rw [hS] at e3
  have k3 := zkp_fr (m := m) f3 (by omega)
  have T3 := zTre_cg T2 (zcg_fr f3 (by omega))
  have b3S := s2'.2.2
  have hA3 : zAS h3 m (S.1 ++ [h.2.1], S.2) ((ycur w).1 ++ [t], (ycur w).2) := by
    refine ⟨s2'.1, zFs_app (zFs_kp s2'.2.1 k3) ⟨c0, by rw [f3.2, s2]; exact Nat.le_refl _, T3⟩, ?_, fun u hu => ?_, b3S.2.2⟩
    · rw [List.length_append]
      show (ycur w).1.length + 1 ≤ 6
      omega
    · rcases List.mem_append.mp hu with g | g
      · exact b3S.2.1 u g
      · rw [List.mem_singleton.mp g]
        exact hok
  refine ⟨h1, h2, h3, e1, zthr_his hc, zCls_0 (w := yrec w) C1, e2, zCls_0 (w := yrec w) C2, fun X => zSta_rc s1, e3, zCls_cur C2 f3 w3 hA3, zfx_mono (zfx_tr (zfr_fx f1 (by omega) (by omega)) (zfx_tr (zfx_mono fx2 (by omega) (by omega) (Nat.le_refl _) (Nat.le_refl _)) (zfr_fx f3 (by omega) (by omega)))) (Nat.le_refl _) (Nat.le_refl _) (by omega) (by omega), f1⟩
end ZEB

def yas : Option yT → Nat
  | none => 0
  | some t => ysz t
theorem ypa_sz {cs : List Int32} : ∀ (f m : Nat) (a : Option yT) (op pos : Nat), pos ≤ (ypa cs f m a op pos).2 ∧ ∀ u, (ypa cs f m a op pos).1 = some u → ysz u + pos ≤ (ypa cs f m a op pos).2 + yas a
  | 0, m, a, op, pos => ⟨Nat.le_refl _, fun u h => by cases h⟩
  | f + 1, m, a, op, pos => by
    have ih := ypa_sz (cs := cs) f
    by_cases h0 : m = 0
    · subst h0
      rw [ypa_0]
      have i1 := ih 2 none op pos
      have i2 := ih 1 (ypa cs f 2 none op pos).1 op (ypa cs f 2 none op pos).2
      refine ⟨by omega, fun u hu => ?_⟩
      have := i2.2 u hu
      cases hr : (ypa cs f 2 none op pos).1 with
      | none =>
        rw [hr] at this i2
        have : yas none = 0 := rfl
        omega
      | some v =>
        rw [hr] at this
        have h3 := i1.2 v hr
        have : yas (some v) = ysz v := rfl
        have : yas none = 0 := rfl
        omega
    · by_cases h1 : m = 1
      · subst h1
        cases a with
        | none => rw [ypa_1n]; exact ⟨Nat.le_refl _, fun u h => by cases h⟩
        | some t =>
          rw [ypa_1s]
          split
          · have i1 := ih 2 none op (pos + 1)
            have i2 := ih 1 ((ypa cs f 2 none op (pos + 1)).1.map (fun u => ymk (ycat cs pos) 0 t u)) op (ypa cs f 2 none op (pos + 1)).2
            refine ⟨by omega, fun u hu => ?_⟩
            have := i2.2 u hu
            cases hr : (ypa cs f 2 none op (pos + 1)).1 with
            | none =>
              rw [hr] at this
              have e : yas (Option.map (fun u => ymk (ycat cs pos) 0 t u) none) = 0 := rfl
              have e2 : yas (some t) = ysz t := rfl
              omega
            | some v =>
              rw [hr] at this
              have h3 := i1.2 v hr
              have e : yas (Option.map (fun u => ymk (ycat cs pos) 0 t u) (some v)) = ysz t + ysz v + 1 := rfl
              have e2 : yas (some t) = ysz t := rfl
              have e3 : yas none = 0 := rfl
              omega
          · refine ⟨Nat.le_refl _, fun u hu => ?_⟩
            injection hu with hu
            subst hu
            show ysz t + pos ≤ pos + ysz t
            omega
      · by_cases h2 : m = 2
        · subst h2
          rw [ypa_2]
          have i1 := ih 4 none op pos
          have i2 := ih 3 (ypa cs f 4 none op pos).1 op (ypa cs f 4 none op pos).2
          refine ⟨by omega, fun u hu => ?_⟩
          have := i2.2 u hu
          cases hr : (ypa cs f 4 none op pos).1 with
          | none =>
            rw [hr] at this i2
            have : yas none = 0 := rfl
            omega
          | some v =>
            rw [hr] at this
            have h3 := i1.2 v hr
            have : yas (some v) = ysz v := rfl
            have : yas none = 0 := rfl
            omega
        · by_cases h3 : m = 3
          · subst h3
            cases a with
            | none => rw [ypa_3n]; exact ⟨Nat.le_refl _, fun u h => by cases h⟩
            | some t =>
              rw [ypa_3s]
              split
              · have i1 := ih 4 none op (pos + 1)
                have i2 := ih 3 ((ypa cs f 4 none op (pos + 1)).1.map (fun u => ymk (ycat cs pos) 0 t u)) op (ypa cs f 4 none op (pos + 1)).2
                refine ⟨by omega, fun u hu => ?_⟩
                have := i2.2 u hu
                cases hr : (ypa cs f 4 none op (pos + 1)).1 with
                | none =>
                  rw [hr] at this
                  have e : yas (Option.map (fun u => ymk (ycat cs pos) 0 t u) none) = 0 := rfl
                  have e2 : yas (some t) = ysz t := rfl
                  omega
                | some v =>
                  rw [hr] at this
                  have h3 := i1.2 v hr
                  have e : yas (Option.map (fun u => ymk (ycat cs pos) 0 t u) (some v)) = ysz t + ysz v + 1 := rfl
                  have e2 : yas (some t) = ysz t := rfl
                  have e3 : yas none = 0 := rfl
                  omega
              · refine ⟨Nat.le_refl _, fun u hu => ?_⟩
                injection hu with hu
                subst hu
                show ysz t + pos ≤ pos + ysz t
                omega
          · have e4 : ypa cs (f + 1) m a op pos = ((ypu cs f op (pos + yng cs pos 6)).1.map (ywr (yng cs pos 6)), (ypu cs f op (pos + yng cs pos 6)).2) := by
              conv => lhs; unfold ypa
              rw [if_neg h0, if_neg h1, if_neg h2, if_neg h3]
              rfl
            rw [e4]
            have iu : ∀ p, p ≤ (ypu cs f op p).2 ∧ ∀ u, (ypu cs f op p).1 = some u → ysz u + p ≤ (ypu cs f op p).2 := fun p => by
              unfold ypu
              split
              · have i1 := ih 0 none (op + 1) (p + 1)
                split
                · refine ⟨by show p ≤ (ypa cs f 0 none (op + 1) (p + 1)).2 + 1; omega, fun u hu => ?_⟩
                  have := i1.2 u hu
                  have e3 : yas none = 0 := rfl
                  show ysz u + p ≤ (ypa cs f 0 none (op + 1) (p + 1)).2 + 1
                  omega
                · exact ⟨by show p ≤ (ypa cs f 0 none (op + 1) (p + 1)).2; omega, fun u hu => by cases hu⟩
              · split
                · refine ⟨Nat.le_succ _, fun u hu => ?_⟩
                  injection hu with hu
                  subst hu
                  show 0 + 0 + 1 + p ≤ p + 1
                  omega
                · split
                  · unfold ynum2
                    split
                    · refine ⟨by show p ≤ p + 2; omega, fun u hu => ?_⟩
                      injection hu with hu
                      subst hu
                      show 1 + p ≤ p + 2
                      omega
                    · refine ⟨by show p ≤ p + 1; omega, fun u hu => ?_⟩
                      injection hu with hu
                      subst hu
                      show 1 + p ≤ p + 1
                      omega
                  · exact ⟨Nat.le_refl _, fun u hu => by cases hu⟩
            have i1 := iu (pos + yng cs pos 6)
            have hwr : ∀ n t, ysz (ywr n t) = ysz t + n := fun n => by
              induction n with
              | zero => exact fun t => rfl
              | succ n ih2 =>
                intro t
                show ysz (ywr n (ymk (nI 110) 0 t .leaf)) = _
                rw [ih2]
                show ysz t + 0 + 1 + n = _
                omega
            refine ⟨by show pos ≤ (ypu cs f op (pos + yng cs pos 6)).2; omega, fun u hu => ?_⟩
            have hu' : (ypu cs f op (pos + yng cs pos 6)).1.map (ywr (yng cs pos 6)) = some u := hu
            cases hr : (ypu cs f op (pos + yng cs pos 6)).1 with
            | none => rw [hr] at hu'; cases hu'
            | some v =>
              rw [hr] at hu'
              injection hu' with hu'
              subst hu'
              have := i1.2 v hr
              rw [hwr]
              show ysz v + yng cs pos 6 + pos ≤ (ypu cs f op (pos + yng cs pos 6)).2 + yas a
              omega
theorem ypa_tw {cs : List Int32} : ∀ (f m : Nat) (a : Option yT) (op pos : Nat), (∀ t, a = some t → ytw t = true) → ∀ u, (ypa cs f m a op pos).1 = some u → ytw u = true
  | 0, m, a, op, pos => fun _ u h => by cases h
  | f + 1, m, a, op, pos => by
    have ih := ypa_tw (cs := cs) f
    have hn : ∀ t : yT, (none : Option yT) = some t → ytw t = true := fun t h => by cases h
    intro ha
    by_cases h0 : m = 0
    · subst h0
      rw [ypa_0]
      exact ih 1 _ _ _ (ih 2 none op pos hn)
    · by_cases h1 : m = 1
      · subst h1
        cases a with
        | none => rw [ypa_1n]; exact fun u h => by cases h
        | some t =>
          rw [ypa_1s]
          split
          · rename_i g
            refine ih 1 _ _ _ (fun v hv => ?_)
            cases hr : (ypa cs f 2 none op (pos + 1)).1 with
            | none => rw [hr] at hv; cases hv
            | some x =>
              rw [hr] at hv
              injection hv with hv
              subst hv
              exact ytw_o (by rcases g with g | g <;> rw [g] <;> decide +kernel) (ha t rfl) (ih 2 none op (pos + 1) hn x hr)
          · exact fun u hu => by
              injection hu with hu
              subst hu
              exact ha t rfl
      · by_cases h2 : m = 2
        · subst h2
          rw [ypa_2]
          exact ih 3 _ _ _ (ih 4 none op pos hn)
        · by_cases h3 : m = 3
          · subst h3
            cases a with
            | none => rw [ypa_3n]; exact fun u h => by cases h
            | some t =>
              rw [ypa_3s]
              split
              · rename_i g
                refine ih 3 _ _ _ (fun v hv => ?_)
                cases hr : (ypa cs f 4 none op (pos + 1)).1 with
                | none => rw [hr] at hv; cases hv
                | some x =>
                  rw [hr] at hv
                  injection hv with hv
                  subst hv
                  exact ytw_o (by rw [g]; decide +kernel) (ha t rfl) (ih 4 none op (pos + 1) hn x hr)
              · exact fun u hu => by
                  injection hu with hu
                  subst hu
                  exact ha t rfl
          · have e4 : ypa cs (f + 1) m a op pos = ((ypu cs f op (pos + yng cs pos 6)).1.map (ywr (yng cs pos 6)), (ypu cs f op (pos + yng cs pos 6)).2) := by
              conv => lhs; unfold ypa
              rw [if_neg h0, if_neg h1, if_neg h2, if_neg h3]
              rfl
            rw [e4]
            have iu : ∀ p u, (ypu cs f op p).1 = some u → ytw u = true := fun p u => by
              unfold ypu
              split
              · split
                · exact ih 0 none (op + 1) (p + 1) hn u
                · exact fun hu => by cases hu
              · split
                · rename_i g
                  intro hu
                  injection hu with hu
                  subst hu
                  exact ytw_v g
                · split
                  · unfold ynum2
                    split
                    · intro hu
                      injection hu with hu
                      subst hu
                      exact ytw_c
                    · intro hu
                      injection hu with hu
                      subst hu
                      exact ytw_c
                  · exact fun hu => by cases hu
            have hwr : ∀ n t, ytw t = true → ytw (ywr n t) = true := fun n => by
              induction n with
              | zero => exact fun t h => h
              | succ n ih2 => exact fun t h => ih2 _ (ytw_n h)
            intro u hu
            have hu' : (ypu cs f op (pos + yng cs pos 6)).1.map (ywr (yng cs pos 6)) = some u := hu
            cases hr : (ypu cs f op (pos + yng cs pos 6)).1 with
            | none => rw [hr] at hu'; cases hu'
            | some v =>
              rw [hr] at hu'
              injection hu' with hu'
              subst hu'
              exact hwr _ _ (iu _ v hr)
/-- the text as a formula, or none, and where reading stopped -/
def yadd (cs : List Int32) : Option yT × Nat := (if (ypa cs 4000 0 none 0 0).2 = cs.length then (ypa cs 4000 0 none 0 0).1 else none, (ypa cs 4000 0 none 0 0).2)
theorem yadd_ok {cs : List Int32} {t : yT} (h : (yadd cs).1 = some t) : ytw t = true ∧ ysz t ≤ cs.length ∧ (yadd cs).2 = cs.length := by
  have h' : (if (ypa cs 4000 0 none 0 0).2 = cs.length then (ypa cs 4000 0 none 0 0).1 else none) = some t := h
  split at h'
  · rename_i g
    have := (ypa_sz (cs := cs) 4000 0 none 0 0).2 t h'
    have e : yas none = 0 := rfl
    exact ⟨ypa_tw 4000 0 none 0 0 (fun t h => by cases h) t h', by omega, g⟩
  · cases h'
section ZEC
variable {sv : Nat → Value} {d : Nat} {h : zH}
theorem d_152 {p pos : Nat} {cs : List Int32} {ns : List yN} (hp : zPar h p cs pos ns) : ∃ h' ns' x, zcall zP sv (d + 42) 152 [.ref p] h = some (.inl (some (.int x)), h') ∧ zPar h' p cs (yadd cs).2 ns' ∧ ywf ns' ∧ ns'.length ≤ 60 ∧ (yadd cs).2 ≤ cs.length ∧ zfr p (p + 12) h h' ∧ yis1 ns' x (yadd cs).1 := by
  have h0 := hp.1
  have h60 := hp.2.1.2.2.1
  obtain ⟨h1, e1, w1, f1⟩ := d_190 (sv := sv) (d := d + 40) hp.2.2
  have p1 := zPar_tree hp f1 w1
  have p2 := zPar_pos (pos' := 0) p1
  have a0 := p1.1
  have f2 : zfr p (p + 12) h1 (zup h1 p (7, [.ref (p + 1), .ref (p + 3), .int (nI 0)])) := zfr_up (by omega) (by omega)
  obtain ⟨h3, e, x, e3, q1, q2, q3, q4, f3, q5⟩ := (d_par (sv := sv) (p := p) (cs := cs) 4000).1 0 0 _ [] (d + 41) (by decide) (by omega) (by omega) p2 ywf_nil (Nat.zero_le _) (Nat.zero_le _)
  rw [nI_0] at e3 p2 f2 f3
  have b0 := q1.1
  have e4 := d_138 (sv := sv) (d := d + 40) q1.2.1
  rw [List.nil_append] at q1 q3 q5
  have hz : zTre h3 (p + 3) 60 e := q1.2.2
  have hzl := (zTre_lt hz).2
  have ff := zfr_tr (zfr_tr (zfr_mono f1 (show p ≤ p + 3 by omega) (show p + 3 + 9 ≤ p + 12 by omega)) f2) f3
  by_cases hc : (ypa cs 4000 0 none 0 0).2 = cs.length
  · refine ⟨h3, e, x, ?_, q1, q3, hzl, q4, ff, ?_⟩
    · simp (disch := exact znw_u) only [zc_152, zs_152_0, zs_152_1, zs_152_4, zs_152_7, zs_152_8, zs_152_9, zs_152_12, zs_152_13, zs_152_14, zs_152_17, zs_152_18, zs_152_19, zs_152_22, zs_152_23, zs_152_26, zs_152_29, zs_152_32, zs_152_33, zs_152_36, zs_152_37, h0, a0, zrc_7, zf_7_0, zp_7_0, zp_7_0n, zf_7_1, zp_7_1, zp_7_1n, zf_7_2, zp_7_2, zTre_rc hp.2.2, e1, zPar_rc p2, e3, b0, zInp_rc q1.2.1, e4, hc, zbk_v, zts_s, zts_n, ↓reduceIte]
    · show yis1 e x (if (ypa cs 4000 0 none 0 0).2 = cs.length then (ypa cs 4000 0 none 0 0).1 else none)
      rw [if_pos hc]
      exact q5
  · have g1 : ¬ nI (ypa cs 4000 0 none 0 0).2 = nI cs.length := fun g => hc ((nI_eq (by omega) (by omega)).mp g)
    refine ⟨h3, e, -1, ?_, q1, q3, hzl, q4, ff, ?_⟩
    · simp (disch := exact znw_u) only [zc_152, zs_152_0, zs_152_1, zs_152_4, zs_152_7, zs_152_8, zs_152_9, zs_152_12, zs_152_13, zs_152_14, zs_152_17, zs_152_18, zs_152_19, zs_152_22, zs_152_23, zs_152_26, zs_152_29, zs_152_32, zs_152_33, zs_152_36, zs_152_37, h0, a0, zrc_7, zf_7_0, zp_7_0, zp_7_0n, zf_7_1, zp_7_1, zp_7_1n, zf_7_2, zp_7_2, zTre_rc hp.2.2, e1, zPar_rc p2, e3, b0, zInp_rc q1.2.1, e4, if_neg g1, zbk_v, zts_s, zts_n]
    · show yis1 e (-1) (if (ypa cs 4000 0 none 0 0).2 = cs.length then (ypa cs 4000 0 none 0 0).1 else none)
      rw [if_neg hc]
      rfl
end ZEC

def ythr (x : Nat) : zO := .inr x
/-- what addFormula does -/
def yaddF (w : yW) : zO × yW := match (yadd w.1).1 with
  | none => (.inr 1, yse (ysb w []) (nI (yadd w.1).2))
  | some t => if (ycur w).1.length = 6 then (.inr 0, ysb w []) else if ysz t ≤ 31 ∧ ydp t ≤ 8 then (.inl (some (.int (nI (ycur w).1.length))), ysc (yrec (ysb w [])) ((ycur w).1 ++ [t], (ycur w).2)) else (.inr 3, ysb w [])
theorem yidx_bd {os : List yN} : ∀ (n : Nat) (ns : List yN), ns.length = n → yBd n ns := by
  intro n
  induction n with
  | zero =>
    intro ns hn
    rw [List.length_eq_zero_iff.mp hn]
    exact yBd_nil
  | succ n ih =>
    intro ns hn
    have h0 : ns ≠ [] := by intro h1; rw [h1] at hn; cases hn
    have i1 := ih ns.dropLast (by rw [List.length_dropLast]; omega)
    rw [← List.dropLast_concat_getLast h0]
    have hx : ∀ x, ydp (ygt (ytm ns.dropLast) x) ≤ n := fun x => by
      unfold ygt
      split
      · exact Nat.zero_le _
      · rw [List.getD_eq_getElem?_getD]
        cases hc : (ytm ns.dropLast)[x.toNatClampNeg]? with
        | none => exact Nat.zero_le _
        | some t => exact i1 _ t hc
    refine yBd_snoc (fun j t ht => by have := i1 j t ht; omega) ?_
    rw [ydp_mk]
    have := hx (ns.getLast h0).2.2.1
    have := hx (ns.getLast h0).2.2.2
    omega
section ZED
variable {sv : Nat → Value} {d : Nat} {h : zH} {m : Nat} {w : yW}
theorem d_149 {p pos : Nat} {cs : List Int32} {ns : List yN} (hp : zPar h p cs pos ns) : zcall zP sv (d + 1) 149 [.ref p] h = some (.inl (some (.ref (p + 1))), h) := by
  simp only [zc_149, zs_149_0, zs_149_1, zs_149_4, hp.1, zrc_7, zf_7_0, zp_7_0, zp_7_0n, zf_7_1, zp_7_1, zp_7_1n, zf_7_2, zp_7_2]
theorem d_150 {p pos : Nat} {cs : List Int32} {ns : List yN} (hp : zPar h p cs pos ns) : zcall zP sv (d + 1) 150 [.ref p] h = some (.inl (some (.ref (p + 3))), h) := by
  simp only [zc_150, zs_150_0, zs_150_1, zs_150_4, hp.1, zrc_7, zf_7_0, zp_7_0, zp_7_0n, zf_7_1, zp_7_1, zp_7_1n, zf_7_2, zp_7_2]
theorem d_151 {p pos : Nat} {cs : List Int32} {ns : List yN} (hp : zPar h p cs pos ns) : zcall zP sv (d + 1) 151 [.ref p] h = some (.inl (some (.int (nI pos))), h) := by
  simp only [zc_151, zs_151_0, zs_151_1, zs_151_4, hp.1, zrc_7, zf_7_0, zp_7_0, zp_7_0n, zf_7_1, zp_7_1, zp_7_1n, zf_7_2, zp_7_2]
theorem d_26 (hc : zCls h m w) : zEnd h m (zcall zP sv (d + 47) 26 [.ref m] h) 9 134 (yaddF w).1 (yaddF w).2 := by
  have q1 := zCls_0 hc
  have hc' := hc
  have c0 := hc.1
  obtain ⟨pos, ns0, p1⟩ := hc.2.2.2.2.2.1
  obtain ⟨h1, ns, x, e1, w1, w2, w3, w4, f1, w5⟩ := d_152 (sv := sv) (d := d + 4) p1
  have C1 := zCls_par hc' (zfr_mono f1 (by omega) (by omega)) w1
  have q2 : h1.1 m = zECc m w.2.1 (yb w.2.2.1) := by rw [f1.1 m (by omega)]; exact q1
  obtain ⟨h2, e2, i2, f2⟩ := d_140 (sv := sv) (d := d + 45) w1.2.1
  have p2 : zPar h2 (m + 63) [] (yadd w.1).2 ns := ⟨by rw [f2.1 _ (by omega), w1.1], i2, zTre_fr w1.2.2 f2 (by omega)⟩
  have C2 := zCls_par C1 (zfr_mono f2 (by omega) (by omega)) p2
  have q3 : h2.1 m = zECc m w.2.1 (yb w.2.2.1) := by rw [f2.1 m (by omega)]; exact q2
  have f12 : zfr (m + 63) (m + 75) h h2 := zfr_tr (zfr_mono f1 (by omega) (by omega)) (zfr_mono f2 (by omega) (by omega))
  have e149 := d_149 (sv := sv) (d := d + 45) w1
  have e150 := d_150 (sv := sv) (d := d + 45) p2
  have q5 : ∀ X : zR, zrc (h2.1 m) 1 X = X := fun X => by rw [q3]; exact zrc_k
  unfold yaddF
  cases hr : (yadd w.1).1 with
  | none =>
    dsimp only
    rw [hr] at w5
    have hx : x = -1 := w5
    subst hx
    have e151 := d_151 (sv := sv) (d := d + 45) p2
    have C3 := zCls_ec (e := nI (yadd w.1).2) (b := w.2.2.1) C2
    obtain ⟨t1, t2⟩ := zthrow C3
    refine ⟨_, ?_, t1, zfx_mono (zfx_tr (zfx_tr (zfr_fx f12 (by omega) (by omega)) (zfr_fx (zfr_up (a := m) (lo := m) (hi := m + 1) (by omega) (by omega)) (by omega) (by omega))) t2) (Nat.le_refl _) (Nat.le_refl _) (by omega) (by omega)⟩
    simp (disch := exact znw_u) only [zc_26, zs_26_0, zs_26_1, zs_26_4, zs_26_7, zs_26_8, zs_26_9, zs_26_12, zs_26_15, zs_26_18, zs_26_19, zs_26_20, zs_26_23, zs_26_24, zs_26_25, zs_26_28, zs_26_31, zs_26_34, zs_26_44, zs_26_45, zs_26_48, zs_26_49, zs_26_50, zs_26_53, zs_26_56, zs_26_57, zs_26_60, zs_26_61, zs_26_64, zs_26_65, zs_26_68, zs_26_71, zs_26_72, zs_26_75, zs_26_76, zs_26_77, zs_26_80, zs_26_83, zs_26_84, zs_26_87, zs_26_90, q1, q2, q3, zECc, zrc_1, zf_1_0, zp_1_0, zp_1_0n, zf_1_1, zp_1_1, zf_1_2, zp_1_2, zp_1_2n, zf_1_3, zp_1_3, zp_1_3n, zf_1_4, zp_1_40, zp_1_41, zf_1_5, zp_1_5, zp_1_5n, zf_1_6, zp_1_6, zp_1_6n, zf_1_7, zp_1_7, zp_1_7n, zf_1_8, zp_1_8, zp_1_8n, zf_1_9, zp_1_9, zp_1_9n, zf_1_10, zp_1_10, zp_1_10n, zf_1_11, zp_1_11, zp_1_11n, zf_1_12, zp_1_12, zp_1_12n, zPar_rc p1, e1, zPar_rc w1, e149, zInp_rc w1.2.1, e2, nI_m1e, zPar_rc p2, e151, zbk_v, zts_s, zts_n, zext_of, ↓reduceIte]
  | some t =>
    dsimp only
    rw [hr] at w5
    have ok := yadd_ok hr
    have h60 := w1.2.1.2.2.1
    have e0 : zcall zP sv (d + 47) 26 [.ref m] h = zrun zP sv (zcall zP sv (d + 46)) 26 44 [.val (.ref m), .val (.int x)] [] h2 := by
      simp (disch := exact znw_u) only [zc_26, zs_26_0, zs_26_1, zs_26_4, zs_26_7, zs_26_8, zs_26_9, zs_26_12, zs_26_15, zs_26_18, zs_26_19, zs_26_20, zs_26_23, zs_26_24, zs_26_25, zs_26_28, zs_26_31, zs_26_34, zs_26_45, zs_26_48, zs_26_49, zs_26_50, zs_26_53, zs_26_56, zs_26_57, zs_26_60, zs_26_61, zs_26_64, zs_26_65, zs_26_68, zs_26_71, zs_26_72, zs_26_75, zs_26_76, zs_26_77, zs_26_80, zs_26_83, zs_26_84, zs_26_87, zs_26_90, q1, q2, zECc, zrc_1, zf_1_0, zp_1_0, zp_1_0n, zf_1_1, zp_1_1, zf_1_2, zp_1_2, zp_1_2n, zf_1_3, zp_1_3, zp_1_3n, zf_1_4, zp_1_40, zp_1_41, zf_1_5, zp_1_5, zp_1_5n, zf_1_6, zp_1_6, zp_1_6n, zf_1_7, zp_1_7, zp_1_7n, zf_1_8, zp_1_8, zp_1_8n, zf_1_9, zp_1_9, zp_1_9n, zf_1_10, zp_1_10, zp_1_10n, zf_1_11, zp_1_11, zp_1_11n, zf_1_12, zp_1_12, zp_1_12n, zPar_rc p1, e1, zPar_rc w1, e149, zInp_rc w1.2.1, e2, if_neg w5.1, zbk_v, zts_s, zts_n]
    rw [e0]
    by_cases hl : (ycur w).1.length = 6
    · rw [if_pos hl]
      obtain ⟨t1, t2⟩ := zthrow C2
      refine ⟨_, ?_, t1, zfx_mono (zfx_tr (zfr_fx f12 (by omega) (by omega)) t2) (Nat.le_refl _) (Nat.le_refl _) (by omega) (by omega)⟩
      have e3 := d_73n (sv := sv) (d := d + 44) C2 hl
      simp (disch := exact znw_u) only [zs_26_0, zs_26_1, zs_26_4, zs_26_7, zs_26_8, zs_26_9, zs_26_12, zs_26_15, zs_26_18, zs_26_19, zs_26_20, zs_26_23, zs_26_24, zs_26_25, zs_26_28, zs_26_31, zs_26_34, zs_26_44, zs_26_45, zs_26_48, zs_26_49, zs_26_50, zs_26_53, zs_26_56, zs_26_57, zs_26_60, zs_26_61, zs_26_64, zs_26_65, zs_26_68, zs_26_71, zs_26_72, zs_26_75, zs_26_76, zs_26_77, zs_26_80, zs_26_83, zs_26_84, zs_26_87, zs_26_90, q5, e3, zbk_x]
    · rw [if_neg hl]
      have hl6 : (ycur w).1.length ≤ 6 := by
        obtain ⟨S, s1, s2⟩ := hc'.2.2.1
        exact s2.2.2.1
      have e3 := d_73 (sv := sv) (d := d + 44) C2 (show (ycur w).1.length < 6 by omega)
      by_cases hf : ysz t ≤ 31 ∧ ydp t ≤ 8
      · rw [if_pos hf]
        obtain ⟨h3, e4, C3, f3⟩ := d_74E (sv := sv) (d := d + 41) (t := t) C2 p2.2.2 w2 (by omega) (by omega) w5.2.1 w5.2.2 (by omega) hf
        have ht3 := zTre_fr p2.2.2 f3 (by omega)
        obtain ⟨h4, h5, h6, e5, r5, q6, e6, q7, r7, e7, C6, f6, f4⟩ := d_app (sv := sv) (d := d + 1) (t := t) C3 ht3 w2 (by omega) (by omega) (by have := f3.2; rw [this, f12.2]; omega) (by omega) w5.2.1 w5.2.2 ⟨ok.1, hf⟩ (show (ycur w).1.length < 6 by omega)
        have q8 : h3.1 m = zECc m w.2.1 (yb w.2.2.1) := by rw [f3.1 m (by omega)]; exact q3
        have q9 : h4.1 m = zECc m w.2.1 (yb w.2.2.1) := q6
        have q10 : ∀ X : zR, zrc (h4.1 m) 1 X = X := fun X => by rw [q9]; exact zrc_k
        have q11 : ∀ X : zR, zrc (h3.1 m) 1 X = X := fun X => by rw [q8]; exact zrc_k
        have p4 := zPar_cg p2 (zcg_tr (zcg_fr f3 (by omega)) (zcg_fr f4 (by omega)))
        have e8 := d_150 (sv := sv) (d := d + 45) p4
        refine ⟨h6, ?_, C6, zfx_mono (zfx_tr (zfr_fx (zfr_tr (zfr_mono f12 (Nat.le_refl _) (by omega)) (zfr_mono f3 (by omega) (by omega)) : zfr (m + 63) (m + 85) h h3) (by omega) (by omega)) f6) (Nat.le_refl _) (Nat.le_refl _) (by omega) (by omega)⟩
        simp (disch := exact znw_u) only [zs_26_0, zs_26_1, zs_26_4, zs_26_7, zs_26_8, zs_26_9, zs_26_12, zs_26_15, zs_26_18, zs_26_19, zs_26_20, zs_26_23, zs_26_24, zs_26_25, zs_26_28, zs_26_31, zs_26_34, zs_26_44, zs_26_45, zs_26_48, zs_26_49, zs_26_50, zs_26_53, zs_26_56, zs_26_57, zs_26_60, zs_26_61, zs_26_64, zs_26_65, zs_26_68, zs_26_71, zs_26_72, zs_26_75, zs_26_76, zs_26_77, zs_26_80, zs_26_83, zs_26_84, zs_26_87, zs_26_90, q5, e3, q3, q8, q9, q10, q11, zECc, zrc_1, zf_1_0, zp_1_0, zp_1_0n, zf_1_1, zp_1_1, zf_1_2, zp_1_2, zp_1_2n, zf_1_3, zp_1_3, zp_1_3n, zf_1_4, zp_1_40, zp_1_41, zf_1_5, zp_1_5, zp_1_5n, zf_1_6, zp_1_6, zp_1_6n, zf_1_7, zp_1_7, zp_1_7n, zf_1_8, zp_1_8, zp_1_8n, zf_1_9, zp_1_9, zp_1_9n, zf_1_10, zp_1_10, zp_1_10n, zf_1_11, zp_1_11, zp_1_11n, zf_1_12, zp_1_12, zp_1_12n, zPar_rc p2, e150, e4, r5, e5, zPar_rc p4, e8, e6, r7, e7, zbk_v, zbk_x, zts_s, zts_n]
        rfl
      · rw [if_neg hf]
        obtain ⟨h3, e4, C3, f3⟩ := d_74n (sv := sv) (d := d + 41) (t := t) C2 p2.2.2 w2 (by omega) (by omega) w5.2.1 w5.2.2 (by omega) hf
        refine ⟨h3, ?_, C3, zfx_mono (zfx_tr (zfr_fx f12 (by omega) (by omega)) f3) (Nat.le_refl _) (Nat.le_refl _) (by omega) (by omega)⟩
        simp (disch := exact znw_u) only [zs_26_0, zs_26_1, zs_26_4, zs_26_7, zs_26_8, zs_26_9, zs_26_12, zs_26_15, zs_26_18, zs_26_19, zs_26_20, zs_26_23, zs_26_24, zs_26_25, zs_26_28, zs_26_31, zs_26_34, zs_26_44, zs_26_45, zs_26_48, zs_26_49, zs_26_50, zs_26_53, zs_26_56, zs_26_57, zs_26_60, zs_26_61, zs_26_64, zs_26_65, zs_26_68, zs_26_71, zs_26_72, zs_26_75, zs_26_76, zs_26_77, zs_26_80, zs_26_83, zs_26_84, zs_26_87, zs_26_90, q5, e3, q3, zECc, zrc_1, zf_1_0, zp_1_0, zp_1_0n, zf_1_1, zp_1_1, zf_1_2, zp_1_2, zp_1_2n, zf_1_3, zp_1_3, zp_1_3n, zf_1_4, zp_1_40, zp_1_41, zf_1_5, zp_1_5, zp_1_5n, zf_1_6, zp_1_6, zp_1_6n, zf_1_7, zp_1_7, zp_1_7n, zf_1_8, zp_1_8, zp_1_8n, zf_1_9, zp_1_9, zp_1_9n, zf_1_10, zp_1_10, zp_1_10n, zf_1_11, zp_1_11, zp_1_11n, zf_1_12, zp_1_12, zp_1_12n, zPar_rc p2, e150, e4, zbk_v, zbk_x, zts_s, zts_n]
theorem yroot_sub {t : yT} (h : 0 < ysz t) : nI (ypo 0 t).length - nI 1 = nI (ysz t - 1) := by
  rw [ypo_len]
  conv => lhs; rw [show ysz t = ysz t - 1 + 1 by omega, ← nI_add, Int32.add_sub_cancel]
theorem d_29n {x c : Int32} (hc : zCls h m w) (hx : x < 0 ∨ ¬ x < nI (ycur w).1.length) : zEnd h m (zcall zP sv (d + 48) 29 [.ref m, .int x, .int c] h) 1 6 (.inr 2) w := by
  obtain ⟨t1, t2⟩ := zthrow hc
  refine ⟨_, ?_, t1, t2⟩
  have q1 := zCls_0 hc
  have e1 := d_70n (sv := sv) (d := d + 45) hc hx
  have q5 : ∀ X : zR, zrc (h.1 m) 1 X = X := fun X => by rw [q1]; exact zrc_k
  simp (disch := exact znw_u) only [zc_29, zs_29_0, zs_29_1, zs_29_2, zs_29_5, zs_29_6, zs_29_7, zs_29_10, zs_29_11, zs_29_14, zs_29_15, zs_29_18, zs_29_19, zs_29_20, zs_29_21, zs_29_24, zs_29_27, zs_29_29, zs_29_30, zs_29_33, zs_29_34, zs_29_37, zs_29_39, zs_29_40, zs_29_43, zs_29_46, zs_29_48, zs_29_49, zs_29_50, zs_29_53, zs_29_55, zs_29_58, zs_29_59, zs_29_62, zs_29_63, zs_29_66, zs_29_69, zs_29_70, zs_29_73, zs_29_74, zs_29_75, zs_29_78, zs_29_80, zs_29_83, zs_29_86, q5, e1, zbk_x]
/-- what differentiate does to a formula that is there -/
def yderF (w : yW) (t : yT) (c : Int32) : zO × yW := if ylet c = false then (.inr 1, w) else if (ycur w).1.length = 6 then (.inr 0, w) else if ysz (ysim (yder c t)) ≤ 31 ∧ ydp (ysim (yder c t)) ≤ 8 then (.inl (some (.int (nI (ycur w).1.length))), ysc (yrec w) ((ycur w).1 ++ [ysim (yder c t)], (ycur w).2)) else (.inr 3, w)
theorem d_29 {i : Nat} {t : yT} {c : Int32} (hc : zCls h m w) (hi : (ycur w).1[i]? = some t) : zEnd h m (zcall zP sv (d + 48) 29 [.ref m, .int (nI i), .int c] h) 9 134 (yderF w t c).1 (yderF w t c).2 := by
  have q1 := zCls_0 hc
  have q5 : ∀ X : zR, zrc (h.1 m) 1 X = X := fun X => by rw [q1]; exact zrc_k
  have c0 := hc.1
  have cs := hc.2.2.2.2.2.2.1
  obtain ⟨a, e0, a1, a2, a3, a4⟩ := d_70k (sv := sv) (d := d + 45) hc hi
  unfold yderF
  cases hl : ylet c with
  | false =>
    rw [if_pos rfl]
    obtain ⟨t1, t2⟩ := zthrow hc
    refine ⟨_, ?_, t1, zfx_mono t2 (Nat.le_refl _) (Nat.le_refl _) (by omega) (by omega)⟩
    simp (disch := exact znw_u) only [zc_29, zs_29_0, zs_29_1, zs_29_2, zs_29_5, zs_29_6, zs_29_7, zs_29_10, zs_29_11, zs_29_14, zs_29_15, zs_29_18, zs_29_19, zs_29_20, zs_29_21, zs_29_24, zs_29_27, zs_29_29, zs_29_30, zs_29_33, zs_29_34, zs_29_37, zs_29_39, zs_29_40, zs_29_43, zs_29_46, zs_29_48, zs_29_49, zs_29_50, zs_29_53, zs_29_55, zs_29_58, zs_29_59, zs_29_62, zs_29_63, zs_29_66, zs_29_69, zs_29_70, zs_29_73, zs_29_74, zs_29_75, zs_29_78, zs_29_80, zs_29_83, zs_29_86, q5, e0, d_72n hl, zbk_v, zbk_x, zts_s]
  | true =>
    rw [if_neg (by decide)]
    by_cases hn : (ycur w).1.length = 6
    · rw [if_pos hn]
      obtain ⟨t1, t2⟩ := zthrow hc
      have e3 := d_73n (sv := sv) (d := d + 45) hc hn
      refine ⟨_, ?_, t1, zfx_mono t2 (Nat.le_refl _) (Nat.le_refl _) (by omega) (by omega)⟩
      simp (disch := exact znw_u) only [zc_29, zs_29_0, zs_29_1, zs_29_2, zs_29_5, zs_29_6, zs_29_7, zs_29_10, zs_29_11, zs_29_14, zs_29_15, zs_29_18, zs_29_19, zs_29_20, zs_29_21, zs_29_24, zs_29_27, zs_29_29, zs_29_30, zs_29_33, zs_29_34, zs_29_37, zs_29_39, zs_29_40, zs_29_43, zs_29_46, zs_29_48, zs_29_49, zs_29_50, zs_29_53, zs_29_55, zs_29_58, zs_29_59, zs_29_62, zs_29_63, zs_29_66, zs_29_69, zs_29_70, zs_29_73, zs_29_74, zs_29_75, zs_29_78, zs_29_80, zs_29_83, zs_29_86, q5, e0, d_72 hl, e3, zbk_v, zbk_x, zts_s, zts_n]
    · rw [if_neg hn]
      have hl6 : (ycur w).1.length ≤ 6 := by
        obtain ⟨S, s1, s2⟩ := hc.2.2.1
        exact s2.2.2.1
      have e3 := d_73 (sv := sv) (d := d + 45) hc (show (ycur w).1.length < 6 by omega)
      have hsz := a4.2.1
      have hdp := a4.2.2
      obtain ⟨f1, f2, f3, f4⟩ := yform a4.1 (by omega)
      obtain ⟨n1, b1⟩ := cs.1
      obtain ⟨P, b3⟩ := cs.2.2.1
      have hbd : yBd 8 (ypo 0 t) := yform_bd a4.1 (by omega) hdp
      obtain ⟨h1, os, P1, x, e1, o1, o2, oB, o3, o4, o5, o6, o7⟩ := d_93 (sv := sv) (d := d + 42) (c := c) f1 (by omega) (by omega) (show a + 9 ≤ m + 45 ∨ m + 45 + 9 ≤ a by omega) (show a + 9 ≤ m + 75 ∨ m + 75 + 3 ≤ a by omega) (by omega) a3 b1 b3 (B := 16) (fun j u hu => by
        have h8 := ydp_yder (c := c) u
        have h9 := hbd j u hu
        omega) (fun j u hu => by
        have h9 := hbd j u hu
        omega)
      rw [f3, f2] at o6
      have C1 := zCls_f2 hc o7 (by omega) (by omega) (by omega) (by omega) (by omega) (by omega) (zScr_ro cs o7 o3 o4)
      have cs1 := C1.2.2.2.2.2.2.1
      obtain ⟨n2, b2⟩ := cs1.2.1
      obtain ⟨h2, os2, P2, x2, e2, r1, r2, r3, r4, r5, r6, r7⟩ := d_95 (sv := sv) (d := d + 1) (rt := x) o2 o1 (show m + 45 + 9 ≤ m + 54 ∨ m + 54 + 9 ≤ m + 45 by omega) (by omega) (by omega) (fun y hy => by
        have h8 := ydp_ysim (ygt (ytm os) y)
        have h9 := yBd_x oB (by have := o2.1; omega) hy
        omega) o3 b2 o4 o5
      rw [o6] at r6
      have C2 := zCls_f2 C1 r7 (by omega) (by omega) (by omega) (by omega) (by omega) (by omega) (zScr_sm cs1 r7 r3 r4)
      have hds := ydp_ysim (yder c t)
      have hdd := ydp_yder (c := c) t
      have hw2 := ytw_ysim _ (ytw_yder (c := c) t a4.1)
      have s12 : h2.2 = h.2 := r7.2.trans o7.2
      have g12 : zfx m (m + 119) 0 0 h h2 := ⟨fun q _ p => (r7.1 q (by omega) (by omega)).trans (o7.1 q (by omega) (by omega)), by rw [s12]; exact Nat.le_refl _, by rw [s12]; exact Nat.le_refl _, by rw [s12]; exact Nat.le_refl _⟩
      have p1 : h1.1 m = zECc m w.2.1 (yb w.2.2.1) := zCls_0 C1
      have p2 : h2.1 m = zECc m w.2.1 (yb w.2.2.1) := zCls_0 C2
      have p3 : ∀ X : zR, zrc (h1.1 m) 1 X = X := fun X => by rw [p1]; exact zrc_k
      have p4 : ∀ X : zR, zrc (h2.1 m) 1 X = X := fun X => by rw [p2]; exact zrc_k
      by_cases hf : ysz (ysim (yder c t)) ≤ 31 ∧ ydp (ysim (yder c t)) ≤ 8
      · rw [if_pos hf]
        obtain ⟨h3, e4, C3, f3'⟩ := d_74E (sv := sv) (d := d + 42) (t := ysim (yder c t)) C2 r3 r2 (by omega) (by omega) r5 r6 (ysz_16 (by omega)) hf
        have ht3 := zTre_fr r3 f3' (by omega)
        obtain ⟨h4, h5, h6, e5, u5, q6, e6, q7, u7, e7, C6, f6, f4'⟩ := d_app (sv := sv) (d := d + 2) (t := ysim (yder c t)) C3 ht3 r2 (by omega) (by omega) (by rw [f3'.2, s12]; omega) (by omega) r5 r6 ⟨hw2, hf⟩ (show (ycur w).1.length < 6 by omega)
        have q8 : h3.1 m = zECc m w.2.1 (yb w.2.2.1) := zCls_0 C3
        have q10 : ∀ X : zR, zrc (h4.1 m) 1 X = X := fun X => by rw [q6]; exact zrc_k
        refine ⟨h6, ?_, C6, zfx_mono (zfx_tr g12 (zfx_tr (zfr_fx f3' (by omega) (by omega)) f6)) (Nat.le_refl _) (Nat.le_refl _) (by omega) (by omega)⟩
        simp (disch := exact znw_u) only [zc_29, zs_29_0, zs_29_1, zs_29_2, zs_29_5, zs_29_6, zs_29_7, zs_29_10, zs_29_11, zs_29_14, zs_29_15, zs_29_18, zs_29_19, zs_29_20, zs_29_21, zs_29_24, zs_29_27, zs_29_29, zs_29_30, zs_29_33, zs_29_34, zs_29_37, zs_29_39, zs_29_40, zs_29_43, zs_29_46, zs_29_48, zs_29_49, zs_29_50, zs_29_53, zs_29_55, zs_29_58, zs_29_59, zs_29_62, zs_29_63, zs_29_66, zs_29_69, zs_29_70, zs_29_73, zs_29_74, zs_29_75, zs_29_78, zs_29_80, zs_29_83, zs_29_86, q5, e0, d_72 hl, e3, q1, p1, p2, p3, p4, q8, q6, q7, q10, zECc, zrc_1, zf_1_0, zp_1_0, zp_1_0n, zf_1_1, zp_1_1, zf_1_2, zp_1_2, zp_1_2n, zf_1_3, zp_1_3, zp_1_3n, zf_1_4, zp_1_40, zp_1_41, zf_1_5, zp_1_5, zp_1_5n, zf_1_6, zp_1_6, zp_1_6n, zf_1_7, zp_1_7, zp_1_7n, zf_1_8, zp_1_8, zp_1_8n, zf_1_9, zp_1_9, zp_1_9n, zf_1_10, zp_1_10, zp_1_10n, zf_1_11, zp_1_11, zp_1_11n, zf_1_12, zp_1_12, zp_1_12n, zAl_rc b3, e1, zAl_rc o4, e2, e4, u5, e5, e6, u7, e7, zbk_v, zbk_x, zts_s, zts_n]
      · rw [if_neg hf]
        obtain ⟨h3, e4, C3, f3'⟩ := d_74n (sv := sv) (d := d + 42) (t := ysim (yder c t)) C2 r3 r2 (by omega) (by omega) r5 r6 (ysz_16 (by omega)) hf
        refine ⟨h3, ?_, C3, zfx_mono (zfx_tr g12 f3') (Nat.le_refl _) (Nat.le_refl _) (by omega) (by omega)⟩
        simp (disch := exact znw_u) only [zc_29, zs_29_0, zs_29_1, zs_29_2, zs_29_5, zs_29_6, zs_29_7, zs_29_10, zs_29_11, zs_29_14, zs_29_15, zs_29_18, zs_29_19, zs_29_20, zs_29_21, zs_29_24, zs_29_27, zs_29_29, zs_29_30, zs_29_33, zs_29_34, zs_29_37, zs_29_39, zs_29_40, zs_29_43, zs_29_46, zs_29_48, zs_29_49, zs_29_50, zs_29_53, zs_29_55, zs_29_58, zs_29_59, zs_29_62, zs_29_63, zs_29_66, zs_29_69, zs_29_70, zs_29_73, zs_29_74, zs_29_75, zs_29_78, zs_29_80, zs_29_83, zs_29_86, q5, e0, d_72 hl, e3, q1, p1, p2, p3, p4, zECc, zrc_1, zf_1_0, zp_1_0, zp_1_0n, zf_1_1, zp_1_1, zf_1_2, zp_1_2, zp_1_2n, zf_1_3, zp_1_3, zp_1_3n, zf_1_4, zp_1_40, zp_1_41, zf_1_5, zp_1_5, zp_1_5n, zf_1_6, zp_1_6, zp_1_6n, zf_1_7, zp_1_7, zp_1_7n, zf_1_8, zp_1_8, zp_1_8n, zf_1_9, zp_1_9, zp_1_9n, zf_1_10, zp_1_10, zp_1_10n, zf_1_11, zp_1_11, zp_1_11n, zf_1_12, zp_1_12, zp_1_12n, zAl_rc b3, e1, zAl_rc o4, e2, e4, zbk_v, zbk_x, zts_s, zts_n]
end ZED

/-- what substitute does to formulas that are there -/
def yinsF (w : yW) (i : Nat) (t : yT) (c : Int32) (u : yT) : zO × yW := if ylet c = false then (.inr 1, w) else if ysz (yins c u t) ≤ 31 ∧ ydp (yins c u t) ≤ 8 then (.inl (some (.int (nI (ysz (yins c u t))))), ysc (yrec w) ((ycur w).1.set i (yins c u t), (ycur w).2)) else (.inr 3, w)
section ZEE
variable {sv : Nat → Value} {d : Nat} {h : zH} {m : Nat} {w : yW}
theorem d_30n {x c y : Int32} (hc : zCls h m w) (hx : x < 0 ∨ ¬ x < nI (ycur w).1.length) : zEnd h m (zcall zP sv (d + 48) 30 [.ref m, .int x, .int c, .int y] h) 1 6 (.inr 2) w := by
  obtain ⟨t1, t2⟩ := zthrow hc
  refine ⟨_, ?_, t1, t2⟩
  have q1 := zCls_0 hc
  have e1 := d_70n (sv := sv) (d := d + 45) hc hx
  have q5 : ∀ X : zR, zrc (h.1 m) 1 X = X := fun X => by rw [q1]; exact zrc_k
  simp (disch := exact znw_u) only [zc_30, zs_30_0, zs_30_1, zs_30_2, zs_30_5, zs_30_7, zs_30_8, zs_30_9, zs_30_12, zs_30_14, zs_30_15, zs_30_18, zs_30_19, zs_30_22, zs_30_24, zs_30_25, zs_30_27, zs_30_28, zs_30_31, zs_30_34, zs_30_36, zs_30_37, zs_30_38, zs_30_41, zs_30_43, zs_30_46, zs_30_47, zs_30_50, zs_30_51, zs_30_54, zs_30_57, zs_30_58, zs_30_59, zs_30_62, zs_30_64, zs_30_67, zs_30_69, zs_30_70, zs_30_73, zs_30_74, zs_30_76, zs_30_79, zs_30_81, zs_30_84, q5, e1, zbk_x]
theorem d_30m {i : Nat} {t : yT} {c y : Int32} (hc : zCls h m w) (hi : (ycur w).1[i]? = some t) (hx : y < 0 ∨ ¬ y < nI (ycur w).1.length) : zEnd h m (zcall zP sv (d + 48) 30 [.ref m, .int (nI i), .int c, .int y] h) 1 6 (.inr 2) w := by
  obtain ⟨t1, t2⟩ := zthrow hc
  refine ⟨_, ?_, t1, t2⟩
  have q1 := zCls_0 hc
  obtain ⟨a, e0, a1, a2, a3, a4⟩ := d_70k (sv := sv) (d := d + 45) hc hi
  have e1 := d_70n (sv := sv) (d := d + 45) hc hx
  have q5 : ∀ X : zR, zrc (h.1 m) 1 X = X := fun X => by rw [q1]; exact zrc_k
  simp (disch := exact znw_u) only [zc_30, zs_30_0, zs_30_1, zs_30_2, zs_30_5, zs_30_7, zs_30_8, zs_30_9, zs_30_12, zs_30_14, zs_30_15, zs_30_18, zs_30_19, zs_30_22, zs_30_24, zs_30_25, zs_30_27, zs_30_28, zs_30_31, zs_30_34, zs_30_36, zs_30_37, zs_30_38, zs_30_41, zs_30_43, zs_30_46, zs_30_47, zs_30_50, zs_30_51, zs_30_54, zs_30_57, zs_30_58, zs_30_59, zs_30_62, zs_30_64, zs_30_67, zs_30_69, zs_30_70, zs_30_73, zs_30_74, zs_30_76, zs_30_79, zs_30_81, zs_30_84, q5, e0, e1, zbk_v, zbk_x, zts_s]
theorem d_30 {i j : Nat} {t u : yT} {c : Int32} (hc : zCls h m w) (hi : (ycur w).1[i]? = some t) (hj : (ycur w).1[j]? = some u) : zEnd h m (zcall zP sv (d + 48) 30 [.ref m, .int (nI i), .int c, .int (nI j)] h) 9 134 (yinsF w i t c u).1 (yinsF w i t c u).2 := by
  have q1 := zCls_0 hc
  have q5 : ∀ X : zR, zrc (h.1 m) 1 X = X := fun X => by rw [q1]; exact zrc_k
  have c0 := hc.1
  have cs := hc.2.2.2.2.2.2.1
  obtain ⟨a, e0, a1, a2, a3, a4⟩ := d_70k (sv := sv) (d := d + 45) hc hi
  obtain ⟨b, e0', b1, b2, b3, b4⟩ := d_70k (sv := sv) (d := d + 45) hc hj
  have hil := (List.getElem?_eq_some_iff.mp hi).1
  unfold yinsF
  cases hl : ylet c with
  | false =>
    rw [if_pos rfl]
    obtain ⟨t1, t2⟩ := zthrow hc
    refine ⟨_, ?_, t1, zfx_mono t2 (Nat.le_refl _) (Nat.le_refl _) (by omega) (by omega)⟩
    simp (disch := exact znw_u) only [zc_30, zs_30_0, zs_30_1, zs_30_2, zs_30_5, zs_30_7, zs_30_8, zs_30_9, zs_30_12, zs_30_14, zs_30_15, zs_30_18, zs_30_19, zs_30_22, zs_30_24, zs_30_25, zs_30_27, zs_30_28, zs_30_31, zs_30_34, zs_30_36, zs_30_37, zs_30_38, zs_30_41, zs_30_43, zs_30_46, zs_30_47, zs_30_50, zs_30_51, zs_30_54, zs_30_57, zs_30_58, zs_30_59, zs_30_62, zs_30_64, zs_30_67, zs_30_69, zs_30_70, zs_30_73, zs_30_74, zs_30_76, zs_30_79, zs_30_81, zs_30_84, q5, e0, e0', d_72n hl, zbk_v, zbk_x, zts_s]
  | true =>
    rw [if_neg (by decide)]
    have hsz := a4.2.1
    have hdp := a4.2.2
    have hsz2 := b4.2.1
    have hdp2 := b4.2.2
    obtain ⟨f1, f2, f3, f4⟩ := yform a4.1 (by omega)
    obtain ⟨g1, g2, g3, g4⟩ := yform b4.1 (by omega)
    obtain ⟨n1, z1⟩ := cs.1
    obtain ⟨P, z3⟩ := cs.2.2.1
    obtain ⟨h1, os, P1, x, e1, o1, o2, o3, o4, o5, o6, o7⟩ := d_92 (sv := sv) (d := d + 42) (c := c) f1 (by omega) (by omega) g1 (by omega) (by omega) (show a + 9 ≤ m + 45 ∨ m + 45 + 9 ≤ a by omega) (show a + 9 ≤ m + 75 ∨ m + 75 + 3 ≤ a by omega) (by omega) (show m + 45 + 9 ≤ b ∨ b + 9 ≤ m + 45 by omega) a3 b3 z1 z3
    rw [f3, f2, g3, g2] at o6
    have C1 := zCls_f2 hc o7 (by omega) (by omega) (by omega) (by omega) (by omega) (by omega) (zScr_ro cs o7 o3 o4)
    have hdd := ydp_yins (c := c) (w := u) t
    have hw2 := ytw_yins (c := c) b4.1 t a4.1
    have g12 : zfx m (m + 119) 0 0 h h1 := ⟨fun q _ p => o7.1 q (by omega) (by omega), by rw [o7.2]; exact Nat.le_refl _, by rw [o7.2]; exact Nat.le_refl _, by rw [o7.2]; exact Nat.le_refl _⟩
    have p1 : h1.1 m = zECc m w.2.1 (yb w.2.2.1) := zCls_0 C1
    have p3 : ∀ X : zR, zrc (h1.1 m) 1 X = X := fun X => by rw [p1]; exact zrc_k
    by_cases hf : ysz (yins c u t) ≤ 31 ∧ ydp (yins c u t) ≤ 8
    · rw [if_pos hf]
      obtain ⟨h3, e4, C3, f3'⟩ := d_74E (sv := sv) (d := d + 42) (t := yins c u t) C1 o3 o2 (by omega) (by omega) o5 o6 (ysz_16 (by omega)) hf
      have ht3 := zTre_fr o3 f3' (by omega)
      obtain ⟨h4, e5, C4, f4'⟩ := d_132E (sv := sv) (d := d + 43) C3
      have ht4 := zTre_fr ht3 f4' (by omega)
      have s4 : h4.2 = h.2 := f4'.2.trans (f3'.2.trans o7.2)
      obtain ⟨h5, e6, C5, fx5, T5, s5⟩ := d_75E (sv := sv) (d := d + 2) (t := yins c u t) C4 ht4 o2 (by omega) (by omega) (by rw [s4]; omega) o5 o6 (ytw_sz hw2) hf.1 (by omega)
      rw [s4] at e6 T5 s5
      obtain ⟨S, s1, s2'⟩ := C5.2.2.1
      have hS : S.1.length = (ycur w).1.length := s2'.2.1.1
      obtain ⟨h6, e7, w6, f6⟩ := d_175S (sv := sv) (d := d + 46) (i := i) s1 (by omega) (zTre_k6 T5)
      have k6 := zkp_fr (m := m) f6 (by omega)
      have T6 := zTre_cg T5 (zcg_fr f6 (by omega))
      have b3S := s2'.2.2
      have hA6 : zAS h6 m (S.1.set i h.2.1, S.2) ((ycur w).1.set i (yins c u t), (ycur w).2) := by
        refine ⟨s2'.1, zFs_set (zFs_kp s2'.2.1 k6) (by omega) ⟨c0, by rw [f6.2, s5]; exact Nat.le_refl _, T6⟩, ?_, fun v hv => ?_, b3S.2.2⟩
        · rw [List.length_set]; exact b3S.1
        · rcases List.mem_or_eq_of_mem_set hv with g | g
          · exact b3S.2.1 v g
          · rw [g]
            exact ⟨hw2, hf⟩
      have e8 := d_182 (sv := sv) (d := d + 46) T6
      rw [ypo_len] at e8
      have q3 : h3.1 m = zECc m w.2.1 (yb w.2.2.1) := zCls_0 C3
      have q4 : h4.1 m = zECc m w.2.1 (yb w.2.2.1) := zCls_0 (w := yrec w) C4
      have q6 : h5.1 m = zECc m w.2.1 (yb w.2.2.1) := zCls_0 (w := yrec w) C5
      have q10 : ∀ X : zR, zrc (h4.1 m) 1 X = X := fun X => by rw [q4]; exact zrc_k
      refine ⟨h6, ?_, zCls_cur C5 f6 w6 hA6, zfx_mono (zfx_tr g12 (zfx_tr (zfr_fx f3' (by omega) (by omega)) (zfx_tr (zfr_fx f4' (by omega) (by omega)) (zfx_tr (zfx_mono fx5 (by omega) (by omega) (Nat.le_refl _) (Nat.le_refl _)) (zfr_fx f6 (by omega) (by omega)))))) (Nat.le_refl _) (Nat.le_refl _) (by omega) (by omega)⟩
      simp (disch := exact znw_u) only [zc_30, zs_30_0, zs_30_1, zs_30_2, zs_30_5, zs_30_7, zs_30_8, zs_30_9, zs_30_12, zs_30_14, zs_30_15, zs_30_18, zs_30_19, zs_30_22, zs_30_24, zs_30_25, zs_30_27, zs_30_28, zs_30_31, zs_30_34, zs_30_36, zs_30_37, zs_30_38, zs_30_41, zs_30_43, zs_30_46, zs_30_47, zs_30_50, zs_30_51, zs_30_54, zs_30_57, zs_30_58, zs_30_59, zs_30_62, zs_30_64, zs_30_67, zs_30_69, zs_30_70, zs_30_73, zs_30_74, zs_30_76, zs_30_79, zs_30_81, zs_30_84, q5, e0, e0', d_72 hl, q1, p1, p3, q3, q4, q6, q10, zECc, zrc_1, zf_1_0, zp_1_0, zp_1_0n, zf_1_1, zp_1_1, zf_1_2, zp_1_2, zp_1_2n, zf_1_3, zp_1_3, zp_1_3n, zf_1_4, zp_1_40, zp_1_41, zf_1_5, zp_1_5, zp_1_5n, zf_1_6, zp_1_6, zp_1_6n, zf_1_7, zp_1_7, zp_1_7n, zf_1_8, zp_1_8, zp_1_8n, zf_1_9, zp_1_9, zp_1_9n, zf_1_10, zp_1_10, zp_1_10n, zf_1_11, zp_1_11, zp_1_11n, zf_1_12, zp_1_12, zp_1_12n, zAl_rc z3, e1, e4, zthr_his C3, e5, e6, zSta_rc s1, e7, zTre_rc T6, e8, zbk_v, zbk_x, zts_s, zts_n]
    · rw [if_neg hf]
      obtain ⟨h3, e4, C3, f3'⟩ := d_74n (sv := sv) (d := d + 42) (t := yins c u t) C1 o3 o2 (by omega) (by omega) o5 o6 (ysz_16 (by omega)) hf
      refine ⟨h3, ?_, C3, zfx_mono (zfx_tr g12 f3') (Nat.le_refl _) (Nat.le_refl _) (by omega) (by omega)⟩
      simp (disch := exact znw_u) only [zc_30, zs_30_0, zs_30_1, zs_30_2, zs_30_5, zs_30_7, zs_30_8, zs_30_9, zs_30_12, zs_30_14, zs_30_15, zs_30_18, zs_30_19, zs_30_22, zs_30_24, zs_30_25, zs_30_27, zs_30_28, zs_30_31, zs_30_34, zs_30_36, zs_30_37, zs_30_38, zs_30_41, zs_30_43, zs_30_46, zs_30_47, zs_30_50, zs_30_51, zs_30_54, zs_30_57, zs_30_58, zs_30_59, zs_30_62, zs_30_64, zs_30_67, zs_30_69, zs_30_70, zs_30_73, zs_30_74, zs_30_76, zs_30_79, zs_30_81, zs_30_84, q5, e0, e0', d_72 hl, q1, p1, p3, zECc, zrc_1, zf_1_0, zp_1_0, zp_1_0n, zf_1_1, zp_1_1, zf_1_2, zp_1_2, zp_1_2n, zf_1_3, zp_1_3, zp_1_3n, zf_1_4, zp_1_40, zp_1_41, zf_1_5, zp_1_5, zp_1_5n, zf_1_6, zp_1_6, zp_1_6n, zf_1_7, zp_1_7, zp_1_7n, zf_1_8, zp_1_8, zp_1_8n, zf_1_9, zp_1_9, zp_1_9n, zf_1_10, zp_1_10, zp_1_10n, zf_1_11, zp_1_11, zp_1_11n, zf_1_12, zp_1_12, zp_1_12n, zAl_rc z3, e1, e4, zbk_v, zbk_x, zts_s, zts_n]
end ZEE

section ZEF
variable {sv : Nat → Value} {d : Nat} {h : zH} {m : Nat} {w : yW}
theorem zEC1 (hc : zCls h m w) : ∀ X : zR, zrc (h.1 m) 1 X = X := fun X => by
  rw [zCls_0 hc]
  exact zrc_k
theorem d_36n {x0 : Int32} (hc : zCls h m w) (hx : x0 < 0 ∨ ¬ x0 < nI (ycur w).1.length) : zEnd h m (zcall zP sv (d + 48) 36 [.ref m, .int x0] h) 1 6 (.inr 2) w := by
  obtain ⟨t1, t2⟩ := zthrow hc
  refine ⟨_, ?_, t1, t2⟩
  have q1 := zCls_0 hc
  have e1 := d_70n (sv := sv) (d := d + 45) hc hx
  simp (disch := exact znw_u) only [zc_36, zs_36_0, zs_36_1, zs_36_2, zs_36_5, zs_36_8, q1, zECc, zrc_1, zf_1_0, zp_1_0, zp_1_0n, zf_1_1, zp_1_1, zf_1_2, zp_1_2, zp_1_2n, zf_1_3, zp_1_3, zp_1_3n, zf_1_4, zp_1_40, zp_1_41, zf_1_5, zp_1_5, zp_1_5n, zf_1_6, zp_1_6, zp_1_6n, zf_1_7, zp_1_7, zp_1_7n, zf_1_8, zp_1_8, zp_1_8n, zf_1_9, zp_1_9, zp_1_9n, zf_1_10, zp_1_10, zp_1_10n, zf_1_11, zp_1_11, zp_1_11n, zf_1_12, zp_1_12, zp_1_12n, zEC1 hc, e1, zbk_x]
theorem d_37n {x0 : Int32} (hc : zCls h m w) (hx : x0 < 0 ∨ ¬ x0 < nI (ycur w).1.length) : zEnd h m (zcall zP sv (d + 48) 37 [.ref m, .int x0] h) 1 6 (.inr 2) w := by
  obtain ⟨t1, t2⟩ := zthrow hc
  refine ⟨_, ?_, t1, t2⟩
  have q1 := zCls_0 hc
  have e1 := d_70n (sv := sv) (d := d + 45) hc hx
  simp (disch := exact znw_u) only [zc_37, zs_37_0, zs_37_1, zs_37_2, zs_37_5, zs_37_6, zs_37_7, zs_37_10, zs_37_11, zs_37_12, zs_37_15, zs_37_18, q1, zECc, zrc_1, zf_1_0, zp_1_0, zp_1_0n, zf_1_1, zp_1_1, zf_1_2, zp_1_2, zp_1_2n, zf_1_3, zp_1_3, zp_1_3n, zf_1_4, zp_1_40, zp_1_41, zf_1_5, zp_1_5, zp_1_5n, zf_1_6, zp_1_6, zp_1_6n, zf_1_7, zp_1_7, zp_1_7n, zf_1_8, zp_1_8, zp_1_8n, zf_1_9, zp_1_9, zp_1_9n, zf_1_10, zp_1_10, zp_1_10n, zf_1_11, zp_1_11, zp_1_11n, zf_1_12, zp_1_12, zp_1_12n, zEC1 hc, e1, zbk_x]
theorem d_38n {x0 : Int32} {x1 : Int32} (hc : zCls h m w) (hx : x0 < 0 ∨ ¬ x0 < nI (ycur w).1.length) : zEnd h m (zcall zP sv (d + 48) 38 [.ref m, .int x0, .int x1] h) 1 6 (.inr 2) w := by
  obtain ⟨t1, t2⟩ := zthrow hc
  refine ⟨_, ?_, t1, t2⟩
  have q1 := zCls_0 hc
  have e1 := d_70n (sv := sv) (d := d + 45) hc hx
  simp (disch := exact znw_u) only [zc_38, zs_38_0, zs_38_1, zs_38_2, zs_38_5, zs_38_6, zs_38_7, zs_38_10, zs_38_11, zs_38_13, zs_38_14, zs_38_16, zs_38_18, zs_38_19, zs_38_22, zs_38_25, zs_38_26, zs_38_28, zs_38_29, zs_38_32, zs_38_35, zs_38_38, zs_38_41, zs_38_44, zs_38_46, q1, zECc, zrc_1, zf_1_0, zp_1_0, zp_1_0n, zf_1_1, zp_1_1, zf_1_2, zp_1_2, zp_1_2n, zf_1_3, zp_1_3, zp_1_3n, zf_1_4, zp_1_40, zp_1_41, zf_1_5, zp_1_5, zp_1_5n, zf_1_6, zp_1_6, zp_1_6n, zf_1_7, zp_1_7, zp_1_7n, zf_1_8, zp_1_8, zp_1_8n, zf_1_9, zp_1_9, zp_1_9n, zf_1_10, zp_1_10, zp_1_10n, zf_1_11, zp_1_11, zp_1_11n, zf_1_12, zp_1_12, zp_1_12n, zEC1 hc, e1, zbk_x]
theorem d_39n {x0 : Int32} (hc : zCls h m w) (hx : x0 < 0 ∨ ¬ x0 < nI (ycur w).1.length) : zEnd h m (zcall zP sv (d + 48) 39 [.ref m, .int x0] h) 1 6 (.inr 2) w := by
  obtain ⟨t1, t2⟩ := zthrow hc
  refine ⟨_, ?_, t1, t2⟩
  have q1 := zCls_0 hc
  have e1 := d_70n (sv := sv) (d := d + 45) hc hx
  simp (disch := exact znw_u) only [zc_39, zs_39_0, zs_39_1, zs_39_4, zs_39_5, zs_39_6, zs_39_9, zs_39_12, q1, zECc, zrc_1, zf_1_0, zp_1_0, zp_1_0n, zf_1_1, zp_1_1, zf_1_2, zp_1_2, zp_1_2n, zf_1_3, zp_1_3, zp_1_3n, zf_1_4, zp_1_40, zp_1_41, zf_1_5, zp_1_5, zp_1_5n, zf_1_6, zp_1_6, zp_1_6n, zf_1_7, zp_1_7, zp_1_7n, zf_1_8, zp_1_8, zp_1_8n, zf_1_9, zp_1_9, zp_1_9n, zf_1_10, zp_1_10, zp_1_10n, zf_1_11, zp_1_11, zp_1_11n, zf_1_12, zp_1_12, zp_1_12n, zEC1 hc, e1, zbk_x]
theorem d_40n {x0 : Int32} (hc : zCls h m w) (hx : x0 < 0 ∨ ¬ x0 < nI (ycur w).1.length) : zEnd h m (zcall zP sv (d + 48) 40 [.ref m, .int x0] h) 1 6 (.inr 2) w := by
  obtain ⟨t1, t2⟩ := zthrow hc
  refine ⟨_, ?_, t1, t2⟩
  have q1 := zCls_0 hc
  have e1 := d_70n (sv := sv) (d := d + 45) hc hx
  simp (disch := exact znw_u) only [zc_40, zs_40_0, zs_40_1, zs_40_2, zs_40_5, zs_40_6, zs_40_7, zs_40_8, zs_40_9, zs_40_10, zs_40_13, zs_40_16, zs_40_17, zs_40_18, zs_40_21, zs_40_23, zs_40_26, zs_40_27, zs_40_28, zs_40_31, zs_40_34, zs_40_35, q1, zECc, zrc_1, zf_1_0, zp_1_0, zp_1_0n, zf_1_1, zp_1_1, zf_1_2, zp_1_2, zp_1_2n, zf_1_3, zp_1_3, zp_1_3n, zf_1_4, zp_1_40, zp_1_41, zf_1_5, zp_1_5, zp_1_5n, zf_1_6, zp_1_6, zp_1_6n, zf_1_7, zp_1_7, zp_1_7n, zf_1_8, zp_1_8, zp_1_8n, zf_1_9, zp_1_9, zp_1_9n, zf_1_10, zp_1_10, zp_1_10n, zf_1_11, zp_1_11, zp_1_11n, zf_1_12, zp_1_12, zp_1_12n, zEC1 hc, e1, zbk_x]
theorem d_41n {x0 : Int32} {x1 : Int32} (hc : zCls h m w) (hx : x0 < 0 ∨ ¬ x0 < nI (ycur w).1.length) : zEnd h m (zcall zP sv (d + 48) 41 [.ref m, .int x0, .int x1] h) 1 6 (.inr 2) w := by
  obtain ⟨t1, t2⟩ := zthrow hc
  refine ⟨_, ?_, t1, t2⟩
  have q1 := zCls_0 hc
  have e1 := d_70n (sv := sv) (d := d + 45) hc hx
  simp (disch := exact znw_u) only [zc_41, zs_41_0, zs_41_1, zs_41_2, zs_41_5, zs_41_6, zs_41_7, zs_41_8, zs_41_11, zs_41_13, zs_41_14, zs_41_15, zs_41_18, zs_41_20, zs_41_22, zs_41_25, zs_41_26, zs_41_29, q1, zECc, zrc_1, zf_1_0, zp_1_0, zp_1_0n, zf_1_1, zp_1_1, zf_1_2, zp_1_2, zp_1_2n, zf_1_3, zp_1_3, zp_1_3n, zf_1_4, zp_1_40, zp_1_41, zf_1_5, zp_1_5, zp_1_5n, zf_1_6, zp_1_6, zp_1_6n, zf_1_7, zp_1_7, zp_1_7n, zf_1_8, zp_1_8, zp_1_8n, zf_1_9, zp_1_9, zp_1_9n, zf_1_10, zp_1_10, zp_1_10n, zf_1_11, zp_1_11, zp_1_11n, zf_1_12, zp_1_12, zp_1_12n, zEC1 hc, e1, zbk_x]
theorem d_42n {x0 : Int32} (hc : zCls h m w) (hx : x0 < 0 ∨ ¬ x0 < nI (ycur w).1.length) : zEnd h m (zcall zP sv (d + 48) 42 [.ref m, .int x0] h) 1 6 (.inr 2) w := by
  obtain ⟨t1, t2⟩ := zthrow hc
  refine ⟨_, ?_, t1, t2⟩
  have q1 := zCls_0 hc
  have e1 := d_70n (sv := sv) (d := d + 45) hc hx
  simp (disch := exact znw_u) only [zc_42, zs_42_0, zs_42_1, zs_42_2, zs_42_3, zs_42_6, zs_42_9, q1, zECc, zrc_1, zf_1_0, zp_1_0, zp_1_0n, zf_1_1, zp_1_1, zf_1_2, zp_1_2, zp_1_2n, zf_1_3, zp_1_3, zp_1_3n, zf_1_4, zp_1_40, zp_1_41, zf_1_5, zp_1_5, zp_1_5n, zf_1_6, zp_1_6, zp_1_6n, zf_1_7, zp_1_7, zp_1_7n, zf_1_8, zp_1_8, zp_1_8n, zf_1_9, zp_1_9, zp_1_9n, zf_1_10, zp_1_10, zp_1_10n, zf_1_11, zp_1_11, zp_1_11n, zf_1_12, zp_1_12, zp_1_12n, zEC1 hc, e1, zbk_x]
theorem d_43n {x0 : Int32} (hc : zCls h m w) (hx : x0 < 0 ∨ ¬ x0 < nI (ycur w).1.length) : zEnd h m (zcall zP sv (d + 48) 43 [.ref m, .int x0] h) 1 6 (.inr 2) w := by
  obtain ⟨t1, t2⟩ := zthrow hc
  refine ⟨_, ?_, t1, t2⟩
  have q1 := zCls_0 hc
  have e1 := d_70n (sv := sv) (d := d + 45) hc hx
  simp (disch := exact znw_u) only [zc_43, zs_43_0, zs_43_1, zs_43_2, zs_43_5, zs_43_8, q1, zECc, zrc_1, zf_1_0, zp_1_0, zp_1_0n, zf_1_1, zp_1_1, zf_1_2, zp_1_2, zp_1_2n, zf_1_3, zp_1_3, zp_1_3n, zf_1_4, zp_1_40, zp_1_41, zf_1_5, zp_1_5, zp_1_5n, zf_1_6, zp_1_6, zp_1_6n, zf_1_7, zp_1_7, zp_1_7n, zf_1_8, zp_1_8, zp_1_8n, zf_1_9, zp_1_9, zp_1_9n, zf_1_10, zp_1_10, zp_1_10n, zf_1_11, zp_1_11, zp_1_11n, zf_1_12, zp_1_12, zp_1_12n, zEC1 hc, e1, zbk_x]
theorem d_44n {x0 : Int32} {x1 : Int32} (hc : zCls h m w) (hx : x0 < 0 ∨ ¬ x0 < nI (ycur w).1.length) : zEnd h m (zcall zP sv (d + 48) 44 [.ref m, .int x0, .int x1] h) 1 6 (.inr 2) w := by
  obtain ⟨t1, t2⟩ := zthrow hc
  refine ⟨_, ?_, t1, t2⟩
  have q1 := zCls_0 hc
  have e1 := d_70n (sv := sv) (d := d + 45) hc hx
  simp (disch := exact znw_u) only [zc_44, zs_44_0, zs_44_1, zs_44_2, zs_44_5, zs_44_6, zs_44_7, zs_44_8, zs_44_11, zs_44_13, zs_44_14, zs_44_16, zs_44_19, zs_44_21, zs_44_22, zs_44_23, zs_44_26, zs_44_28, zs_44_29, zs_44_32, zs_44_34, zs_44_37, zs_44_39, zs_44_41, zs_44_42, zs_44_43, zs_44_46, zs_44_49, zs_44_50, q1, zECc, zrc_1, zf_1_0, zp_1_0, zp_1_0n, zf_1_1, zp_1_1, zf_1_2, zp_1_2, zp_1_2n, zf_1_3, zp_1_3, zp_1_3n, zf_1_4, zp_1_40, zp_1_41, zf_1_5, zp_1_5, zp_1_5n, zf_1_6, zp_1_6, zp_1_6n, zf_1_7, zp_1_7, zp_1_7n, zf_1_8, zp_1_8, zp_1_8n, zf_1_9, zp_1_9, zp_1_9n, zf_1_10, zp_1_10, zp_1_10n, zf_1_11, zp_1_11, zp_1_11n, zf_1_12, zp_1_12, zp_1_12n, zEC1 hc, e1, zbk_x]
theorem d_45n {x0 : Int32} (hc : zCls h m w) (hx : x0 < 0 ∨ ¬ x0 < nI (ycur w).1.length) : zEnd h m (zcall zP sv (d + 48) 45 [.ref m, .int x0] h) 1 6 (.inr 2) w := by
  obtain ⟨t1, t2⟩ := zthrow hc
  refine ⟨_, ?_, t1, t2⟩
  have q1 := zCls_0 hc
  have e1 := d_70n (sv := sv) (d := d + 45) hc hx
  simp (disch := exact znw_u) only [zc_45, zs_45_0, zs_45_1, zs_45_2, zs_45_5, zs_45_6, zs_45_7, zs_45_10, zs_45_11, zs_45_12, zs_45_15, zs_45_16, zs_45_19, zs_45_22, zs_45_25, q1, zECc, zrc_1, zf_1_0, zp_1_0, zp_1_0n, zf_1_1, zp_1_1, zf_1_2, zp_1_2, zp_1_2n, zf_1_3, zp_1_3, zp_1_3n, zf_1_4, zp_1_40, zp_1_41, zf_1_5, zp_1_5, zp_1_5n, zf_1_6, zp_1_6, zp_1_6n, zf_1_7, zp_1_7, zp_1_7n, zf_1_8, zp_1_8, zp_1_8n, zf_1_9, zp_1_9, zp_1_9n, zf_1_10, zp_1_10, zp_1_10n, zf_1_11, zp_1_11, zp_1_11n, zf_1_12, zp_1_12, zp_1_12n, zEC1 hc, e1, zbk_x]
theorem d_46n {x0 : Int32} (hc : zCls h m w) (hx : x0 < 0 ∨ ¬ x0 < nI (ycur w).1.length) : zEnd h m (zcall zP sv (d + 48) 46 [.ref m, .int x0] h) 1 6 (.inr 2) w := by
  obtain ⟨t1, t2⟩ := zthrow hc
  refine ⟨_, ?_, t1, t2⟩
  have q1 := zCls_0 hc
  have e1 := d_70n (sv := sv) (d := d + 45) hc hx
  simp (disch := exact znw_u) only [zc_46, zs_46_0, zs_46_1, zs_46_2, zs_46_3, zs_46_6, zs_46_9, q1, zECc, zrc_1, zf_1_0, zp_1_0, zp_1_0n, zf_1_1, zp_1_1, zf_1_2, zp_1_2, zp_1_2n, zf_1_3, zp_1_3, zp_1_3n, zf_1_4, zp_1_40, zp_1_41, zf_1_5, zp_1_5, zp_1_5n, zf_1_6, zp_1_6, zp_1_6n, zf_1_7, zp_1_7, zp_1_7n, zf_1_8, zp_1_8, zp_1_8n, zf_1_9, zp_1_9, zp_1_9n, zf_1_10, zp_1_10, zp_1_10n, zf_1_11, zp_1_11, zp_1_11n, zf_1_12, zp_1_12, zp_1_12n, zEC1 hc, e1, zbk_x]
theorem d_47n {x0 : Int32} {x1 : Int32} (hc : zCls h m w) (hx : x0 < 0 ∨ ¬ x0 < nI (ycur w).1.length) : zEnd h m (zcall zP sv (d + 48) 47 [.ref m, .int x0, .int x1] h) 1 6 (.inr 2) w := by
  obtain ⟨t1, t2⟩ := zthrow hc
  refine ⟨_, ?_, t1, t2⟩
  have q1 := zCls_0 hc
  have e1 := d_70n (sv := sv) (d := d + 45) hc hx
  simp (disch := exact znw_u) only [zc_47, zs_47_0, zs_47_1, zs_47_2, zs_47_5, zs_47_6, zs_47_7, zs_47_10, zs_47_11, zs_47_14, zs_47_15, zs_47_16, zs_47_17, zs_47_20, zs_47_23, zs_47_26, q1, zECc, zrc_1, zf_1_0, zp_1_0, zp_1_0n, zf_1_1, zp_1_1, zf_1_2, zp_1_2, zp_1_2n, zf_1_3, zp_1_3, zp_1_3n, zf_1_4, zp_1_40, zp_1_41, zf_1_5, zp_1_5, zp_1_5n, zf_1_6, zp_1_6, zp_1_6n, zf_1_7, zp_1_7, zp_1_7n, zf_1_8, zp_1_8, zp_1_8n, zf_1_9, zp_1_9, zp_1_9n, zf_1_10, zp_1_10, zp_1_10n, zf_1_11, zp_1_11, zp_1_11n, zf_1_12, zp_1_12, zp_1_12n, zEC1 hc, e1, zbk_x]
theorem d_48n {x0 : Int32} {x1 : Int32} (hc : zCls h m w) (hx : x0 < 0 ∨ ¬ x0 < nI (ycur w).1.length) : zEnd h m (zcall zP sv (d + 48) 48 [.ref m, .int x0, .int x1] h) 1 6 (.inr 2) w := by
  obtain ⟨t1, t2⟩ := zthrow hc
  refine ⟨_, ?_, t1, t2⟩
  have q1 := zCls_0 hc
  have e1 := d_70n (sv := sv) (d := d + 45) hc hx
  simp (disch := exact znw_u) only [zc_48, zs_48_0, zs_48_1, zs_48_2, zs_48_5, zs_48_6, zs_48_7, zs_48_10, zs_48_11, zs_48_14, zs_48_15, zs_48_16, zs_48_17, zs_48_20, zs_48_23, zs_48_25, zs_48_26, zs_48_29, zs_48_30, zs_48_33, zs_48_35, zs_48_36, zs_48_39, zs_48_42, zs_48_45, q1, zECc, zrc_1, zf_1_0, zp_1_0, zp_1_0n, zf_1_1, zp_1_1, zf_1_2, zp_1_2, zp_1_2n, zf_1_3, zp_1_3, zp_1_3n, zf_1_4, zp_1_40, zp_1_41, zf_1_5, zp_1_5, zp_1_5n, zf_1_6, zp_1_6, zp_1_6n, zf_1_7, zp_1_7, zp_1_7n, zf_1_8, zp_1_8, zp_1_8n, zf_1_9, zp_1_9, zp_1_9n, zf_1_10, zp_1_10, zp_1_10n, zf_1_11, zp_1_11, zp_1_11n, zf_1_12, zp_1_12, zp_1_12n, zEC1 hc, e1, zbk_x]
theorem d_49n {x0 : Int32} (hc : zCls h m w) (hx : x0 < 0 ∨ ¬ x0 < nI (ycur w).1.length) : zEnd h m (zcall zP sv (d + 48) 49 [.ref m, .int x0] h) 1 6 (.inr 2) w := by
  obtain ⟨t1, t2⟩ := zthrow hc
  refine ⟨_, ?_, t1, t2⟩
  have q1 := zCls_0 hc
  have e1 := d_70n (sv := sv) (d := d + 45) hc hx
  simp (disch := exact znw_u) only [zc_49, zs_49_0, zs_49_1, zs_49_4, zs_49_5, zs_49_6, zs_49_9, zs_49_12, q1, zECc, zrc_1, zf_1_0, zp_1_0, zp_1_0n, zf_1_1, zp_1_1, zf_1_2, zp_1_2, zp_1_2n, zf_1_3, zp_1_3, zp_1_3n, zf_1_4, zp_1_40, zp_1_41, zf_1_5, zp_1_5, zp_1_5n, zf_1_6, zp_1_6, zp_1_6n, zf_1_7, zp_1_7, zp_1_7n, zf_1_8, zp_1_8, zp_1_8n, zf_1_9, zp_1_9, zp_1_9n, zf_1_10, zp_1_10, zp_1_10n, zf_1_11, zp_1_11, zp_1_11n, zf_1_12, zp_1_12, zp_1_12n, zEC1 hc, e1, zbk_x]
theorem d_50n {x0 : Int32} (hc : zCls h m w) (hx : x0 < 0 ∨ ¬ x0 < nI (ycur w).1.length) : zEnd h m (zcall zP sv (d + 48) 50 [.ref m, .int x0] h) 1 6 (.inr 2) w := by
  obtain ⟨t1, t2⟩ := zthrow hc
  refine ⟨_, ?_, t1, t2⟩
  have q1 := zCls_0 hc
  have e1 := d_70n (sv := sv) (d := d + 45) hc hx
  simp (disch := exact znw_u) only [zc_50, zs_50_0, zs_50_1, zs_50_4, zs_50_5, zs_50_6, zs_50_9, zs_50_12, q1, zECc, zrc_1, zf_1_0, zp_1_0, zp_1_0n, zf_1_1, zp_1_1, zf_1_2, zp_1_2, zp_1_2n, zf_1_3, zp_1_3, zp_1_3n, zf_1_4, zp_1_40, zp_1_41, zf_1_5, zp_1_5, zp_1_5n, zf_1_6, zp_1_6, zp_1_6n, zf_1_7, zp_1_7, zp_1_7n, zf_1_8, zp_1_8, zp_1_8n, zf_1_9, zp_1_9, zp_1_9n, zf_1_10, zp_1_10, zp_1_10n, zf_1_11, zp_1_11, zp_1_11n, zf_1_12, zp_1_12, zp_1_12n, zEC1 hc, e1, zbk_x]
theorem d_51n {x0 : Int32} (hc : zCls h m w) (hx : x0 < 0 ∨ ¬ x0 < nI (ycur w).1.length) : zEnd h m (zcall zP sv (d + 48) 51 [.ref m, .int x0] h) 1 6 (.inr 2) w := by
  obtain ⟨t1, t2⟩ := zthrow hc
  refine ⟨_, ?_, t1, t2⟩
  have q1 := zCls_0 hc
  have e1 := d_70n (sv := sv) (d := d + 45) hc hx
  simp (disch := exact znw_u) only [zc_51, zs_51_0, zs_51_1, zs_51_4, zs_51_5, zs_51_6, zs_51_9, zs_51_10, zs_51_13, zs_51_16, zs_51_19, zs_51_20, zs_51_23, zs_51_26, q1, zECc, zrc_1, zf_1_0, zp_1_0, zp_1_0n, zf_1_1, zp_1_1, zf_1_2, zp_1_2, zp_1_2n, zf_1_3, zp_1_3, zp_1_3n, zf_1_4, zp_1_40, zp_1_41, zf_1_5, zp_1_5, zp_1_5n, zf_1_6, zp_1_6, zp_1_6n, zf_1_7, zp_1_7, zp_1_7n, zf_1_8, zp_1_8, zp_1_8n, zf_1_9, zp_1_9, zp_1_9n, zf_1_10, zp_1_10, zp_1_10n, zf_1_11, zp_1_11, zp_1_11n, zf_1_12, zp_1_12, zp_1_12n, zEC1 hc, e1, zbk_x]
theorem d_52n {x0 : Int32} (hc : zCls h m w) (hx : x0 < 0 ∨ ¬ x0 < nI (ycur w).1.length) : zEnd h m (zcall zP sv (d + 48) 52 [.ref m, .int x0] h) 1 6 (.inr 2) w := by
  obtain ⟨t1, t2⟩ := zthrow hc
  refine ⟨_, ?_, t1, t2⟩
  have q1 := zCls_0 hc
  have e1 := d_70n (sv := sv) (d := d + 45) hc hx
  simp (disch := exact znw_u) only [zc_52, zs_52_0, zs_52_1, zs_52_4, zs_52_5, zs_52_6, zs_52_9, zs_52_10, zs_52_13, zs_52_16, zs_52_19, zs_52_20, zs_52_23, zs_52_26, q1, zECc, zrc_1, zf_1_0, zp_1_0, zp_1_0n, zf_1_1, zp_1_1, zf_1_2, zp_1_2, zp_1_2n, zf_1_3, zp_1_3, zp_1_3n, zf_1_4, zp_1_40, zp_1_41, zf_1_5, zp_1_5, zp_1_5n, zf_1_6, zp_1_6, zp_1_6n, zf_1_7, zp_1_7, zp_1_7n, zf_1_8, zp_1_8, zp_1_8n, zf_1_9, zp_1_9, zp_1_9n, zf_1_10, zp_1_10, zp_1_10n, zf_1_11, zp_1_11, zp_1_11n, zf_1_12, zp_1_12, zp_1_12n, zEC1 hc, e1, zbk_x]
theorem d_53n {x0 : Int32} (hc : zCls h m w) (hx : x0 < 0 ∨ ¬ x0 < nI (ycur w).1.length) : zEnd h m (zcall zP sv (d + 48) 53 [.ref m, .int x0] h) 1 6 (.inr 2) w := by
  obtain ⟨t1, t2⟩ := zthrow hc
  refine ⟨_, ?_, t1, t2⟩
  have q1 := zCls_0 hc
  have e1 := d_70n (sv := sv) (d := d + 45) hc hx
  simp (disch := exact znw_u) only [zc_53, zs_53_0, zs_53_1, zs_53_4, zs_53_5, zs_53_6, zs_53_9, zs_53_10, zs_53_13, zs_53_16, zs_53_19, zs_53_20, zs_53_23, zs_53_26, q1, zECc, zrc_1, zf_1_0, zp_1_0, zp_1_0n, zf_1_1, zp_1_1, zf_1_2, zp_1_2, zp_1_2n, zf_1_3, zp_1_3, zp_1_3n, zf_1_4, zp_1_40, zp_1_41, zf_1_5, zp_1_5, zp_1_5n, zf_1_6, zp_1_6, zp_1_6n, zf_1_7, zp_1_7, zp_1_7n, zf_1_8, zp_1_8, zp_1_8n, zf_1_9, zp_1_9, zp_1_9n, zf_1_10, zp_1_10, zp_1_10n, zf_1_11, zp_1_11, zp_1_11n, zf_1_12, zp_1_12, zp_1_12n, zEC1 hc, e1, zbk_x]
theorem d_54n {x0 : Int32} (hc : zCls h m w) (hx : x0 < 0 ∨ ¬ x0 < nI (ycur w).1.length) : zEnd h m (zcall zP sv (d + 48) 54 [.ref m, .int x0] h) 1 6 (.inr 2) w := by
  obtain ⟨t1, t2⟩ := zthrow hc
  refine ⟨_, ?_, t1, t2⟩
  have q1 := zCls_0 hc
  have e1 := d_70n (sv := sv) (d := d + 45) hc hx
  simp (disch := exact znw_u) only [zc_54, zs_54_0, zs_54_1, zs_54_2, zs_54_5, zs_54_6, zs_54_7, zs_54_8, zs_54_9, zs_54_10, zs_54_13, zs_54_14, zs_54_17, zs_54_18, zs_54_19, zs_54_22, zs_54_23, zs_54_26, zs_54_29, zs_54_32, zs_54_33, zs_54_34, zs_54_37, zs_54_40, q1, zECc, zrc_1, zf_1_0, zp_1_0, zp_1_0n, zf_1_1, zp_1_1, zf_1_2, zp_1_2, zp_1_2n, zf_1_3, zp_1_3, zp_1_3n, zf_1_4, zp_1_40, zp_1_41, zf_1_5, zp_1_5, zp_1_5n, zf_1_6, zp_1_6, zp_1_6n, zf_1_7, zp_1_7, zp_1_7n, zf_1_8, zp_1_8, zp_1_8n, zf_1_9, zp_1_9, zp_1_9n, zf_1_10, zp_1_10, zp_1_10n, zf_1_11, zp_1_11, zp_1_11n, zf_1_12, zp_1_12, zp_1_12n, zEC1 hc, e1, zbk_x]
theorem d_55n {x0 : Int32} {x1 : Int32} (hc : zCls h m w) (hx : x0 < 0 ∨ ¬ x0 < nI (ycur w).1.length) : zEnd h m (zcall zP sv (d + 48) 55 [.ref m, .int x0, .int x1] h) 1 6 (.inr 2) w := by
  obtain ⟨t1, t2⟩ := zthrow hc
  refine ⟨_, ?_, t1, t2⟩
  have q1 := zCls_0 hc
  have e1 := d_70n (sv := sv) (d := d + 45) hc hx
  simp (disch := exact znw_u) only [zc_55, zs_55_0, zs_55_1, zs_55_4, zs_55_5, zs_55_6, zs_55_9, zs_55_10, zs_55_13, zs_55_16, zs_55_19, zs_55_20, zs_55_21, zs_55_24, zs_55_25, zs_55_28, zs_55_29, zs_55_32, q1, zECc, zrc_1, zf_1_0, zp_1_0, zp_1_0n, zf_1_1, zp_1_1, zf_1_2, zp_1_2, zp_1_2n, zf_1_3, zp_1_3, zp_1_3n, zf_1_4, zp_1_40, zp_1_41, zf_1_5, zp_1_5, zp_1_5n, zf_1_6, zp_1_6, zp_1_6n, zf_1_7, zp_1_7, zp_1_7n, zf_1_8, zp_1_8, zp_1_8n, zf_1_9, zp_1_9, zp_1_9n, zf_1_10, zp_1_10, zp_1_10n, zf_1_11, zp_1_11, zp_1_11n, zf_1_12, zp_1_12, zp_1_12n, zEC1 hc, e1, zbk_x]
theorem d_56n {x0 : Int32} {x1 : Int32} (hc : zCls h m w) (hx : x0 < 0 ∨ ¬ x0 < nI (ycur w).1.length) : zEnd h m (zcall zP sv (d + 48) 56 [.ref m, .int x0, .int x1] h) 1 6 (.inr 2) w := by
  obtain ⟨t1, t2⟩ := zthrow hc
  refine ⟨_, ?_, t1, t2⟩
  have q1 := zCls_0 hc
  have e1 := d_70n (sv := sv) (d := d + 45) hc hx
  simp (disch := exact znw_u) only [zc_56, zs_56_0, zs_56_1, zs_56_4, zs_56_5, zs_56_6, zs_56_9, zs_56_10, zs_56_13, zs_56_16, zs_56_19, zs_56_20, zs_56_21, zs_56_24, zs_56_25, zs_56_28, zs_56_29, zs_56_32, q1, zECc, zrc_1, zf_1_0, zp_1_0, zp_1_0n, zf_1_1, zp_1_1, zf_1_2, zp_1_2, zp_1_2n, zf_1_3, zp_1_3, zp_1_3n, zf_1_4, zp_1_40, zp_1_41, zf_1_5, zp_1_5, zp_1_5n, zf_1_6, zp_1_6, zp_1_6n, zf_1_7, zp_1_7, zp_1_7n, zf_1_8, zp_1_8, zp_1_8n, zf_1_9, zp_1_9, zp_1_9n, zf_1_10, zp_1_10, zp_1_10n, zf_1_11, zp_1_11, zp_1_11n, zf_1_12, zp_1_12, zp_1_12n, zEC1 hc, e1, zbk_x]
theorem d_57n {x0 : Int32} {x1 : Int32} (hc : zCls h m w) (hx : x0 < 0 ∨ ¬ x0 < nI (ycur w).1.length) : zEnd h m (zcall zP sv (d + 48) 57 [.ref m, .int x0, .int x1] h) 1 6 (.inr 2) w := by
  obtain ⟨t1, t2⟩ := zthrow hc
  refine ⟨_, ?_, t1, t2⟩
  have q1 := zCls_0 hc
  have e1 := d_70n (sv := sv) (d := d + 45) hc hx
  simp (disch := exact znw_u) only [zc_57, zs_57_0, zs_57_1, zs_57_4, zs_57_5, zs_57_6, zs_57_9, zs_57_10, zs_57_13, zs_57_16, zs_57_19, zs_57_20, zs_57_21, zs_57_24, zs_57_25, zs_57_28, zs_57_29, zs_57_32, zs_57_33, zs_57_36, zs_57_37, zs_57_38, zs_57_41, zs_57_44, zs_57_45, zs_57_48, zs_57_51, q1, zECc, zrc_1, zf_1_0, zp_1_0, zp_1_0n, zf_1_1, zp_1_1, zf_1_2, zp_1_2, zp_1_2n, zf_1_3, zp_1_3, zp_1_3n, zf_1_4, zp_1_40, zp_1_41, zf_1_5, zp_1_5, zp_1_5n, zf_1_6, zp_1_6, zp_1_6n, zf_1_7, zp_1_7, zp_1_7n, zf_1_8, zp_1_8, zp_1_8n, zf_1_9, zp_1_9, zp_1_9n, zf_1_10, zp_1_10, zp_1_10n, zf_1_11, zp_1_11, zp_1_11n, zf_1_12, zp_1_12, zp_1_12n, zEC1 hc, e1, zbk_x]
theorem d_58n {x0 : Int32} (hc : zCls h m w) (hx : x0 < 0 ∨ ¬ x0 < nI (ycur w).1.length) : zEnd h m (zcall zP sv (d + 48) 58 [.ref m, .int x0] h) 1 6 (.inr 2) w := by
  obtain ⟨t1, t2⟩ := zthrow hc
  refine ⟨_, ?_, t1, t2⟩
  have q1 := zCls_0 hc
  have e1 := d_70n (sv := sv) (d := d + 45) hc hx
  simp (disch := exact znw_u) only [zc_58, zs_58_0, zs_58_1, zs_58_2, zs_58_5, zs_58_6, zs_58_7, zs_58_10, zs_58_11, zs_58_14, zs_58_15, zs_58_16, zs_58_19, zs_58_20, zs_58_21, zs_58_22, zs_58_25, zs_58_26, zs_58_29, zs_58_30, zs_58_33, zs_58_36, q1, zECc, zrc_1, zf_1_0, zp_1_0, zp_1_0n, zf_1_1, zp_1_1, zf_1_2, zp_1_2, zp_1_2n, zf_1_3, zp_1_3, zp_1_3n, zf_1_4, zp_1_40, zp_1_41, zf_1_5, zp_1_5, zp_1_5n, zf_1_6, zp_1_6, zp_1_6n, zf_1_7, zp_1_7, zp_1_7n, zf_1_8, zp_1_8, zp_1_8n, zf_1_9, zp_1_9, zp_1_9n, zf_1_10, zp_1_10, zp_1_10n, zf_1_11, zp_1_11, zp_1_11n, zf_1_12, zp_1_12, zp_1_12n, zEC1 hc, e1, zbk_x]
theorem d_63n {x0 : Int32} (hc : zCls h m w) (hx : x0 < 0 ∨ ¬ x0 < nI (ycur w).1.length) : zEnd h m (zcall zP sv (d + 48) 63 [.ref m, .int x0] h) 1 6 (.inr 2) w := by
  obtain ⟨t1, t2⟩ := zthrow hc
  refine ⟨_, ?_, t1, t2⟩
  have q1 := zCls_0 hc
  have e1 := d_70n (sv := sv) (d := d + 45) hc hx
  simp (disch := exact znw_u) only [zc_63, zs_63_0, zs_63_1, zs_63_4, zs_63_5, zs_63_6, zs_63_9, zs_63_10, zs_63_13, zs_63_16, zs_63_19, zs_63_20, zs_63_23, zs_63_26, zs_63_29, zs_63_30, zs_63_31, zs_63_32, zs_63_35, zs_63_38, zs_63_39, zs_63_40, zs_63_43, zs_63_46, zs_63_47, zs_63_48, q1, zECc, zrc_1, zf_1_0, zp_1_0, zp_1_0n, zf_1_1, zp_1_1, zf_1_2, zp_1_2, zp_1_2n, zf_1_3, zp_1_3, zp_1_3n, zf_1_4, zp_1_40, zp_1_41, zf_1_5, zp_1_5, zp_1_5n, zf_1_6, zp_1_6, zp_1_6n, zf_1_7, zp_1_7, zp_1_7n, zf_1_8, zp_1_8, zp_1_8n, zf_1_9, zp_1_9, zp_1_9n, zf_1_10, zp_1_10, zp_1_10n, zf_1_11, zp_1_11, zp_1_11n, zf_1_12, zp_1_12, zp_1_12n, zEC1 hc, e1, zbk_x]
theorem d_41m {i : Nat} {t : yT} {x1 : Int32} (hc : zCls h m w) (hi : (ycur w).1[i]? = some t) (hx : x1 < 0 ∨ ¬ x1 < nI (ycur w).1.length) : zEnd h m (zcall zP sv (d + 48) 41 [.ref m, .int (nI i), .int x1] h) 1 6 (.inr 2) w := by
  obtain ⟨t1, t2⟩ := zthrow hc
  refine ⟨_, ?_, t1, t2⟩
  obtain ⟨a, e0, _⟩ := d_70k (sv := sv) (d := d + 45) hc hi
  have e1 := d_70n (sv := sv) (d := d + 45) hc hx
  simp (disch := exact znw_u) only [zc_41, zs_41_0, zs_41_1, zs_41_2, zs_41_5, zs_41_6, zs_41_7, zs_41_8, zs_41_11, zs_41_13, zs_41_14, zs_41_15, zs_41_18, zs_41_20, zs_41_22, zs_41_25, zs_41_26, zs_41_29, zEC1 hc, e0, e1, zbk_v, zbk_x, zts_s]
theorem d_44m {i : Nat} {t : yT} {x1 : Int32} (hc : zCls h m w) (hi : (ycur w).1[i]? = some t) (hx : x1 < 0 ∨ ¬ x1 < nI (ycur w).1.length) : zEnd h m (zcall zP sv (d + 48) 44 [.ref m, .int (nI i), .int x1] h) 1 6 (.inr 2) w := by
  obtain ⟨t1, t2⟩ := zthrow hc
  refine ⟨_, ?_, t1, t2⟩
  obtain ⟨a, e0, _⟩ := d_70k (sv := sv) (d := d + 45) hc hi
  have e1 := d_70n (sv := sv) (d := d + 45) hc hx
  simp (disch := exact znw_u) only [zc_44, zs_44_0, zs_44_1, zs_44_2, zs_44_5, zs_44_6, zs_44_7, zs_44_8, zs_44_11, zs_44_13, zs_44_14, zs_44_16, zs_44_19, zs_44_21, zs_44_22, zs_44_23, zs_44_26, zs_44_28, zs_44_29, zs_44_32, zs_44_34, zs_44_37, zs_44_39, zs_44_41, zs_44_42, zs_44_43, zs_44_46, zs_44_49, zs_44_50, zEC1 hc, e0, e1, zbk_v, zbk_x, zts_s]
theorem d_38l {i : Nat} {t : yT} {c : Int32} (hc : zCls h m w) (hi : (ycur w).1[i]? = some t) (hl : ylet c = false) : zEnd h m (zcall zP sv (d + 48) 38 [.ref m, .int (nI i), .int c] h) 1 6 (.inr 1) w := by
  obtain ⟨t1, t2⟩ := zthrow hc
  refine ⟨_, ?_, t1, t2⟩
  obtain ⟨a, e0, _⟩ := d_70k (sv := sv) (d := d + 45) hc hi
  simp (disch := exact znw_u) only [zc_38, zs_38_0, zs_38_1, zs_38_2, zs_38_5, zs_38_6, zs_38_7, zs_38_10, zs_38_11, zs_38_13, zs_38_14, zs_38_16, zs_38_18, zs_38_19, zs_38_22, zs_38_25, zs_38_26, zs_38_28, zs_38_29, zs_38_32, zs_38_35, zs_38_38, zs_38_41, zs_38_44, zs_38_46, zEC1 hc, e0, d_72n hl, zbk_v, zbk_x, zts_s]
theorem d_47l {i : Nat} {t : yT} {c : Int32} (hc : zCls h m w) (hi : (ycur w).1[i]? = some t) (hl : ylet c = false) : zEnd h m (zcall zP sv (d + 48) 47 [.ref m, .int (nI i), .int c] h) 1 6 (.inr 1) w := by
  obtain ⟨t1, t2⟩ := zthrow hc
  refine ⟨_, ?_, t1, t2⟩
  obtain ⟨a, e0, _⟩ := d_70k (sv := sv) (d := d + 45) hc hi
  simp (disch := exact znw_u) only [zc_47, zs_47_0, zs_47_1, zs_47_2, zs_47_5, zs_47_6, zs_47_7, zs_47_10, zs_47_11, zs_47_14, zs_47_15, zs_47_16, zs_47_17, zs_47_20, zs_47_23, zs_47_26, zEC1 hc, e0, d_72n hl, zbk_v, zbk_x, zts_s]
theorem d_48l {i : Nat} {t : yT} {c : Int32} (hc : zCls h m w) (hi : (ycur w).1[i]? = some t) (hl : ylet c = false) : zEnd h m (zcall zP sv (d + 48) 48 [.ref m, .int (nI i), .int c] h) 1 6 (.inr 1) w := by
  obtain ⟨t1, t2⟩ := zthrow hc
  refine ⟨_, ?_, t1, t2⟩
  obtain ⟨a, e0, _⟩ := d_70k (sv := sv) (d := d + 45) hc hi
  simp (disch := exact znw_u) only [zc_48, zs_48_0, zs_48_1, zs_48_2, zs_48_5, zs_48_6, zs_48_7, zs_48_10, zs_48_11, zs_48_14, zs_48_15, zs_48_16, zs_48_17, zs_48_20, zs_48_23, zs_48_25, zs_48_26, zs_48_29, zs_48_30, zs_48_33, zs_48_35, zs_48_36, zs_48_39, zs_48_42, zs_48_45, zEC1 hc, e0, d_72n hl, zbk_v, zbk_x, zts_s]
theorem zEnd_q {h' : zH} {r : zR} {o : zO} {A B C : List Int32} (hc : zCls h m w) (hr : r = some (o, h')) (hf : zfr (m + 78) (m + 85) h h') (hg : zGau h' (m + 78) A B C) : zEnd h m r 0 0 o w := ⟨h', hr, zCls_g hc hf hg, zfr_fx hf (by omega) (by omega)⟩
theorem zEnd_s {r : zR} {o : zO} (hc : zCls h m w) (hr : r = some (o, h)) : zEnd h m r 0 0 o w := ⟨h, hr, hc, zfx_rfl⟩
theorem zgau_ex (hc : zCls h m w) : ∃ A B C, zGau h (m + 78) A B C := hc.2.2.2.2.2.2.1.2.2.2.1
theorem zcur_ex (hc : zCls h m w) : ∃ S, zSta h (m + 3) S ∧ zAS h m S (ycur w) := hc.2.2.1
theorem d_36 {i : Nat} {t : yT} (hc : zCls h m w) (hi : (ycur w).1[i]? = some t) : zEnd h m (zcall zP sv (d + 48) 36 [.ref m, .int (nI i)] h) 0 0 (.inl (some (.int (nI (ysz t))))) w := by
  obtain ⟨a, e0, a1, a2, a3, a4⟩ := d_70k (sv := sv) (d := d + 45) hc hi
  have e1 := d_182 (sv := sv) (d := d + 46) a3
  rw [ypo_len] at e1
  refine zEnd_s hc ?_
  simp (disch := exact znw_u) only [zc_36, zs_36_0, zs_36_1, zs_36_2, zs_36_5, zs_36_8, zEC1 hc, e0, zTre_rc a3, e1, zbk_v, zts_s]
theorem d_37 {i : Nat} {t : yT} (hc : zCls h m w) (hi : (ycur w).1[i]? = some t) : zEnd h m (zcall zP sv (d + 48) 37 [.ref m, .int (nI i)] h) 0 0 (.inl (some (.int (nI (ydp t))))) w := by
  have q1 := zCls_0 hc
  obtain ⟨a, e0, a1, a2, a3, a4⟩ := d_70k (sv := sv) (d := d + 45) hc hi
  have hsz := a4.2.1
  have hdp := a4.2.2
  obtain ⟨f1, f2, f3, f4⟩ := yform a4.1 (by omega)
  obtain ⟨A, B, C, hg⟩ := zgau_ex hc
  obtain ⟨h1, A', e1, g1, r1, f5⟩ := d_118 (sv := sv) (d := d + 43) (rt := nI (ysz t - 1)) f1 (by omega) (by omega) a3 hg
  rw [yQ_g r1 (Or.inr ⟨ysz t - 1, by omega, rfl⟩) (Nat.le_refl _) f1.1, f2, yfo_L t (by omega)] at e1
  refine zEnd_q hc ?_ f5 g1
  simp (disch := exact znw_u) only [zc_37, zs_37_0, zs_37_1, zs_37_2, zs_37_5, zs_37_6, zs_37_7, zs_37_10, zs_37_11, zs_37_12, zs_37_15, zs_37_18, q1, zECc, zrc_1, zf_1_0, zp_1_0, zp_1_0n, zf_1_1, zp_1_1, zf_1_2, zp_1_2, zp_1_2n, zf_1_3, zp_1_3, zp_1_3n, zf_1_4, zp_1_40, zp_1_41, zf_1_5, zp_1_5, zp_1_5n, zf_1_6, zp_1_6, zp_1_6n, zf_1_7, zp_1_7, zp_1_7n, zf_1_8, zp_1_8, zp_1_8n, zf_1_9, zp_1_9, zp_1_9n, zf_1_10, zp_1_10, zp_1_10n, zf_1_11, zp_1_11, zp_1_11n, zf_1_12, zp_1_12, zp_1_12n, zEC1 hc, e0, zTre_rc a3, d_183 a3, yroot_sub f4, zGau_rc hg, e1, zbk_v, zts_s]
theorem d_39 {i : Nat} {t : yT} (hc : zCls h m w) (hi : (ycur w).1[i]? = some t) : zEnd h m (zcall zP sv (d + 48) 39 [.ref m, .int (nI i)] h) 0 0 (.inl (some (.int (yfo yfP t)))) w := by
  have q1 := zCls_0 hc
  obtain ⟨a, e0, a1, a2, a3, a4⟩ := d_70k (sv := sv) (d := d + 45) hc hi
  have hsz := a4.2.1
  obtain ⟨f1, f2, f3, f4⟩ := yform a4.1 (by omega)
  obtain ⟨A, B, C, hg⟩ := zgau_ex hc
  obtain ⟨h1, A', e1, g1, r1, f5⟩ := d_119 (sv := sv) (d := d + 43) f1 (by omega) (by omega) a3 hg
  rw [yroot_sub f4, yQ_g r1 (Or.inr ⟨ysz t - 1, by omega, rfl⟩) (Nat.le_refl _) f1.1, f2] at e1
  refine zEnd_q hc ?_ f5 g1
  simp (disch := exact znw_u) only [zc_39, zs_39_0, zs_39_1, zs_39_4, zs_39_5, zs_39_6, zs_39_9, zs_39_12, q1, zECc, zrc_1, zf_1_0, zp_1_0, zp_1_0n, zf_1_1, zp_1_1, zf_1_2, zp_1_2, zp_1_2n, zf_1_3, zp_1_3, zp_1_3n, zf_1_4, zp_1_40, zp_1_41, zf_1_5, zp_1_5, zp_1_5n, zf_1_6, zp_1_6, zp_1_6n, zf_1_7, zp_1_7, zp_1_7n, zf_1_8, zp_1_8, zp_1_8n, zf_1_9, zp_1_9, zp_1_9n, zf_1_10, zp_1_10, zp_1_10n, zf_1_11, zp_1_11, zp_1_11n, zf_1_12, zp_1_12, zp_1_12n, zEC1 hc, e0, zGau_rc hg, e1, zbk_v, zts_s]
theorem d_49 {i : Nat} {t : yT} (hc : zCls h m w) (hi : (ycur w).1[i]? = some t) : zEnd h m (zcall zP sv (d + 48) 49 [.ref m, .int (nI i)] h) 0 0 (.inl (some (.int (yfo yfD t)))) w := by
  have q1 := zCls_0 hc
  obtain ⟨a, e0, a1, a2, a3, a4⟩ := d_70k (sv := sv) (d := d + 45) hc hi
  have hsz := a4.2.1
  obtain ⟨f1, f2, f3, f4⟩ := yform a4.1 (by omega)
  obtain ⟨A, B, C, hg⟩ := zgau_ex hc
  obtain ⟨h1, A', e1, g1, r1, f5⟩ := d_125 (sv := sv) (d := d + 43) f1 (by omega) (by omega) a3 hg
  rw [yroot_sub f4, yQ_g r1 (Or.inr ⟨ysz t - 1, by omega, rfl⟩) (Nat.le_refl _) f1.1, f2] at e1
  refine zEnd_q hc ?_ f5 g1
  simp (disch := exact znw_u) only [zc_49, zs_49_0, zs_49_1, zs_49_4, zs_49_5, zs_49_6, zs_49_9, zs_49_12, q1, zECc, zrc_1, zf_1_0, zp_1_0, zp_1_0n, zf_1_1, zp_1_1, zf_1_2, zp_1_2, zp_1_2n, zf_1_3, zp_1_3, zp_1_3n, zf_1_4, zp_1_40, zp_1_41, zf_1_5, zp_1_5, zp_1_5n, zf_1_6, zp_1_6, zp_1_6n, zf_1_7, zp_1_7, zp_1_7n, zf_1_8, zp_1_8, zp_1_8n, zf_1_9, zp_1_9, zp_1_9n, zf_1_10, zp_1_10, zp_1_10n, zf_1_11, zp_1_11, zp_1_11n, zf_1_12, zp_1_12, zp_1_12n, zEC1 hc, e0, zGau_rc hg, e1, zbk_v, zts_s]
theorem d_50 {i : Nat} {t : yT} (hc : zCls h m w) (hi : (ycur w).1[i]? = some t) : zEnd h m (zcall zP sv (d + 48) 50 [.ref m, .int (nI i)] h) 0 0 (.inl (some (.int (yfo yfO t)))) w := by
  have q1 := zCls_0 hc
  obtain ⟨a, e0, a1, a2, a3, a4⟩ := d_70k (sv := sv) (d := d + 45) hc hi
  have hsz := a4.2.1
  obtain ⟨f1, f2, f3, f4⟩ := yform a4.1 (by omega)
  obtain ⟨A, B, C, hg⟩ := zgau_ex hc
  obtain ⟨h1, A', e1, g1, r1, f5⟩ := d_128 (sv := sv) (d := d + 43) f1 (by omega) (by omega) a3 hg
  rw [yroot_sub f4, yQ_g r1 (Or.inr ⟨ysz t - 1, by omega, rfl⟩) (Nat.le_refl _) f1.1, f2] at e1
  refine zEnd_q hc ?_ f5 g1
  simp (disch := exact znw_u) only [zc_50, zs_50_0, zs_50_1, zs_50_4, zs_50_5, zs_50_6, zs_50_9, zs_50_12, q1, zECc, zrc_1, zf_1_0, zp_1_0, zp_1_0n, zf_1_1, zp_1_1, zf_1_2, zp_1_2, zp_1_2n, zf_1_3, zp_1_3, zp_1_3n, zf_1_4, zp_1_40, zp_1_41, zf_1_5, zp_1_5, zp_1_5n, zf_1_6, zp_1_6, zp_1_6n, zf_1_7, zp_1_7, zp_1_7n, zf_1_8, zp_1_8, zp_1_8n, zf_1_9, zp_1_9, zp_1_9n, zf_1_10, zp_1_10, zp_1_10n, zf_1_11, zp_1_11, zp_1_11n, zf_1_12, zp_1_12, zp_1_12n, zEC1 hc, e0, zGau_rc hg, e1, zbk_v, zts_s]
theorem d_170 {s : Nat} {S : yS} (hs : zSta h s S) : zcall zP sv (d + 1) 170 [.ref s] h = some (.inl (some (.ref (s + 2))), h) := by
  simp only [zc_170, zs_170_0, zs_170_0n, zs_170_1, zs_170_4, zs_170_4n, hs.1, zrc_3, zf_3_0, zp_3_0, zp_3_0n, zf_3_1, zp_3_1, zf_3_2, zp_3_2, zp_3_2n, zf_3_3, zp_3_3, zf_3_4, zp_3_4]
theorem d_171 {s : Nat} {S : yS} (hs : zSta h s S) : zcall zP sv (d + 1) 171 [.ref s] h = some (.inl (some (.int S.2.2.1)), h) := by
  simp only [zc_171, zs_171_0, zs_171_0n, zs_171_1, zs_171_4, hs.1, zrc_3, zf_3_0, zp_3_0, zp_3_0n, zf_3_1, zp_3_1, zf_3_2, zp_3_2, zp_3_2n, zf_3_3, zp_3_3, zf_3_4, zp_3_4]
theorem d_172 {s : Nat} {S : yS} (hs : zSta h s S) : zcall zP sv (d + 1) 172 [.ref s] h = some (.inl (some (.int S.2.2.2)), h) := by
  simp only [zc_172, zs_172_0, zs_172_0n, zs_172_1, zs_172_4, hs.1, zrc_3, zf_3_0, zp_3_0, zp_3_0n, zf_3_1, zp_3_1, zf_3_2, zp_3_2, zp_3_2n, zf_3_3, zp_3_3, zf_3_4, zp_3_4]
theorem d_169 {s : Nat} {S : yS} (hs : zSta h s S) : zcall zP sv (d + 1) 169 [.ref s] h = some (.inl (some (.int (nI S.1.length))), h) := by
  simp only [zc_169, zs_169_0, zs_169_0n, zs_169_1, zs_169_4, hs.1, zrc_3, zf_3_0, zp_3_0, zp_3_0n, zf_3_1, zp_3_1, zf_3_2, zp_3_2, zp_3_2n, zf_3_3, zp_3_3, zf_3_4, zp_3_4]
theorem d_45 {i : Nat} {t : yT} (hc : zCls h m w) (hi : (ycur w).1[i]? = some t) : zEnd h m (zcall zP sv (d + 48) 45 [.ref m, .int (nI i)] h) 0 0 (.inl (some (.int (yfo (yfR (ycur w).2.1) t)))) w := by
  have q1 := zCls_0 hc
  obtain ⟨a, e0, a1, a2, a3, a4⟩ := d_70k (sv := sv) (d := d + 45) hc hi
  have hsz := a4.2.1
  obtain ⟨f1, f2, f3, f4⟩ := yform a4.1 (by omega)
  obtain ⟨A, B, C, hg⟩ := zgau_ex hc
  obtain ⟨S, s1, s2⟩ := zcur_ex hc
  have hV : S.2.1 = (ycur w).2.1 := by rw [s2.1]
  have s3 := s1.2.2.1
  rw [hV] at s3
  obtain ⟨h1, A', e1, g1, r1, f5⟩ := d_121 (sv := sv) (d := d + 43) (rt := nI (ysz t - 1)) f1 (by omega) (by omega) (show m + 78 + 7 ≤ m + 3 + 2 ∨ m + 3 + 2 + 2 ≤ m + 78 by omega) a3 hg s3
  rw [yQ_g r1 (Or.inr ⟨ysz t - 1, by omega, rfl⟩) (Nat.le_refl _) f1.1, f2] at e1
  refine zEnd_q hc ?_ f5 g1
  simp (disch := exact znw_u) only [zc_45, zs_45_0, zs_45_1, zs_45_2, zs_45_5, zs_45_6, zs_45_7, zs_45_10, zs_45_11, zs_45_12, zs_45_15, zs_45_16, zs_45_19, zs_45_22, zs_45_25, q1, zECc, zrc_1, zf_1_0, zp_1_0, zp_1_0n, zf_1_1, zp_1_1, zf_1_2, zp_1_2, zp_1_2n, zf_1_3, zp_1_3, zp_1_3n, zf_1_4, zp_1_40, zp_1_41, zf_1_5, zp_1_5, zp_1_5n, zf_1_6, zp_1_6, zp_1_6n, zf_1_7, zp_1_7, zp_1_7n, zf_1_8, zp_1_8, zp_1_8n, zf_1_9, zp_1_9, zp_1_9n, zf_1_10, zp_1_10, zp_1_10n, zf_1_11, zp_1_11, zp_1_11n, zf_1_12, zp_1_12, zp_1_12n, zEC1 hc, e0, zTre_rc a3, d_183 a3, yroot_sub f4, zSta_rc s1, d_170 s1, zGau_rc hg, e1, zbk_v, zts_s]
theorem d_33 (hc : zCls h m w) : zEnd h m (zcall zP sv (d + 48) 33 [.ref m] h) 0 0 (.inl (some (.int (nI (ycur w).1.length)))) w := by
  have q1 := zCls_0 hc
  obtain ⟨S, s1, s2⟩ := zcur_ex hc
  have hl : S.1.length = (ycur w).1.length := s2.2.1.1
  have e1 := d_169 (sv := sv) (d := d + 46) s1
  rw [hl] at e1
  refine zEnd_s hc ?_
  simp (disch := exact znw_u) only [zc_33, zs_33_0, zs_33_1, zs_33_4, zs_33_7, q1, zECc, zrc_1, zf_1_0, zp_1_0, zp_1_0n, zf_1_1, zp_1_1, zf_1_2, zp_1_2, zp_1_2n, zf_1_3, zp_1_3, zp_1_3n, zf_1_4, zp_1_40, zp_1_41, zf_1_5, zp_1_5, zp_1_5n, zf_1_6, zp_1_6, zp_1_6n, zf_1_7, zp_1_7, zp_1_7n, zf_1_8, zp_1_8, zp_1_8n, zf_1_9, zp_1_9, zp_1_9n, zf_1_10, zp_1_10, zp_1_10n, zf_1_11, zp_1_11, zp_1_11n, zf_1_12, zp_1_12, zp_1_12n, zSta_rc s1, e1, zbk_v, zts_s]
theorem d_35 (hc : zCls h m w) : zEnd h m (zcall zP sv (d + 48) 35 [.ref m] h) 0 0 (.inl (some (.int (ycur w).2.2.1))) w := by
  have q1 := zCls_0 hc
  obtain ⟨S, s1, s2⟩ := zcur_ex hc
  have e1 := d_171 (sv := sv) (d := d + 46) s1
  rw [s2.1] at e1
  refine zEnd_s hc ?_
  simp (disch := exact znw_u) only [zc_35, zs_35_0, zs_35_1, zs_35_4, zs_35_7, q1, zECc, zrc_1, zf_1_0, zp_1_0, zp_1_0n, zf_1_1, zp_1_1, zf_1_2, zp_1_2, zp_1_2n, zf_1_3, zp_1_3, zp_1_3n, zf_1_4, zp_1_40, zp_1_41, zf_1_5, zp_1_5, zp_1_5n, zf_1_6, zp_1_6, zp_1_6n, zf_1_7, zp_1_7, zp_1_7n, zf_1_8, zp_1_8, zp_1_8n, zf_1_9, zp_1_9, zp_1_9n, zf_1_10, zp_1_10, zp_1_10n, zf_1_11, zp_1_11, zp_1_11n, zf_1_12, zp_1_12, zp_1_12n, zSta_rc s1, e1, zbk_v, zts_s]
theorem d_61 (hc : zCls h m w) : zEnd h m (zcall zP sv (d + 48) 61 [.ref m] h) 0 0 (.inl (some (.int (ycur w).2.2.2))) w := by
  have q1 := zCls_0 hc
  obtain ⟨S, s1, s2⟩ := zcur_ex hc
  have e1 := d_172 (sv := sv) (d := d + 46) s1
  rw [s2.1] at e1
  refine zEnd_s hc ?_
  simp (disch := exact znw_u) only [zc_61, zs_61_0, zs_61_1, zs_61_4, zs_61_7, q1, zECc, zrc_1, zf_1_0, zp_1_0, zp_1_0n, zf_1_1, zp_1_1, zf_1_2, zp_1_2, zp_1_2n, zf_1_3, zp_1_3, zp_1_3n, zf_1_4, zp_1_40, zp_1_41, zf_1_5, zp_1_5, zp_1_5n, zf_1_6, zp_1_6, zp_1_6n, zf_1_7, zp_1_7, zp_1_7n, zf_1_8, zp_1_8, zp_1_8n, zf_1_9, zp_1_9, zp_1_9n, zf_1_10, zp_1_10, zp_1_10n, zf_1_11, zp_1_11, zp_1_11n, zf_1_12, zp_1_12, zp_1_12n, zSta_rc s1, e1, zbk_v, zts_s]
theorem d_34n {c : Int32} (hc : zCls h m w) (hl : ylet c = false) : zEnd h m (zcall zP sv (d + 48) 34 [.ref m, .int c] h) 1 6 (.inr 1) w := by
  obtain ⟨t1, t2⟩ := zthrow hc
  refine ⟨_, ?_, t1, t2⟩
  simp (disch := exact znw_u) only [zc_34, zs_34_0, zs_34_1, zs_34_4, zs_34_5, zs_34_8, zs_34_11, zs_34_12, zs_34_14, zs_34_15, zs_34_18, d_72n hl, zbk_x]
theorem d_34 {c : Int32} (hc : zCls h m w) (hl : ylet c = true) : zEnd h m (zcall zP sv (d + 48) 34 [.ref m, .int c] h) 0 0 (.inl (some (.int (yg (ycur w).2.1 (c - nI 97))))) w := by
  have q1 := zCls_0 hc
  obtain ⟨S, s1, s2⟩ := zcur_ex hc
  have hV : S.2.1 = (ycur w).2.1 := by rw [s2.1]
  have s3 := s1.2.2.1
  have e1 := d_165 (sv := sv) (d := d + 46) (x := c - nI 97) s3
  rw [hV] at e1
  refine zEnd_s hc ?_
  simp (disch := exact znw_u) only [zc_34, zs_34_0, zs_34_1, zs_34_4, zs_34_5, zs_34_8, zs_34_11, zs_34_12, zs_34_14, zs_34_15, zs_34_18, d_72 hl, q1, zECc, zrc_1, zf_1_0, zp_1_0, zp_1_0n, zf_1_1, zp_1_1, zf_1_2, zp_1_2, zp_1_2n, zf_1_3, zp_1_3, zp_1_3n, zf_1_4, zp_1_40, zp_1_41, zf_1_5, zp_1_5, zp_1_5n, zf_1_6, zp_1_6, zp_1_6n, zf_1_7, zp_1_7, zp_1_7n, zf_1_8, zp_1_8, zp_1_8n, zf_1_9, zp_1_9, zp_1_9n, zf_1_10, zp_1_10, zp_1_10n, zf_1_11, zp_1_11, zp_1_11n, zf_1_12, zp_1_12, zp_1_12n, zSta_rc s1, d_170 s1, zRow_rc s3, e1, zbk_v, zts_s, zts_n]
theorem d_66 (hc : zCls h m w) : zEnd h m (zcall zP sv (d + 48) 66 [.ref m] h) 0 0 (.inl (some (.int (nI (yhis w).length)))) w := by
  have q1 := zCls_0 hc
  obtain ⟨_, _, _, _, ⟨H, g1, g2⟩, _⟩ := id hc
  have hl : H.length = (yhis w).length := g2.1
  have e1 := d_131 (sv := sv) (d := d + 46) g1
  rw [hl] at e1
  refine zEnd_s hc ?_
  simp (disch := exact znw_u) only [zc_66, zs_66_0, zs_66_1, zs_66_4, zs_66_7, q1, zECc, zrc_1, zf_1_0, zp_1_0, zp_1_0n, zf_1_1, zp_1_1, zf_1_2, zp_1_2, zp_1_2n, zf_1_3, zp_1_3, zp_1_3n, zf_1_4, zp_1_40, zp_1_41, zf_1_5, zp_1_5, zp_1_5n, zf_1_6, zp_1_6, zp_1_6n, zf_1_7, zp_1_7, zp_1_7n, zf_1_8, zp_1_8, zp_1_8n, zf_1_9, zp_1_9, zp_1_9n, zf_1_10, zp_1_10, zp_1_10n, zf_1_11, zp_1_11, zp_1_11n, zf_1_12, zp_1_12, zp_1_12n, zHis_rc g1, e1, zbk_v, zts_s]
theorem d_65n (hc : zCls h m w) (he : w.2.1 = -1) : zEnd h m (zcall zP sv (d + 48) 65 [.ref m] h) 1 6 (.inr 4) w := by
  obtain ⟨t1, t2⟩ := zthrow hc
  have q1 := zCls_0 hc
  rw [he] at q1
  refine ⟨_, ?_, t1, t2⟩
  simp (disch := exact znw_u) only [zc_65, zs_65_0, zs_65_1, zs_65_4, zs_65_5, zs_65_8, zs_65_19, zs_65_20, zs_65_23, q1, zECc, zrc_1, zf_1_0, zp_1_0, zp_1_0n, zf_1_1, zp_1_1, zf_1_2, zp_1_2, zp_1_2n, zf_1_3, zp_1_3, zp_1_3n, zf_1_4, zp_1_40, zp_1_41, zf_1_5, zp_1_5, zp_1_5n, zf_1_6, zp_1_6, zp_1_6n, zf_1_7, zp_1_7, zp_1_7n, zf_1_8, zp_1_8, zp_1_8n, zf_1_9, zp_1_9, zp_1_9n, zf_1_10, zp_1_10, zp_1_10n, zf_1_11, zp_1_11, zp_1_11n, zf_1_12, zp_1_12, zp_1_12n, nI_m1e, zext_of, ↓reduceIte]
theorem d_65 (hc : zCls h m w) (he : ¬ w.2.1 = -1) : zEnd h m (zcall zP sv (d + 48) 65 [.ref m] h) 0 0 (.inl (some (.int w.2.1))) w := by
  have q1 := zCls_0 hc
  refine zEnd_s hc ?_
  simp (disch := exact znw_u) only [zc_65, zs_65_0, zs_65_1, zs_65_4, zs_65_5, zs_65_8, zs_65_19, zs_65_20, zs_65_23, q1, zECc, zrc_1, zf_1_0, zp_1_0, zp_1_0n, zf_1_1, zp_1_1, zf_1_2, zp_1_2, zp_1_2n, zf_1_3, zp_1_3, zp_1_3n, zf_1_4, zp_1_40, zp_1_41, zf_1_5, zp_1_5, zp_1_5n, zf_1_6, zp_1_6, zp_1_6n, zf_1_7, zp_1_7, zp_1_7n, zf_1_8, zp_1_8, zp_1_8n, zf_1_9, zp_1_9, zp_1_9n, zf_1_10, zp_1_10, zp_1_10n, zf_1_11, zp_1_11, zp_1_11n, zf_1_12, zp_1_12, zp_1_12n, if_neg he]
theorem d_41 {i j : Nat} {t u : yT} (hc : zCls h m w) (hi : (ycur w).1[i]? = some t) (hj : (ycur w).1[j]? = some u) : zEnd h m (zcall zP sv (d + 48) 41 [.ref m, .int (nI i), .int (nI j)] h) 0 0 (.inl (some (.int (yb (yeq t u))))) w := by
  obtain ⟨a, e0, a1, a2, a3, a4⟩ := d_70k (sv := sv) (d := d + 45) hc hi
  obtain ⟨b, e0', b1, b2, b3, b4⟩ := d_70k (sv := sv) (d := d + 45) hc hj
  have hsz := a4.2.1
  have hdp := a4.2.2
  have hsz2 := b4.2.1
  obtain ⟨f1, f2, f3, f4⟩ := yform a4.1 (by omega)
  obtain ⟨g1, g2, g3, g4⟩ := yform b4.1 (by omega)
  have e5 := d_85 (sv := sv) f1 g1 a3 b3 t u (nI (ysz t - 1)) (nI (ysz u - 1)) (d + 47) 1 (Or.inr ⟨ysz t - 1, by omega, rfl⟩) (Or.inr ⟨ysz u - 1, by omega, rfl⟩) f2 g2 (by omega) (by omega)
  refine zEnd_s hc ?_
  simp (disch := exact znw_u) only [zc_41, zs_41_0, zs_41_1, zs_41_2, zs_41_5, zs_41_6, zs_41_7, zs_41_8, zs_41_11, zs_41_13, zs_41_14, zs_41_15, zs_41_18, zs_41_20, zs_41_22, zs_41_25, zs_41_26, zs_41_29, zEC1 hc, e0, e0', zTre_rc a3, zTre_rc b3, d_183 a3, d_183 b3, yroot_sub f4, yroot_sub g4, e5, zty_5b, zgd_t, zbk_v, zts_s]
end ZEF
