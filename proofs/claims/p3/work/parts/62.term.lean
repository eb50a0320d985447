/-- terms: a binary tree of the library's serves; kind, number, left, right -/
abbrev yT : Type := Std.DTreeMap.Internal.Impl Int32 (fun _ => Int32)
def ymk (k v : Int32) (l r : yT) : yT := .inner 0 k v l r
def ysz : yT → Nat
  | .leaf => 0
  | .inner _ _ _ l r => ysz l + ysz r + 1
def ydp : yT → Nat
  | .leaf => 0
  | .inner _ _ _ l r => max (ydp l) (ydp r) + 1
def yfo (f : Int32 → Int32 → Int32 → Int32 → Int32) : yT → Int32
  | .leaf => 0
  | .inner _ k v l r => f k v (yfo f l) (yfo f r)
def ynl : yT → Bool
  | .leaf => false
  | .inner _ _ _ _ _ => true
/-- the terms of a Tree's nodes -/
def ygt (ts : List yT) (x : Int32) : yT := if x < 0 then .leaf else ts.getD x.toNatClampNeg .leaf
def ytm (ns : List yN) : List yT := ns.foldl (fun ts nd => ts ++ [ymk nd.1 nd.2.1 (ygt ts nd.2.2.1) (ygt ts nd.2.2.2)]) []
def ych (i : Nat) (x : Int32) : Prop := x = -1 ∨ ∃ j, j < i ∧ x = nI j
def ywf (ns : List yN) : Prop := ns.length < 2 ^ 31 ∧ ∀ (i : Nat) (nd : yN), ns[i]? = some nd → ych i nd.2.2.1 ∧ ych i nd.2.2.2
theorem ytm_snoc {ns : List yN} {nd : yN} : ytm (ns ++ [nd]) = ytm ns ++ [ymk nd.1 nd.2.1 (ygt (ytm ns) nd.2.2.1) (ygt (ytm ns) nd.2.2.2)] := by
  unfold ytm
  rw [List.foldl_append]
  rfl
theorem ytm_len : ∀ (n : Nat) (ns : List yN), ns.length = n → (ytm ns).length = n := by
  intro n
  induction n with
  | zero =>
    intro ns hn
    rw [List.length_eq_zero_iff.mp hn]
    rfl
  | succ n ih =>
    intro ns hn
    have h0 : ns ≠ [] := by intro h1; rw [h1] at hn; cases hn
    rw [← List.dropLast_concat_getLast h0, ytm_snoc, List.length_append, ih ns.dropLast (by rw [List.length_dropLast]; omega)]
    rfl
theorem ytm_l {ns : List yN} : (ytm ns).length = ns.length := ytm_len _ ns rfl
theorem ytm_app {ms : List yN} : ∀ (n : Nat) (ns : List yN), ns.length = n → ∃ ts, ytm (ms ++ ns) = ytm ms ++ ts := by
  intro n
  induction n with
  | zero =>
    intro ns hn
    rw [List.length_eq_zero_iff.mp hn]
    exact ⟨[], by rw [List.append_nil, List.append_nil]⟩
  | succ n ih =>
    intro ns hn
    have h0 : ns ≠ [] := by intro h1; rw [h1] at hn; cases hn
    obtain ⟨ts, e⟩ := ih ns.dropLast (by rw [List.length_dropLast]; omega)
    rw [← List.dropLast_concat_getLast h0, ← List.append_assoc, ytm_snoc, e, List.append_assoc]
    exact ⟨_, rfl⟩
theorem ytm_pre {ms ns : List yN} {i : Nat} (hi : i < ms.length) : (ytm (ms ++ ns))[i]? = (ytm ms)[i]? := by
  obtain ⟨ts, e⟩ := ytm_app (ms := ms) ns.length ns rfl
  rw [e, List.getElem?_append_left (by rw [ytm_l]; exact hi)]
theorem ygt_n {ts : List yT} : ygt ts (-1) = .leaf := by
  unfold ygt
  rw [if_pos (by decide +kernel)]
theorem ygt_k {ts : List yT} {i : Nat} (hi : i < 2 ^ 31) : ygt ts (nI i) = ts.getD i .leaf := by
  unfold ygt
  rw [if_neg (nI_pos hi), nI_clamp hi]
theorem ygt_pre {ms ns : List yN} {x : Int32} (hl : ms.length < 2 ^ 31) (hx : ych ms.length x) : ygt (ytm (ms ++ ns)) x = ygt (ytm ms) x := by
  rcases hx with rfl | ⟨j, hj, rfl⟩
  · rw [ygt_n, ygt_n]
  · rw [ygt_k (by omega), ygt_k (by omega), List.getD_eq_getElem?_getD, List.getD_eq_getElem?_getD, ytm_pre hj]
theorem ych_mono {i j : Nat} {x : Int32} (hx : ych i x) (h : i ≤ j) : ych j x := by
  rcases hx with rfl | ⟨k, hk, rfl⟩
  · exact Or.inl rfl
  · exact Or.inr ⟨k, by omega, rfl⟩
theorem ytm_at {ns : List yN} {i : Nat} {nd : yN} (hw : ywf ns) (hi : ns[i]? = some nd) : (ytm ns)[i]? = some (ymk nd.1 nd.2.1 (ygt (ytm ns) nd.2.2.1) (ygt (ytm ns) nd.2.2.2)) := by
  have hl := (List.getElem?_eq_some_iff.mp hi).1
  have hlt : (ns.take i).length = i := by rw [List.length_take]; omega
  have e1 : ns = (ns.take i ++ [nd]) ++ ns.drop (i + 1) := by
    have : ns.drop i = nd :: ns.drop (i + 1) := by
      rw [List.drop_eq_getElem_cons hl]
      rw [List.getElem?_eq_getElem hl] at hi
      injection hi with hi
      rw [hi]
    rw [List.append_assoc, List.singleton_append, ← this, List.take_append_drop]
  have e2 : (ytm ns)[i]? = (ytm (ns.take i ++ [nd]))[i]? := by
    conv => lhs; rw [e1]
    exact ytm_pre (by rw [List.length_append, hlt]; exact Nat.lt_succ_self _)
  have hc := hw.2 i nd hi
  have hl0 := hw.1
  have e3 : ∀ x, ych i x → ygt (ytm ns) x = ygt (ytm (ns.take i)) x := by
    intro x hx
    conv => lhs; rw [← List.take_append_drop i ns]
    exact ygt_pre (by rw [hlt]; omega) (by rw [hlt]; exact hx)
  rw [e2, ytm_snoc, List.getElem?_append_right (by rw [ytm_l, hlt]; exact Nat.le_refl _), ytm_l, hlt, Nat.sub_self, e3 _ hc.1, e3 _ hc.2]
  rfl
theorem ywf_nil : ywf [] := ⟨by decide, fun i nd h => by cases h⟩
theorem ywf_snoc {ns : List yN} {nd : yN} (hw : ywf ns) (h1 : ych ns.length nd.2.2.1) (h2 : ych ns.length nd.2.2.2) (hl : ns.length + 1 < 2 ^ 31) : ywf (ns ++ [nd]) := by
  refine ⟨by rw [List.length_append]; exact hl, fun i nd' hi => ?_⟩
  by_cases h3 : i < ns.length
  · rw [List.getElem?_append_left h3] at hi
    exact hw.2 i nd' hi
  · have h4 := (List.getElem?_eq_some_iff.mp hi).1
    rw [List.length_append] at h4
    have h5 : i = ns.length := by
      have : [nd].length = 1 := rfl
      omega
    subst h5
    rw [List.getElem?_append_right (Nat.le_refl _), Nat.sub_self] at hi
    injection hi with hi
    subst hi
    exact ⟨h1, h2⟩
/-- a row that holds a fold of the first i nodes -/
def yQ (f : Int32 → Int32 → Int32 → Int32 → Int32) (ns : List yN) (A : List Int32) (i : Nat) : Prop := ∀ (j : Nat) (t : yT), j < i → (ytm ns)[j]? = some t → A[j]? = some (yfo f t)
theorem yQ_g {f : Int32 → Int32 → Int32 → Int32 → Int32} {ns : List yN} {A : List Int32} {i : Nat} {x : Int32} (hq : yQ f ns A i) (hx : ych i x) (hi : i ≤ ns.length) (hl : ns.length < 2 ^ 31) : yg A x = yfo f (ygt (ytm ns) x) := by
  rcases hx with rfl | ⟨j, hj, rfl⟩
  · rw [yg_n, ygt_n]; rfl
  · have e1 : (ytm ns)[j]? = some ((ytm ns)[j]'(by rw [ytm_l]; omega)) := List.getElem?_eq_getElem _
    rw [yg_e (by omega) (hq j _ hj e1), ygt_k (by omega), List.getD_eq_getElem?_getD, e1]
    rfl
theorem yQ_0 {f : Int32 → Int32 → Int32 → Int32 → Int32} {ns : List yN} {A : List Int32} : yQ f ns A 0 := fun j t hj => absurd hj (Nat.not_lt_zero j)
theorem yQ_s {f : Int32 → Int32 → Int32 → Int32 → Int32} {ns : List yN} {A : List Int32} {i : Nat} {nd : yN} (hw : ywf ns) (hi : ns[i]? = some nd) (hA : i < A.length) (hq : yQ f ns A i) : yQ f ns (A.set i (f nd.1 nd.2.1 (yg A nd.2.2.1) (yg A nd.2.2.2))) (i + 1) := by
  have hl := (List.getElem?_eq_some_iff.mp hi).1
  have hc := hw.2 i nd hi
  intro j t hj ht
  by_cases h1 : j = i
  · subst h1
    rw [ytm_at hw hi] at ht
    injection ht with ht
    subst ht
    rw [List.getElem?_set_self hA, yQ_g hq hc.1 (by omega) hw.1, yQ_g hq hc.2 (by omega) hw.1]
    rfl
  · rw [List.getElem?_set_ne (Ne.symm h1)]
    exact hq j t (by omega) ht
theorem yQ_x {f g : Int32 → Int32 → Int32 → Int32 → Int32} {ns : List yN} {A : List Int32} {i : Nat} (hq : yQ f ns A i) (he : ∀ t, yfo f t = yfo g t) : yQ g ns A i := fun j t hj ht => by rw [hq j t hj ht, he]
/-- the nodes of a term in post-order, from a place on -/
def yri (off : Nat) : yT → Int32
  | .leaf => -1
  | .inner _ _ _ l r => nI (off + ysz l + ysz r)
def ypo : Nat → yT → List yN
  | _, .leaf => []
  | off, .inner _ k v l r => ypo off l ++ ypo (off + ysz l) r ++ [(k, v, yri off l, yri (off + ysz l) r)]
theorem ypo_len : ∀ (t : yT) (off : Nat), (ypo off t).length = ysz t
  | .leaf, _ => rfl
  | .inner _ k v l r, off => by
    unfold ypo ysz
    rw [List.length_append, List.length_append, ypo_len l, ypo_len r]
    rfl
