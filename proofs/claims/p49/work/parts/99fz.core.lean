section ZSH
variable {sv : Nat → Value} {m b : Nat} {xs : List Int32}
def yRg (A : yA) : Prop := ∃ M, 1 ≤ M ∧ M ≤ 4 ∧ A.2.2.1 = nI M
variable {h : zH} {w w1 : yW} {o2 : List Int32} {th : Int32}
end ZSH

section ZHQ
theorem yis_or {k : Int32} (h : yis k = true) : k = nI 43 ∨ k = nI 45 ∨ k = nI 42 := by
  unfold yis at h
  rw [Bool.or_eq_true, Bool.or_eq_true] at h
  rcases h with (h | h) | h
  · exact Or.inl (of_decide_eq_true h)
  · exact Or.inr (Or.inl (of_decide_eq_true h))
  · exact Or.inr (Or.inr (of_decide_eq_true h))
theorem ytw_ind {P : yT → Prop} (hc : ∀ n v, P (.inner n (nI 99) v .leaf .leaf)) (hx : ∀ n v, ylet v = true → P (.inner n (nI 118) v .leaf .leaf)) (hu : ∀ n l, ytw l = true → P l → P (.inner n (nI 110) 0 l .leaf)) (hb : ∀ n k l r, (k = nI 43 ∨ k = nI 45 ∨ k = nI 42) → ytw l = true → ytw r = true → P l → P r → P (.inner n k 0 l r)) : ∀ t : yT, ytw t = true → P t
  | .leaf, h => by cases h
  | .inner n k v l r, h => by
    rcases ytw_el h with ⟨rfl, rfl, rfl⟩ | ⟨rfl, hv, rfl, rfl⟩ | ⟨rfl, rfl, hl, rfl⟩ | ⟨hk, rfl, hl, hr⟩
    · exact hc n v
    · exact hx n v hv
    · exact hu n l hl (ytw_ind hc hx hu hb l hl)
    · exact hb n k l r (yis_or hk) hl hr (ytw_ind hc hx hu hb l hl) (ytw_ind hc hx hu hb r hr)
theorem yoc_ct {c : Int32} : ∀ (t : yT) (off : Nat), yoc c (ypo off t) = yct (c - nI 97) (ypr t)
  | .leaf, _ => rfl
  | .inner n k v l r, off => by
    have i1 := yoc_ct (c := c) l off
    have i2 := yoc_ct (c := c) r (off + ysz l)
    unfold yoc yct at i1 i2 ⊢
    unfold ypo ypr
    simp only [List.countP_append, List.countP_cons, List.countP_nil, i1, i2, Nat.zero_add]
    congr 1
    show (if decide (k = nI 118 ∧ v = c) = true then 1 else 0) = if (decide (k = nI 118) && decide (yva k v = c - nI 97)) = true then 1 else 0
    by_cases hk : k = nI 118
    · subst hk
      rw [yva_v]
      have e : (v - nI 97 = c - nI 97) = (v = c) := by
        apply propext
        constructor
        · intro q
          have := congrArg (· + nI 97) q
          simpa using this
        · intro q; rw [q]
      simp only [true_and, decide_true, Bool.true_and, e]
    · simp only [hk, false_and, decide_false, Bool.false_and]
theorem yeq_i {n n' : Nat} {k v k' v' : Int32} {l r l' r' : yT} : yeq (.inner n k v l r) (.inner n' k' v' l' r') = (decide (k = k') && decide (v = v') && yeq l l' && yeq r r') := rfl
theorem ypr_i {n : Nat} {k v : Int32} {l r : yT} : ypr (.inner n k v l r) = (k, yva k v) :: (ypr l ++ ypr r) := rfl
theorem yva_ij {k v v' : Int32} (h : yva k v = yva k v') : v = v' := by
  unfold yva at h
  split at h
  · have := congrArg (· + nI 97) h
    simpa using this
  · exact h
theorem yeq_ypr : ∀ t u : yT, yeq t u = true → ypr t = ypr u
  | .leaf, .leaf, _ => rfl
  | .leaf, .inner _ _ _ _ _, h => by cases h
  | .inner _ _ _ _ _, .leaf, h => by cases h
  | .inner n k v l r, .inner n' k' v' l' r', h => by
    rw [yeq_i, Bool.and_eq_true, Bool.and_eq_true, Bool.and_eq_true] at h
    obtain ⟨⟨⟨h1, h2⟩, h3⟩, h4⟩ := h
    rw [ypr_i, ypr_i, of_decide_eq_true h1, of_decide_eq_true h2, yeq_ypr l l' h3, yeq_ypr r r' h4]
theorem ypr_inj {t : yT} (ht : ytw t = true) : ∀ (u : yT) (a b : yP), ytw u = true → ypr t ++ a = ypr u ++ b → yeq t u = true ∧ a = b := by
  refine ytw_ind (P := fun t => ∀ (u : yT) (a b : yP), ytw u = true → ypr t ++ a = ypr u ++ b → yeq t u = true ∧ a = b) ?_ ?_ ?_ ?_ t ht
  · intro n v u a b hu h
    match u, hu, h with
    | .leaf, hu, h => cases hu
    | .inner n' k' v' l' r', hu, h =>
      rw [ypr_i, ypr_i, List.cons_append, List.cons_append, List.cons.injEq, Prod.mk.injEq] at h
      obtain ⟨⟨rfl, h2⟩, h3⟩ := h
      obtain rfl := yva_ij h2
      rcases ytw_el hu with ⟨_, rfl, rfl⟩ | ⟨q, _⟩ | ⟨q, _⟩ | ⟨q, _⟩
      · exact ⟨by rw [yeq_i, decide_eq_true rfl, decide_eq_true rfl]; rfl, h3⟩
      · exact absurd q (by decide +kernel)
      · exact absurd q (by decide +kernel)
      · exact absurd q (by decide +kernel)
  · intro n v hv u a b hu h
    match u, hu, h with
    | .leaf, hu, h => cases hu
    | .inner n' k' v' l' r', hu, h =>
      rw [ypr_i, ypr_i, List.cons_append, List.cons_append, List.cons.injEq, Prod.mk.injEq] at h
      obtain ⟨⟨rfl, h2⟩, h3⟩ := h
      obtain rfl := yva_ij h2
      rcases ytw_el hu with ⟨q, _⟩ | ⟨_, _, rfl, rfl⟩ | ⟨q, _⟩ | ⟨q, _⟩
      · exact absurd q (by decide +kernel)
      · exact ⟨by rw [yeq_i, decide_eq_true rfl, decide_eq_true rfl]; rfl, h3⟩
      · exact absurd q (by decide +kernel)
      · exact absurd q (by decide +kernel)
  · intro n l hl ih u a b hu h
    match u, hu, h with
    | .leaf, hu, h => cases hu
    | .inner n' k' v' l' r', hu, h =>
      rw [ypr_i, ypr_i, List.cons_append, List.cons_append, List.cons.injEq, Prod.mk.injEq] at h
      obtain ⟨⟨rfl, h2⟩, h3⟩ := h
      obtain rfl := yva_ij h2
      rcases ytw_el hu with ⟨q, _⟩ | ⟨q, _⟩ | ⟨_, _, hl', rfl⟩ | ⟨q, _⟩
      · exact absurd q (by decide +kernel)
      · exact absurd q (by decide +kernel)
      · rw [List.append_assoc, List.append_assoc] at h3
        obtain ⟨i1, i2⟩ := ih l' _ _ hl' h3
        exact ⟨by rw [yeq_i, decide_eq_true rfl, decide_eq_true rfl, i1]; rfl, i2⟩
      · exact absurd q (by decide +kernel)
  · intro n k l r hk hl hr ihl ihr u a b hu h
    match u, hu, h with
    | .leaf, hu, h => cases hu
    | .inner n' k' v' l' r', hu, h =>
      rw [ypr_i, ypr_i, List.cons_append, List.cons_append, List.cons.injEq, Prod.mk.injEq] at h
      obtain ⟨⟨rfl, h2⟩, h3⟩ := h
      obtain rfl := yva_ij h2
      have hy : yis k = true := by rcases hk with rfl | rfl | rfl <;> decide +kernel
      have hn := yis_ne hy
      rcases ytw_el hu with ⟨q, _⟩ | ⟨q, _⟩ | ⟨q, _⟩ | ⟨_, _, hl', hr'⟩
      · exact absurd q hn.1
      · exact absurd q hn.2.1
      · exact absurd q hn.2.2.1
      · rw [List.append_assoc, List.append_assoc] at h3
        obtain ⟨i1, i2⟩ := ihl l' _ _ hl' h3
        obtain ⟨j1, j2⟩ := ihr r' _ _ hr' i2
        exact ⟨by rw [yeq_i, decide_eq_true rfl, decide_eq_true rfl, i1, j1]; rfl, j2⟩
theorem yeq_pr {t u : yT} (ht : ytw t = true) (hu : ytw u = true) : yeq t u = decide (ypr t = ypr u) := by
  cases h : yeq t u with
  | true => rw [yeq_ypr t u h, decide_eq_true rfl]
  | false =>
    symm
    refine decide_eq_false fun q => ?_
    have := (ypr_inj ht u [] [] hu (by rw [q])).1
    rw [h] at this
    cases this
end ZHQ

section ZHR
/-- a term's parts in post-order -/
def ytp : yT → List yT
  | .leaf => []
  | .inner n k v l r => ytp l ++ ytp r ++ [.inner n k v l r]
theorem ytp_i {n : Nat} {k v : Int32} {l r : yT} : ytp (.inner n k v l r) = ytp l ++ ytp r ++ [.inner n k v l r] := rfl
def ylw (t : yT) : Prop := t = .leaf ∨ ytw t = true
theorem ytw_ch {n : Nat} {k v : Int32} {l r : yT} (h : ytw (.inner n k v l r) = true) : n = 0 ∧ ylw l ∧ ylw r := by
  refine ⟨?_, ?_⟩
  · have h' : (decide (n = 0) && _) = true := h
    rw [Bool.and_eq_true] at h'
    exact of_decide_eq_true h'.1
  · rcases ytw_el h with ⟨_, q1, q2⟩ | ⟨_, _, q1, q2⟩ | ⟨_, _, q1, q2⟩ | ⟨_, _, q1, q2⟩
    · exact ⟨Or.inl q1, Or.inl q2⟩
    · exact ⟨Or.inl q1, Or.inl q2⟩
    · exact ⟨Or.inr q1, Or.inl q2⟩
    · exact ⟨Or.inr q1, Or.inr q2⟩
theorem yri_ch {off : Nat} : ∀ t : yT, ych (off + ysz t) (yri off t)
  | .leaf => Or.inl rfl
  | .inner n k v l r => Or.inr ⟨off + ysz l + ysz r, by show _ < off + (ysz l + ysz r + 1); omega, rfl⟩
theorem ytm_rt {t : yT} {ms : List yN} (hw : ywf ms) (hl : ms.length + ysz t < 2 ^ 31) (ht : ylw t) : ygt (ytm (ms ++ ypo ms.length t)) (yri ms.length t) = t := by
  rcases ht with rfl | ht
  · exact ygt_n
  · exact (ytm_ypo t ms hw hl).2 ht
theorem ytm_tp : ∀ (t : yT) (ms : List yN), ywf ms → ms.length + ysz t < 2 ^ 31 → ylw t → ytm (ms ++ ypo ms.length t) = ytm ms ++ ytp t
  | .leaf, ms, hw, hl, ht => by
    show ytm (ms ++ []) = ytm ms ++ []
    rw [List.append_nil, List.append_nil]
  | .inner n k v l r, ms, hw, hl, ht => by
    rcases ht with q | ht
    · cases q
    · obtain ⟨hn, gl, gr⟩ := ytw_ch ht
      subst hn
      have hz : ms.length + (ysz l + ysz r + 1) < 2 ^ 31 := hl
      have w1 := (ytm_ypo l ms hw (by omega)).1
      have l1 : (ms ++ ypo ms.length l).length = ms.length + ysz l := by rw [List.length_append, ypo_len]
      have i1 := ytm_tp l ms hw (by omega) gl
      have w2 := (ytm_ypo r _ w1 (by rw [l1]; omega)).1
      have i2 := ytm_tp r _ w1 (by rw [l1]; omega) gr
      have r1 := ytm_rt hw (by omega) gl
      have r2 := ytm_rt w1 (by rw [l1]; omega) gr
      have e : ms ++ ypo ms.length (.inner 0 k v l r) = ((ms ++ ypo ms.length l) ++ ypo (ms ++ ypo ms.length l).length r) ++ [(k, v, yri ms.length l, yri (ms ++ ypo ms.length l).length r)] := by
        rw [l1]
        show ms ++ (ypo ms.length l ++ ypo (ms.length + ysz l) r ++ [(k, v, yri ms.length l, yri (ms.length + ysz l) r)]) = _
        rw [← List.append_assoc, ← List.append_assoc]
      rw [e, ytm_snoc]
      dsimp only
      rw [r2, ygt_pre (by rw [l1]; omega) (by rw [l1]; exact yri_ch l), r1, i2, i1, ytp_i]
      show _ = ytm ms ++ (ytp l ++ ytp r ++ [ymk k v l r])
      simp only [List.append_assoc]
theorem ypo_tp {t : yT} (hl : ysz t < 2 ^ 31) (ht : ytw t = true) : ytm (ypo 0 t) = ytp t := by
  have := ytm_tp t [] ywf_nil (by show 0 + _ < _; omega) (Or.inr ht)
  exact this
/-- a list's members, each counted once -/
def yrc {α : Type} [DecidableEq α] : List α → Nat
  | [] => 0
  | a :: r => yrc r + (if a ∈ r then 0 else 1)
theorem yrc_c {α : Type} [DecidableEq α] {a : α} {r : List α} : yrc (a :: r) = yrc r + (if a ∈ r then 0 else 1) := rfl
theorem yrc_p {α : Type} [DecidableEq α] {a b : List α} (h : a.Perm b) : yrc a = yrc b := by
  induction h with
  | nil => rfl
  | @cons x l1 l2 h ih =>
    rw [yrc_c, yrc_c, ih]
    congr 1
    have := h.mem_iff (a := x)
    by_cases c : x ∈ l1
    · rw [if_pos c, if_pos (this.mp c)]
    · rw [if_neg c, if_neg (fun q => c (this.mpr q))]
  | swap x y l =>
    rw [yrc_c, yrc_c, yrc_c, yrc_c]
    by_cases e : x = y
    · subst e; rfl
    · have e' : ¬ y = x := fun q => e q.symm
      have m1 : (y ∈ x :: l) = (y ∈ l) := by rw [List.mem_cons]; simp [e']
      have m2 : (x ∈ y :: l) = (x ∈ l) := by rw [List.mem_cons]; simp [e]
      simp only [m1, m2]
      omega
  | trans _ _ h1 h2 => exact h1.trans h2
end ZHR

section ZHS
theorem yeq_eq : ∀ a b : yT, yeq a b = true → ylw a → ylw b → a = b
  | .leaf, .leaf, _, _, _ => rfl
  | .leaf, .inner _ _ _ _ _, h, _, _ => by cases h
  | .inner _ _ _ _ _, .leaf, h, _, _ => by cases h
  | .inner n k v l r, .inner n' k' v' l' r', h, ha, hb => by
    rcases ha with q | ha
    · cases q
    rcases hb with q | hb
    · cases q
    obtain ⟨a1, a2, a3⟩ := ytw_ch ha
    obtain ⟨b1, b2, b3⟩ := ytw_ch hb
    rw [yeq_i, Bool.and_eq_true, Bool.and_eq_true, Bool.and_eq_true] at h
    obtain ⟨⟨⟨h1, h2⟩, h3⟩, h4⟩ := h
    rw [a1, b1, of_decide_eq_true h1, of_decide_eq_true h2, yeq_eq l l' h3 a2 b2, yeq_eq r r' h4 a3 b3]
theorem ypr_e {a b : yT} (ha : ytw a = true) (hb : ytw b = true) (h : ypr a = ypr b) : a = b :=
  yeq_eq a b (by rw [yeq_pr ha hb, decide_eq_true h]) (Or.inr ha) (Or.inr hb)
theorem ytp_tw : ∀ (t : yT), ylw t → ∀ x, x ∈ ytp t → ytw x = true
  | .leaf, _, x, hx => absurd hx List.not_mem_nil
  | .inner n k v l r, h, x, hx => by
    rcases h with q | h
    · cases q
    · obtain ⟨_, h2, h3⟩ := ytw_ch h
      rw [ytp_i, List.mem_append, List.mem_append, List.mem_singleton] at hx
      rcases hx with (hx | hx) | rfl
      · exact ytp_tw l h2 x hx
      · exact ytp_tw r h3 x hx
      · exact h
end ZHS

section ZHT
/-- the numbered nodes stand for the parts met so far -/
def yNI (ps : List yN) (S : List yT) : Prop := ywf ps ∧ (∀ (m m' : Nat) (a : yT), (ytm ps)[m]? = some a → (ytm ps)[m']? = some a → m = m') ∧ (∀ a, a ∈ ytm ps ↔ a ∈ S) ∧ ps.length = yrc (S.map ypr) ∧ (∀ a, a ∈ S → ytw a = true) ∧ S.length ≤ 62
def yMp (ns ps : List yN) (B : List Int32) (i : Nat) : Prop := ∀ (j : Nat) (a : yT), j < i → (ytm ns)[j]? = some a → ∃ m, B[j]? = some (nI m) ∧ (ytm ps)[m]? = some a
theorem yrc_le {α : Type} [DecidableEq α] : ∀ l : List α, yrc l ≤ l.length
  | [] => Nat.le_refl _
  | a :: r => by
    have := yrc_le r
    rw [yrc_c, List.length_cons]
    split <;> omega
theorem yrc_sn {α : Type} [DecidableEq α] {l : List α} {a : α} : yrc (l ++ [a]) = yrc l + (if a ∈ l then 0 else 1) := by
  rw [yrc_p (List.perm_append_singleton a l), yrc_c]
theorem ykey {S : List yT} {b : yT} (hS : ∀ a, a ∈ S → ytw a = true) (hb : ytw b = true) : ypr b ∈ S.map ypr ↔ b ∈ S := by
  rw [List.mem_map]
  constructor
  · rintro ⟨a, h1, h2⟩
    rw [← ypr_e (hS a h1) hb h2]
    exact h1
  · intro h
    exact ⟨b, h, rfl⟩
theorem yfd_s {nd : yN} : ∀ (ps : List yN) (k m : Nat), yfd nd ps k = some m → ∃ j, m = k + j ∧ ps[j]? = some nd
  | [], k, m, h => by cases h
  | x :: r, k, m, h => by
    have h' : (if x = nd then some k else yfd nd r (k + 1)) = some m := h
    by_cases e : x = nd
    · rw [if_pos e] at h'
      cases h'
      exact ⟨0, rfl, by rw [e]; rfl⟩
    · rw [if_neg e] at h'
      obtain ⟨j, h1, h2⟩ := yfd_s r (k + 1) m h'
      exact ⟨j + 1, by omega, h2⟩
theorem yfd_n {nd : yN} : ∀ (ps : List yN) (k : Nat), yfd nd ps k = none → nd ∉ ps
  | [], k, h => List.not_mem_nil
  | x :: r, k, h => by
    have h' : (if x = nd then some k else yfd nd r (k + 1)) = none := h
    by_cases e : x = nd
    · rw [if_pos e] at h'
      cases h'
    · rw [if_neg e] at h'
      intro q
      rcases List.mem_cons.mp q with q | q
      · exact e q.symm
      · exact yfd_n r (k + 1) h' q
theorem ytm_mk {ps : List yN} (hw : ywf ps) {m : Nat} {a : yT} (h : (ytm ps)[m]? = some a) : ∃ q, ps[m]? = some q ∧ a = ymk q.1 q.2.1 (ygt (ytm ps) q.2.2.1) (ygt (ytm ps) q.2.2.2) ∧ ych m q.2.2.1 ∧ ych m q.2.2.2 := by
  have hm : m < ps.length := by
    have := (List.getElem?_eq_some_iff.mp h).1
    rwa [ytm_l] at this
  have e : ps[m]? = some ps[m] := List.getElem?_eq_getElem hm
  refine ⟨ps[m], e, ?_, hw.2 m _ e⟩
  have := ytm_at hw e
  rw [h] at this
  exact Option.some.inj this
/-- a number's part -/
theorem ygt_inj {ps : List yN} (hw : ywf ps) (hd : ∀ (m m' : Nat) (a : yT), (ytm ps)[m]? = some a → (ytm ps)[m']? = some a → m = m') {x y : Int32} (hx : ych ps.length x) (hy : ych ps.length y) (h : ygt (ytm ps) x = ygt (ytm ps) y) : x = y := by
  have hg : ∀ j, j < ps.length → ∃ a, (ytm ps)[j]? = some a ∧ ygt (ytm ps) (nI j) = a ∧ a ≠ .leaf := by
    intro j hj
    have e : (ytm ps)[j]? = some ((ytm ps)[j]'(by rw [ytm_l]; exact hj)) := List.getElem?_eq_getElem _
    obtain ⟨q, q1, q2, _⟩ := ytm_mk hw e
    refine ⟨_, e, ?_, ?_⟩
    · rw [ygt_k (by have := hw.1; omega), List.getD_eq_getElem?_getD, e]
      rfl
    · rw [q2]
      intro z
      cases z
  rcases hx with rfl | ⟨j, hj, rfl⟩ <;> rcases hy with rfl | ⟨j', hj', rfl⟩
  · rfl
  · obtain ⟨a, a1, a2, a3⟩ := hg j' hj'
    rw [ygt_n, a2] at h
    exact absurd h.symm a3
  · obtain ⟨a, a1, a2, a3⟩ := hg j hj
    rw [ygt_n, a2] at h
    exact absurd h a3
  · obtain ⟨a, a1, a2, _⟩ := hg j hj
    obtain ⟨b, b1, b2, _⟩ := hg j' hj'
    rw [a2, b2] at h
    subst h
    rw [hd j j' a a1 b1]
theorem yno_t {ns ps : List yN} {B : List Int32} {i : Nat} (hn : ns.length < 2 ^ 31) (hin : i ≤ ns.length) (hp : ps.length < 2 ^ 31) (hM : yMp ns ps B i) {x : Int32} (hx : ych i x) : ych ps.length (ynof B x) ∧ ygt (ytm ps) (ynof B x) = ygt (ytm ns) x := by
  rcases hx with rfl | ⟨j, hj, rfl⟩
  · unfold ynof
    rw [if_pos rfl, ygt_n, ygt_n]
    exact ⟨Or.inl rfl, rfl⟩
  · have e : (ytm ns)[j]? = some ((ytm ns)[j]'(by rw [ytm_l]; omega)) := List.getElem?_eq_getElem _
    obtain ⟨m, m1, m2⟩ := hM j _ hj e
    have hm : m < ps.length := by
      have := (List.getElem?_eq_some_iff.mp m2).1
      rwa [ytm_l] at this
    have hne : ¬ nI j = -1 := fun z => by
      have h0 : ¬ nI j < 0 := nI_pos (by omega)
      rw [z] at h0
      exact h0 (by decide)
    unfold ynof
    rw [if_neg hne, yg_e (by omega) m1]
    refine ⟨Or.inr ⟨m, hm, rfl⟩, ?_⟩
    rw [ygt_k (by omega), ygt_k (by omega), List.getD_eq_getElem?_getD, List.getD_eq_getElem?_getD, m2, e]
theorem yinc_st {ns ps : List yN} {B : List Int32} {S : List yT} {i : Nat} {nd : yN} (hw : ywf ns) (hall : ∀ a, a ∈ ytm ns → ytw a = true) (hi : ns[i]? = some nd) (hz : ns.length ≤ 31) (hB : B.length = 31) (hI : yNI ps S) (hM : yMp ns ps B i) (hS : S.length + 1 ≤ 62) : ∃ b, (ytm ns)[i]? = some b ∧ yNI (ynst ps (nd.1, nd.2.1, ynof B nd.2.2.1, ynof B nd.2.2.2)).2 (S ++ [b]) ∧ yMp ns (ynst ps (nd.1, nd.2.1, ynof B nd.2.2.1, ynof B nd.2.2.2)).2 (ys B (nI i) (ynst ps (nd.1, nd.2.1, ynof B nd.2.2.1, ynof B nd.2.2.2)).1) (i + 1) := by
  obtain ⟨w1, hd, hmem, hlen, hS2, hS3⟩ := hI
  have hin := (List.getElem?_eq_some_iff.mp hi).1
  obtain ⟨c1, c2⟩ := hw.2 i nd hi
  have hps : ps.length ≤ S.length := by
    have := yrc_le (S.map ypr)
    rw [List.length_map] at this
    omega
  obtain ⟨x1, x2⟩ := yno_t (by omega) (by omega) (by omega) hM c1
  obtain ⟨y1, y2⟩ := yno_t (by omega) (by omega) (by omega) hM c2
  have hb := ytm_at hw hi
  obtain ⟨b, hbe⟩ : ∃ b, b = ymk nd.1 nd.2.1 (ygt (ytm ns) nd.2.2.1) (ygt (ytm ns) nd.2.2.2) := ⟨_, rfl⟩
  rw [← hbe] at hb
  have hbw := hall b (List.mem_of_getElem? hb)
  refine ⟨b, hb, ?_⟩
  obtain ⟨X, hX⟩ : ∃ X, X = ynof B nd.2.2.1 := ⟨_, rfl⟩
  obtain ⟨Y, hY⟩ : ∃ Y, Y = ynof B nd.2.2.2 := ⟨_, rfl⟩
  rw [← hX] at x1 x2
  rw [← hY] at y1 y2
  rw [← hX, ← hY]
  have hS2' : ∀ a, a ∈ S ++ [b] → ytw a = true := by
    intro a ha
    rcases List.mem_append.mp ha with ha | ha
    · exact hS2 a ha
    · rw [List.mem_singleton] at ha
      rw [ha]; exact hbw
  have hS3' : (S ++ [b]).length ≤ 62 := by rw [List.length_append]; exact hS
  have hBi : ∀ v : Int32, (ys B (nI i) v)[i]? = some v := fun v => by
    rw [ys_k (by omega), List.getElem?_set_self (by omega)]
  have hBj : ∀ (v : Int32) (j : Nat), j < i → (ys B (nI i) v)[j]? = B[j]? := fun v j hj => by
    rw [ys_k (by omega), List.getElem?_set_ne (by omega)]
  have hold : ∀ (ps' : List yN) (v : Nat), (∀ (m : Nat) (a : yT), (ytm ps)[m]? = some a → (ytm ps')[m]? = some a) → (ytm ps')[v]? = some b → yMp ns ps' (ys B (nI i) (nI v)) (i + 1) := by
    intro ps' v h1 h2 j a hj ha
    by_cases e : j = i
    · subst e
      rw [hb] at ha
      cases ha
      exact ⟨v, hBi _, h2⟩
    · obtain ⟨m, m1, m2⟩ := hM j a (by omega) ha
      exact ⟨m, by rw [hBj _ j (by omega)]; exact m1, h1 m a m2⟩
  cases hf : yfd (nd.1, nd.2.1, X, Y) ps 0 with
  | some m =>
    have e1 : ynst ps (nd.1, nd.2.1, X, Y) = (nI m, ps) := by unfold ynst; rw [hf]
    rw [e1]
    obtain ⟨j, hj, hj2⟩ := yfd_s ps 0 m hf
    obtain rfl : j = m := by omega
    have hbm : (ytm ps)[j]? = some b := by
      rw [ytm_at w1 hj2, hbe]
      dsimp only
      rw [x2, y2]
    have hbS : b ∈ S := (hmem b).mp (List.mem_of_getElem? hbm)
    refine ⟨⟨w1, hd, fun a => ?_, ?_, hS2', hS3'⟩, hold ps j (fun m a h => h) hbm⟩
    · rw [hmem a, List.mem_append, List.mem_singleton]
      constructor
      · exact Or.inl
      · rintro (h | rfl)
        · exact h
        · exact hbS
    · rw [List.map_append, List.map_singleton, yrc_sn, if_pos ((ykey hS2 hbw).mpr hbS), hlen]
      rfl
  | none =>
    have e1 : ynst ps (nd.1, nd.2.1, X, Y) = (nI ps.length, ps ++ [(nd.1, nd.2.1, X, Y)]) := by
      unfold ynst
      rw [hf]
      show (if ps.length < 62 then _ else _) = _
      rw [if_pos (by omega)]
    rw [e1]
    have hnot : b ∉ ytm ps := by
      intro q
      obtain ⟨m, hm⟩ := List.mem_iff_getElem?.mp q
      obtain ⟨p, p1, p2, p3, p4⟩ := ytm_mk w1 hm
      rw [hbe] at p2
      unfold ymk at p2
      injection p2 with q0 q1 q2 q3 q4
      have hm2 : m < ps.length := (List.getElem?_eq_some_iff.mp p1).1
      rw [← x2] at q3
      rw [← y2] at q4
      have z3 := ygt_inj w1 hd x1 (ych_mono p3 (by omega)) q3
      have z4 := ygt_inj w1 hd y1 (ych_mono p4 (by omega)) q4
      refine yfd_n ps 0 hf ?_
      have : p = (nd.1, nd.2.1, X, Y) := by
        obtain ⟨pa, pb, pc, pd⟩ := p
        dsimp only at q1 q2 z3 z4 ⊢
        rw [q1, q2, z3, z4]
      rw [← this]
      exact List.mem_of_getElem? p1
    have hbS : b ∉ S := fun q => hnot ((hmem b).mpr q)
    have e2 : ytm (ps ++ [(nd.1, nd.2.1, X, Y)]) = ytm ps ++ [b] := by
      rw [ytm_snoc, hbe]
      dsimp only
      rw [x2, y2]
    have hlt : ∀ (m : Nat) (a : yT), (ytm ps)[m]? = some a → (ytm ps ++ [b])[m]? = some a := fun m a h => by
      rw [List.getElem?_append_left (List.getElem?_eq_some_iff.mp h).1]
      exact h
    have hbl : (ytm ps ++ [b])[ps.length]? = some b := by
      rw [List.getElem?_append_right (by rw [ytm_l]; exact Nat.le_refl _), ytm_l, Nat.sub_self]
      rfl
    have hcase : ∀ (m : Nat) (a : yT), (ytm ps ++ [b])[m]? = some a → ((ytm ps)[m]? = some a ∧ a ≠ b) ∨ (m = ps.length ∧ a = b) := by
      intro m a h
      by_cases c : m < ps.length
      · rw [List.getElem?_append_left (by rw [ytm_l]; exact c)] at h
        refine Or.inl ⟨h, fun q => hnot ?_⟩
        rw [← q]
        exact List.mem_of_getElem? h
      · have hm := (List.getElem?_eq_some_iff.mp h).1
        rw [List.length_append, ytm_l, List.length_singleton] at hm
        obtain rfl : m = ps.length := by omega
        rw [hbl] at h
        exact Or.inr ⟨rfl, (Option.some.inj h).symm⟩
    refine ⟨⟨ywf_snoc w1 x1 y1 (by omega), fun m m' a h1 h2 => ?_, fun a => ?_, ?_, hS2', hS3'⟩, hold _ ps.length (fun m a h => by rw [e2]; exact hlt m a h) (by rw [e2]; exact hbl)⟩
    · rw [e2] at h1 h2
      rcases hcase m a h1 with ⟨g1, g2⟩ | ⟨g1, g2⟩ <;> rcases hcase m' a h2 with ⟨g3, g4⟩ | ⟨g3, g4⟩
      · exact hd m m' a g1 g3
      · exact absurd g4 g2
      · exact absurd g2 g4
      · omega
    · rw [e2, List.mem_append, List.mem_append, hmem a]
    · rw [List.length_append, List.length_singleton, List.map_append, List.map_singleton, yrc_sn, if_neg (fun q => hbS ((ykey hS2 hbw).mp q)), hlen]
end ZHT

section ZHU
theorem yinc_iv {ns : List yN} (hw : ywf ns) (hall : ∀ a, a ∈ ytm ns → ytw a = true) (hz : ns.length ≤ 31) : ∀ (r : List yN) (i : Nat) (ps : List yN) (B : List Int32) (S : List yT), ns.drop i = r → i + r.length = ns.length → B.length = 31 → yNI ps S → yMp ns ps B i → S.length + r.length ≤ 62 → yNI (yinc r i (ps, B)).1 (S ++ (ytm ns).drop i) ∧ (yinc r i (ps, B)).2.length = 31
  | [], i, ps, B, S, hr, hi, hB, hI, hM, hS => by
    have : (ytm ns).drop i = [] := List.drop_eq_nil_of_le (by rw [ytm_l]; simp at hi; omega)
    rw [this, List.append_nil]
    exact ⟨hI, hB⟩
  | nd :: r, i, ps, B, S, hr, hi, hB, hI, hM, hS => by
    rw [List.length_cons] at hi hS
    have h0 : ns[i]? = some nd := by
      have := congrArg (fun l : List yN => l[0]?) hr
      simpa using this
    have hr' : ns.drop (i + 1) = r := by
      have := congrArg (fun l : List yN => l.drop 1) hr
      simpa using this
    obtain ⟨b, b1, b2, b3⟩ := yinc_st hw hall h0 hz hB hI hM (by omega)
    have e : (ytm ns).drop i = b :: (ytm ns).drop (i + 1) := by
      have hl := (List.getElem?_eq_some_iff.mp b1).1
      rw [List.drop_eq_getElem_cons hl]
      congr 1
      exact (List.getElem?_eq_some_iff.mp b1).2
    have := yinc_iv hw hall hz r (i + 1) _ (ys B (nI i) (ynst ps (nd.1, nd.2.1, ynof B nd.2.2.1, ynof B nd.2.2.2)).1) (S ++ [b]) hr' (by omega) (by rw [ys_len]; exact hB) b2 b3 (by rw [List.length_append, List.length_singleton]; omega)
    rw [List.append_assoc] at this
    rw [e]
    exact this
theorem yNI_0 : yNI [] [] := ⟨ywf_nil, fun m m' a h => (by cases h), fun a => Iff.rfl, rfl, fun a h => absurd h List.not_mem_nil, Nat.zero_le _⟩
theorem ypo_wf {t : yT} (hz : ysz t < 2 ^ 31) : ywf (ypo 0 t) := (ytm_ypo t [] ywf_nil (by show 0 + _ < _; omega)).1
theorem yinc_t {t : yT} {ps : List yN} {B : List Int32} {S : List yT} (ht : ytw t = true) (hz : ysz t ≤ 31) (hB : B.length = 31) (hI : yNI ps S) (hS : S.length + ysz t ≤ 62) : yNI (yinc (ypo 0 t) 0 (ps, B)).1 (S ++ ytp t) ∧ (yinc (ypo 0 t) 0 (ps, B)).2.length = 31 := by
  have e := ypo_tp (by omega : ysz t < 2 ^ 31) ht
  have := yinc_iv (ypo_wf (by omega)) (by rw [e]; exact ytp_tw t (Or.inr ht)) (by rw [ypo_len]; exact hz) (ypo 0 t) 0 ps B S rfl (by omega) hB hI (fun j a hj => absurd hj (by omega)) (by rw [ypo_len]; exact hS)
  rw [e] at this
  exact this
theorem yinc_1 {t : yT} {B : List Int32} (ht : ytw t = true) (hz : ysz t ≤ 31) (hB : B.length = 31) : (yinc (ypo 0 t) 0 ([], B)).1.length = yrc ((ytp t).map ypr) := by
  have := (yinc_t ht hz hB yNI_0 (by show 0 + _ ≤ _; omega)).1
  rw [this.2.2.2.1]
  rfl
end ZHU
