/-- the same cells on a range -/
def zcg (lo hi : Nat) (h h' : zH) : Prop := ∀ q, lo ≤ q → q < hi → h'.1 q = h.1 q
theorem zcg_fr {lo hi a b : Nat} {h h' : zH} (hf : zfr a b h h') (hq : hi ≤ a ∨ b ≤ lo) : zcg lo hi h h' := fun q h1 h2 => hf.1 q (by omega)
theorem zcg_tr {lo hi : Nat} {h h' h'' : zH} (h1 : zcg lo hi h h') (h2 : zcg lo hi h' h'') : zcg lo hi h h'' := fun q a b => (h2 q a b).trans (h1 q a b)
theorem zcg_mono {lo hi lo' hi' : Nat} {h h' : zH} (h1 : zcg lo hi h h') (ha : lo ≤ lo') (hb : hi' ≤ hi) : zcg lo' hi' h h' := fun q a b => h1 q (by omega) (by omega)
theorem zRow_cg {h h' : zH} {r : Nat} {A : List Int32} (hr : zRow h r A) (hf : zcg r (r + 2) h h') : zRow h' r A := ⟨by rw [hf r (by omega) (by omega), hr.1], by rw [hf (r + 1) (by omega) (by omega), hr.2.1], hr.2.2⟩
theorem zTre_cg {h h' : zH} {t m : Nat} {ns : List yN} (ht : zTre h t m ns) (hf : zcg t (t + 9) h h') : zTre h' t m ns := by
  obtain ⟨K, N, L, R, h0, ⟨h1, h2, h3, h4⟩, h5⟩ := ht
  exact ⟨K, N, L, R, by rw [hf t (by omega) (by omega), h0], ⟨zRow_cg h1 (zcg_mono hf (by omega) (by omega)), zRow_cg h2 (zcg_mono hf (by omega) (by omega)), zRow_cg h3 (zcg_mono hf (by omega) (by omega)), zRow_cg h4 (zcg_mono hf (by omega) (by omega))⟩, h5⟩
theorem zGau_cg {h h' : zH} {g : Nat} {A B C : List Int32} (hg : zGau h g A B C) (hf : zcg g (g + 7) h h') : zGau h' g A B C := ⟨by rw [hf g (by omega) (by omega), hg.1], zRow_cg hg.2.1 (zcg_mono hf (by omega) (by omega)), zRow_cg hg.2.2.1 (zcg_mono hf (by omega) (by omega)), zRow_cg hg.2.2.2.1 (zcg_mono hf (by omega) (by omega)), hg.2.2.2.2⟩
theorem zAl_cg {h h' : zH} {al : Nat} {P : List Int32} (ha : zAl h al P) (hf : zcg al (al + 3) h h') : zAl h' al P := ⟨by rw [hf al (by omega) (by omega), ha.1], zRow_cg ha.2.1 (zcg_mono hf (by omega) (by omega)), ha.2.2⟩
theorem zSta_cg {h h' : zH} {s : Nat} {S : yS} (hs : zSta h s S) (hf : zcg s (s + 4) h h') : zSta h' s S := by
  obtain ⟨h1, ⟨F, h2, h3⟩, h4, h5⟩ := hs
  exact ⟨by rw [hf s (by omega) (by omega), h1], ⟨F, by rw [hf (s + 1) (by omega) (by omega), h2], h3⟩, zRow_cg h4 (zcg_mono hf (by omega) (by omega)), h5⟩
theorem zHis_cg {h h' : zH} {g : Nat} {H : List yS} (hg : zHis h g H) (hf : zcg g (g + 34) h h') : zHis h' g H := by
  obtain ⟨nx, h0, h1, h2, h3, h4, h5⟩ := hg
  refine ⟨nx, h0, by rw [hf g (by omega) (by omega), h1], by rw [hf (g + 1) (by omega) (by omega), h2], fun k hk => ?_, fun j S hj => ?_, h5⟩
  · obtain ⟨S, hS⟩ := h3 k hk
    exact ⟨S, zSta_cg hS (zcg_mono hf (by omega) (by omega))⟩
  · exact zSta_cg (h4 j S hj) (zcg_mono hf (by omega) (by omega))
/-- two ranges of addresses changed alone -/
def zf2 (a b c e : Nat) (h h' : zH) : Prop := (∀ q, (q < a ∨ b ≤ q) → (q < c ∨ e ≤ q) → h'.1 q = h.1 q) ∧ h'.2 = h.2
theorem zf2_rfl {a b c e : Nat} {h : zH} : zf2 a b c e h h := ⟨fun _ _ _ => rfl, rfl⟩
theorem zf2_tr {a b c e : Nat} {h h' h'' : zH} (h1 : zf2 a b c e h h') (h2 : zf2 a b c e h' h'') : zf2 a b c e h h'' := ⟨fun q p r => (h2.1 q p r).trans (h1.1 q p r), h2.2.trans h1.2⟩
theorem zf2_1 {a b c e : Nat} {h h' : zH} (h1 : zfr a b h h') : zf2 a b c e h h' := ⟨fun q p _ => h1.1 q p, h1.2⟩
theorem zf2_2 {a b c e : Nat} {h h' : zH} (h1 : zfr c e h h') : zf2 a b c e h h' := ⟨fun q _ p => h1.1 q p, h1.2⟩
theorem zcg_f2 {lo hi a b c e : Nat} {h h' : zH} (hf : zf2 a b c e h h') (h1 : hi ≤ a ∨ b ≤ lo) (h2 : hi ≤ c ∨ e ≤ lo) : zcg lo hi h h' := fun q h3 h4 => hf.1 q (by omega) (by omega)
theorem zf2_fr {a b c e lo hi : Nat} {h h' : zH} (hf : zf2 a b c e h h') (h1 : lo ≤ a) (h2 : b ≤ hi) (h3 : lo ≤ c) (h4 : e ≤ hi) : zfr lo hi h h' := ⟨fun q hq => hf.1 q (by omega) (by omega), hf.2⟩
theorem ydp_ysn {a : yT} : ydp (ysn a) ≤ ydp a + 1 := by
  unfold ysn
  by_cases h1 : yk a = nI 99
  · rw [if_pos h1]; exact Nat.le_add_left _ _
  · rw [if_neg h1]
    by_cases h2 : yk a = nI 110
    · rw [if_pos h2]
      cases a with
      | leaf => exact Nat.zero_le _
      | inner n k v l r =>
        show ydp l ≤ max (ydp l) (ydp r) + 1 + 1
        have := Nat.le_max_left (ydp l) (ydp r)
        omega
    · rw [if_neg h2]
      show max (ydp a) 0 + 1 ≤ ydp a + 1
      rw [Nat.max_eq_left (Nat.zero_le _)]
      exact Nat.le_refl _
theorem ydp_yl {a : yT} : ydp (yl a) ≤ ydp a := by
  cases a with
  | leaf => exact Nat.le_refl _
  | inner n k v l r =>
    show ydp l ≤ max (ydp l) (ydp r) + 1
    have := Nat.le_max_left (ydp l) (ydp r)
    omega
theorem ydp_cn {v : Int32} : ydp (ycn v) = 1 := rfl
theorem ydp_ysp {k : Int32} {a b : yT} : ydp (ysp k a b) ≤ max (ydp a) (ydp b) + 1 := by
  have m1 := Nat.le_max_left (ydp a) (ydp b)
  have m2 := Nat.le_max_right (ydp a) (ydp b)
  have m3 := ydp_yl (a := b)
  have m4 : ∀ k v, ydp (ymk k v b .leaf) = ydp b + 1 := fun k v => by
    show max (ydp b) 0 + 1 = ydp b + 1
    rw [Nat.max_eq_left (Nat.zero_le _)]
  unfold ysp ysu ysd ysm
  repeat' split
  all_goals first
    | (rw [ydp_cn]; omega)
    | (rw [ydp_mk]; omega)
    | (rw [m4]; omega)
    | omega
theorem ydp_ysim : ∀ t : yT, ydp (ysim t) ≤ ydp t
  | .leaf => Nat.le_refl _
  | .inner n k v l r => by
    have i1 := ydp_ysim l
    have i2 := ydp_ysim r
    have m1 := Nat.le_max_left (ydp l) (ydp r)
    have m2 := Nat.le_max_right (ydp l) (ydp r)
    show ydp (if k = nI 110 then ysn (ysim l) else if yis k = true then ysp k (ysim l) (ysim r) else ymk k v .leaf .leaf) ≤ max (ydp l) (ydp r) + 1
    split
    · have := ydp_ysn (a := ysim l)
      omega
    · split
      · have := ydp_ysp (k := k) (a := ysim l) (b := ysim r)
        omega
      · show 0 + 1 ≤ _
        omega
section ZDP
variable {sv : Nat → Value} {d : Nat}
theorem d_95l {f m o al : Nat} {ns : List yN} {rt : Int32} (hwf : ywf ns) (hn : ns.length ≤ 124) (h1 : f + 9 ≤ o ∨ o + 9 ≤ f) (h2 : f + 9 ≤ al ∨ al + 3 ≤ f) (h3 : o + 9 ≤ al ∨ al + 3 ≤ o) (hdp : ∀ x, ych ns.length x → ydp (ysim (ygt (ytm ns) x)) ≤ 40) : ∀ n i (h : zH) (os : List yN) (P : List Int32), i + n = ns.length → os.length ≤ i → ywf os → zTre h f m ns → zTre h o 124 os → zAl h al P → yP2 ysim ns os P i → ∃ h' os' P', zrun zP sv (zcall zP sv (d + 45)) 95 7 [.val (.ref al), .val (.ref f), .val (.int rt), .val (.ref o), .val (.int (nI i))] [] h = zrun zP sv (zcall zP sv (d + 45)) 95 39 [.val (.ref al), .val (.ref f), .val (.int rt), .val (.ref o), .val (.int (nI ns.length))] [] h' ∧ os'.length ≤ ns.length ∧ ywf os' ∧ zTre h' o 124 os' ∧ zAl h' al P' ∧ yP2 ysim ns os' P' ns.length ∧ zf2 o (o + 9) al (al + 3) h h' := by
  intro n
  induction n with
  | zero =>
    intro i h os P hi hos hw hf ho ha hp
    obtain rfl : i = ns.length := by omega
    refine ⟨h, os, P, ?_, hos, hw, ho, ha, hp, zf2_rfl⟩
    rw [zs_95_7, zs_95_9, zs_95_10, zTre_rc hf, d_182 hf, zbk_v, zts_s, zs_95_13, if_neg (nI_nlt (Nat.le_refl _) hwf.1)]
  | succ n ih =>
    intro i h os P hi hos hw hf ho ha hp
    have hl := hwf.1
    obtain ⟨nd, hnd⟩ := ynd_ex (ns := ns) (i := i) (by omega)
    obtain ⟨h1', os1, x, e1, w1, ⟨e, rfl, he⟩, w3, w4, w5, f1⟩ := d_96 (sv := sv) (d := d) hf hwf hnd ha hp ho hw (by omega) (fun x hx => hdp x (ych_mono hx (by omega)))
    have a1 := zAl_fr ha f1 (by omega)
    have e2 := d_166 (sv := sv) (d := d + 44) (x := nI i) (y := x) a1.2.1
    have a2 := zAl_set (x := x) a1 (show i < 2 ^ 31 by omega)
    have f2 : zfr al (al + 3) h1' (zup h1' (al + 1 + 1) (20, (ys P (nI i) x).map Value.int)) := zfr_up (by omega) (by omega)
    have p1 := yP2_s (yP2_app (e := e) hp (by omega)) (ytm_at hwf hnd) (by rw [ha.2.2]; omega) w4 w5
    have hq := zf2_tr (zf2_1 (c := al) (e := al + 3) f1) (zf2_2 (a := o) (b := o + 9) f2)
    obtain ⟨h', os', P', e3, v1, v2, v3, v4, v5, v6⟩ := ih (i + 1) _ (os ++ e) (P.set i x) (by omega) (by rw [List.length_append]; omega) w3 (zTre_cg hf (zcg_f2 hq (by omega) (by omega))) (zTre_fr w1 f2 (by omega)) a2 p1
    refine ⟨h', os', P', ?_, v1, v2, v3, v4, v5, zf2_tr hq v6⟩
    have q0 := ha.1
    rw [zs_95_7, zs_95_9, zs_95_10, zTre_rc hf, d_182 hf, zbk_v, zts_s, zs_95_13, if_pos (nI_lt (by omega) hl)]
    simp only [zs_95_0, zs_95_0n, zs_95_1, zs_95_4, zs_95_5, zs_95_9, zs_95_9n, zs_95_10, zs_95_13, zs_95_16, zs_95_16n, zs_95_17, zs_95_20, zs_95_22, zs_95_22n, zs_95_23, zs_95_23n, zs_95_24, zs_95_26, zs_95_26n, zs_95_27, zs_95_30, zs_95_33, zs_95_40, zs_95_41, zs_95_44, q0, zrc_9, zf_9_0, zp_9_0, zp_9_0n, zAl_rc ha, e1, zRow_rc a1.2.1, e2, zbk_v, zts_s, zts_n]
    rw [zs_95_36, nI_1', e3]
theorem d_95 {h : zH} {f m o al : Nat} {ns ms : List yN} {P : List Int32} {rt : Int32} (hwf : ywf ns) (hn : ns.length ≤ 124) (h1 : f + 9 ≤ o ∨ o + 9 ≤ f) (h2 : f + 9 ≤ al ∨ al + 3 ≤ f) (h3 : o + 9 ≤ al ∨ al + 3 ≤ o) (hdp : ∀ x, ych ns.length x → ydp (ysim (ygt (ytm ns) x)) ≤ 40) (hf : zTre h f m ns) (ho : zTre h o 124 ms) (ha : zAl h al P) (hr : ych ns.length rt) : ∃ h' os' P' x, zcall zP sv (d + 46) 95 [.ref al, .ref f, .int rt, .ref o] h = some (.inl (some (.int x)), h') ∧ os'.length ≤ ns.length ∧ ywf os' ∧ zTre h' o 124 os' ∧ zAl h' al P' ∧ ych os'.length x ∧ ygt (ytm os') x = ysim (ygt (ytm ns) rt) ∧ zf2 o (o + 9) al (al + 3) h h' := by
  obtain ⟨h1', e1, w1, f1⟩ := d_190 (sv := sv) (d := d + 44) ho
  obtain ⟨h', os', P', e2, v1, v2, v3, v4, v5, v6⟩ := d_95l (sv := sv) (d := d) (rt := rt) hwf hn h1 h2 h3 hdp ns.length 0 h1' [] P (Nat.zero_add _) (Nat.zero_le _) ywf_nil (zTre_fr hf f1 (by omega)) w1 (zAl_fr ha f1 (by omega)) yP2_0
  rw [nI_0] at e2
  obtain ⟨x, ex, x1, x2⟩ := d_91 (sv := sv) (d := d + 43) v4 v5 hr (Nat.le_refl _) hwf.1 rfl
  refine ⟨h', os', P', x, ?_, v1, v2, v3, v4, x1, x2, zf2_tr (zf2_1 f1) v6⟩
  rw [zc_95, zs_95_0, zs_95_1, zTre_rc ho, e1, zbk_v, zts_n, zs_95_4, zs_95_5 znw_u, e2]
  simp only [zs_95_0, zs_95_0n, zs_95_1, zs_95_4, zs_95_5, zs_95_7, zs_95_9, zs_95_9n, zs_95_10, zs_95_13, zs_95_16, zs_95_16n, zs_95_17, zs_95_20, zs_95_22, zs_95_22n, zs_95_23, zs_95_23n, zs_95_24, zs_95_26, zs_95_26n, zs_95_27, zs_95_30, zs_95_33, zs_95_36, zs_95_39, zs_95_39n, zs_95_40, zs_95_41, zs_95_44, zAl_rc v4, ex, zbk_v, zts_s]
end ZDP
