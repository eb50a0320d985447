section ZQL
variable {sv : Nat → Value} {d : Nat} {m : Nat} {F : Nat → Int32} {h : zH} {w : yW} {th : Int32} {i : Nat} {t : yT}
/-- slopes: of a node from its parts' slopes a, b and values x, y -/
def yst1 (c k v a b x y : Int32) : Int32 := if k = nI 42 then a * y + x * b else if k = nI 118 then (if yva k v = c then nI 1 else 0) else if k = nI 110 then -a else if k = nI 99 then 0 else yop k a b
def ysl (f : Int32 → Int32 → Int32 → Int32 → Int32) (c : Int32) : yT → Int32
  | .leaf => 0
  | .inner _ k v l r => yst1 c k v (ysl f c l) (ysl f c r) (yfo f l) (yfo f r)
def zSl (h : zH) (m : Nat) (s : List Int32) : Prop := ∃ St : List Int32, h.1 (m + 11) = (20, St.map Value.int) ∧ St.length = 700 ∧ St.take s.length = s ∧ s.length ≤ 700
def zsw (m : Nat) (h h' : zH) : Prop := (∀ q, q ≠ m + 11 → h'.1 q = h.1 q) ∧ h'.2 = h.2
theorem zsw_tr {h h' h'' : zH} (h1 : zsw m h h') (h2 : zsw m h' h'') : zsw m h h'' := ⟨fun q a => (h2.1 q a).trans (h1.1 q a), h2.2.trans h1.2⟩
theorem e_214t {l1 l2 l6 l7 : Slot} {s0 args : List Int32} {y : Int32} (hm : zMo h m F) (hs : zSl h m (s0 ++ args)) (hsl : s0.length < 600) (ha : args.length ≤ 2) (hi : i < 700) : ∃ h', zrun zP sv (zcall zP sv (d + 2)) 214 186 [.val (.ref m), l1, l2, .val (.int (nI (s0.length + args.length))), .val (.int (nI i)), .val (.int (nI args.length)), l6, l7, .val (.int y)] [] h = zrun zP sv (zcall zP sv (d + 2)) 214 16 [.val (.ref m), l1, l2, .val (.int (nI (s0.length + 1))), .val (.int (nI i - nI 1)), .val (.int (nI args.length)), l6, l7, .val (.int y)] [] h' ∧ zSl h' m (s0 ++ [y]) ∧ zsw m h h' := by
  obtain ⟨St, b1, b2, b3, b4⟩ := hs
  rw [List.length_append] at b4
  have hm' : h.1 m = (13, zMF m F) := hm
  have z3 : ∀ Kc : zC → zR, zaset (20, St.map Value.int) 20 (nI s0.length) (.int y) Kc = Kc (20, (St.set s0.length y).map Value.int) := fun Kc => zsI (by omega) (by omega)
  have z4 : nI (s0.length + args.length) - nI args.length = nI s0.length := by rw [← nI_add, Int32.add_sub_cancel]
  refine ⟨zup h (m + 11) (20, (St.set s0.length y).map Value.int), ?_, ⟨St.set s0.length y, zup_at, by rw [List.length_set, b2], ?_, by rw [List.length_append]; show s0.length + 1 ≤ 700; omega⟩, ⟨fun q q1 => by rw [zup_ne q1], rfl⟩⟩
  · rw [← nI_mm]
    simp (disch := first | exact znw_i | omega) only [zs_214_186, zs_214_187, zs_214_189, zs_214_190, zs_214_191, zs_214_192, zs_214_195, zs_214_196, zs_214_199, zs_214_201, zs_214_202, zs_214_205, z4, hm', zmf_14, b1, z3, nI_1', zup_ne]
  · have hb : St.take s0.length = s0 := by
      have := congrArg (List.take s0.length) b3
      rw [List.take_take, List.length_append, Nat.min_eq_left (by omega), List.take_left' rfl] at this
      exact this
    rw [show (s0 ++ [y]).length = s0.length + 1 from List.length_append, ytk_set hb (by omega)]
theorem zSl_g {s : List Int32} {x : Int32} (hs : zSl h m (s ++ [x])) (Kv : Value → zR) : zael (h.1 (m + 11)) 20 (nI s.length) Kv = Kv (.int x) := by
  obtain ⟨St, b1, b2, b3, b4⟩ := hs
  rw [List.length_append] at b4
  have b4' : s.length + 1 ≤ 700 := b4
  have hx : St[s.length]? = some x := ytk_at b3 (by rw [List.getElem?_append_right (Nat.le_refl _), Nat.sub_self]; rfl)
  rw [b1]
  exact zaelv (by rw [List.getElem?_map, hx]; rfl) (by omega)
theorem zSl_p {s : List Int32} {x : Int32} (hs : zSl h m (s ++ [x])) : zSl h m s := by
  obtain ⟨St, b1, b2, b3, b4⟩ := hs
  rw [List.length_append] at b4
  refine ⟨St, b1, b2, ?_, by omega⟩
  have := congrArg (List.take s.length) b3
  rw [List.take_take, List.length_append, Nat.min_eq_left (by omega), List.take_left' rfl] at this
  exact this
end ZQL
