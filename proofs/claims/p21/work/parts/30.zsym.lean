/-! The interpreter run by rewriting. -/
/-- what an end is -/
abbrev zR : Type := Option (zO × zH)
def zfld (c : zC) (kd j : Nat) (K : Value → zR) : zR := if c.1 = kd ∧ j < c.2.length then K (c.2.getD j .null) else none
def zpfd (c : zC) (kd j t : Nat) (v : Value) (K : zC → zR) : zR := if c.1 = kd ∧ j < c.2.length ∧ zty t v = true then K (kd, c.2.set j v) else none
def zael (c : zC) (kd : Nat) (i : Int32) (K : Value → zR) : zR := if c.1 = kd ∧ zix i c.2.length = true then K (c.2.getD i.toNatClampNeg .null) else none
def zaset (c : zC) (kd : Nat) (i : Int32) (v : Value) (K : zC → zR) : zR := if c.1 = kd ∧ zix i c.2.length = true then (match znar kd v with
  | some w => K (kd, c.2.set i.toNatClampNeg w)
  | none => none) else none
def zasr (c cb : zC) (kd ko : Nat) (i : Int32) (b : Nat) (K : zC → zR) : zR := if c.1 = kd ∧ cb.1 = ko ∧ zix i c.2.length = true then K (kd, c.2.set i.toNatClampNeg (.ref b)) else none
def zasn (c : zC) (kd : Nat) (i : Int32) (K : zC → zR) : zR := if c.1 = kd ∧ zix i c.2.length = true then K (kd, c.2.set i.toNatClampNeg .null) else none
def zaln (c : zC) (K : Int32 → zR) : zR := if 20 ≤ c.1 then K (Int32.ofNat c.2.length) else none
def znwa (n : Int32) (K : Nat → zR) : zR := if ¬ n < 0 ∧ n.toNatClampNeg ≤ 65536 then K n.toNatClampNeg else none
def zbk (r : zR) (F : Option Value → zH → zR) (X : Nat → zH → zR) : zR := match r with
  | some (.inl v, h') => F v h'
  | some (.inr E, h') => X E h'
  | none => none
def zrc (c : zC) (kd : Nat) (X : zR) : zR := if (c.1 == kd) = true then X else none
def zgd (b : Bool) (X : zR) : zR := if b = true then X else none
def znw : Slot → Bool
  | .unset => true
  | .second => false
  | .val v => v.category == 1
def zswp (tab : List (Int × Nat)) (j : Nat) (x : Int32) : Nat := (tab.find? (fun q => q.1 == x.toInt)).elim j (fun q => q.2)
/-- on from a step -/
def znx (P : zProg) (sv : Nat → Value) (C : zCall) (k pc : Nat) (ls : List Slot) (h : zH) (s : zS) : zR := match s with
  | some (.inl q) => zrun P sv C k q.1 q.2.1 q.2.2.1 q.2.2.2
  | some (.inr (.inl q)) => (match C q.1 q.2.1 h with
    | some (.inl v, h') => zrun P sv C k (pc + 3) ls (v.toList ++ q.2.2) h'
    | some (.inr E, h') => zcatch P k pc E ls h'
    | none => none)
  | some (.inr (.inr q)) => some q
  | none => none
section ZSYM
variable {P : zProg} {sv : Nat → Value} {C : zCall} {k pc : Nat} {ls : List Slot} {st : List Value} {h : zH}
theorem zx_eq {I : zI} {s : zS} (hI : P.1 k pc = I) (hs : zstep P sv I pc ls st h = s) : zrun P sv C k pc ls st h = znx P sv C k pc ls h s := by
  subst hs hI
  rw [zrun.eq_def]
  rfl
theorem zx_go {I : zI} {pc' : Nat} {ls' : List Slot} {st' : List Value} {h' : zH} (hI : P.1 k pc = I) (hs : zstep P sv I pc ls st h = some (.inl (pc', ls', st', h'))) : zrun P sv C k pc ls st h = zrun P sv C k pc' ls' st' h' := zx_eq hI hs
theorem zx_end {I : zI} {r : zO × zH} (hI : P.1 k pc = I) (hs : zstep P sv I pc ls st h = some (.inr (.inr r))) : zrun P sv C k pc ls st h = some r := zx_eq hI hs
theorem zx_ite {I : zI} {c : Prop} {d : Decidable c} {a b : Nat × List Slot × List Value × zH} (hI : P.1 k pc = I) (hs : zstep P sv I pc ls st h = @ite _ c d (some (.inl a)) (some (.inl b))) : zrun P sv C k pc ls st h = @ite _ c d (zrun P sv C k a.1 a.2.1 a.2.2.1 a.2.2.2) (zrun P sv C k b.1 b.2.1 b.2.2.1 b.2.2.2) := by
  rw [zx_eq hI hs]
  by_cases hc : c
  · rw [if_pos hc, if_pos hc]; rfl
  · rw [if_neg hc, if_neg hc]; rfl
theorem zx_itn {I : zI} {c : Prop} {d : Decidable c} {a : Nat × List Slot × List Value × zH} (hI : P.1 k pc = I) (hs : zstep P sv I pc ls st h = @ite _ c d (some (.inl a)) none) : zrun P sv C k pc ls st h = @ite _ c d (zrun P sv C k a.1 a.2.1 a.2.2.1 a.2.2.2) none := by
  rw [zx_eq hI hs]
  by_cases hc : c
  · rw [if_pos hc, if_pos hc]; rfl
  · rw [if_neg hc, if_neg hc]; rfl
theorem zx_if {o j : Nat} {x0 : Int} {n pc' : Nat} {x : Int32} (hI : P.1 k pc = (12, o, j, x0, n)) (hp : pc + 3 = pc') : zrun P sv C k pc ls (.int x :: st) h = if zcond o x 0 = true then zrun P sv C k j ls st h else zrun P sv C k pc' ls st h := by
  subst hp
  have hs : zstep P sv (12, o, j, x0, n) pc ls (.int x :: st) h = if zcond o x 0 = true then some (.inl (j, ls, st, h)) else some (.inl (pc + 3, ls, st, h)) := rfl
  rw [zx_ite hI hs]
theorem zx_ic {o j : Nat} {x0 : Int} {n pc' : Nat} {x y : Int32} (hI : P.1 k pc = (13, o, j, x0, n)) (hp : pc + 3 = pc') : zrun P sv C k pc ls (.int y :: .int x :: st) h = if zcond o x y = true then zrun P sv C k j ls st h else zrun P sv C k pc' ls st h := by
  subst hp
  have hs : zstep P sv (13, o, j, x0, n) pc ls (.int y :: .int x :: st) h = if zcond o x y = true then some (.inl (j, ls, st, h)) else some (.inl (pc + 3, ls, st, h)) := rfl
  rw [zx_ite hI hs]
theorem zc0_if {x y : Int32} {A B : zR} : (if zcond 0 x y = true then A else B) = if x = y then A else B := by
  show (if decide (x = y) = true then A else B) = _
  simp only [decide_eq_true_eq]
theorem zc1_if {x y : Int32} {A B : zR} : (if zcond 1 x y = true then A else B) = if x = y then B else A := by
  show (if decide (¬ x = y) = true then A else B) = _
  simp only [decide_eq_true_eq]
  by_cases hc : x = y <;> simp [hc]
theorem zc2_if {x y : Int32} {A B : zR} : (if zcond 2 x y = true then A else B) = if x < y then A else B := by
  show (if decide (x < y) = true then A else B) = _
  simp only [decide_eq_true_eq]
theorem zc3_if {x y : Int32} {A B : zR} : (if zcond 3 x y = true then A else B) = if x < y then B else A := by
  show (if decide (y ≤ x) = true then A else B) = _
  simp only [decide_eq_true_eq]
  by_cases hc : x < y
  · rw [if_pos hc, if_neg (Int32.not_le.mpr hc)]
  · rw [if_neg hc, if_pos (Int32.not_lt.mp hc)]
theorem zc4_if {x y : Int32} {A B : zR} : (if zcond 4 x y = true then A else B) = if y < x then A else B := by
  show (if decide (y < x) = true then A else B) = _
  simp only [decide_eq_true_eq]
theorem zc5_if {x y : Int32} {A B : zR} : (if zcond 5 x y = true then A else B) = if y < x then B else A := by
  show (if decide (x ≤ y) = true then A else B) = _
  simp only [decide_eq_true_eq]
  by_cases hc : y < x
  · rw [if_pos hc, if_neg (Int32.not_le.mpr hc)]
  · rw [if_neg hc, if_pos (Int32.not_lt.mp hc)]
theorem zx_getf {kd j : Nat} {x0 : Int} {n pc' a : Nat} (hI : P.1 k pc = (16, kd, j, x0, n)) (hp : pc + 3 = pc') : zrun P sv C k pc ls (.ref a :: st) h = zfld (h.1 a) kd j (fun v => zrun P sv C k pc' ls (v :: st) h) := by
  subst hp
  rw [zx_itn hI (show zstep P sv (16, kd, j, x0, n) pc ls (.ref a :: st) h = if (h.1 a).1 = kd ∧ j < (h.1 a).2.length then some (.inl (pc + 3, ls, (h.1 a).2.getD j .null :: st, h)) else none from rfl)]
  rfl
theorem zx_putf {kd j : Nat} {x0 : Int} {n pc' a : Nat} {v : Value} (hI : P.1 k pc = (17, kd, j, x0, n)) (hp : pc + 3 = pc') : zrun P sv C k pc ls (v :: .ref a :: st) h = zpfd (h.1 a) kd j x0.toNat v (fun c => zrun P sv C k pc' ls st (zup h a c)) := by
  subst hp
  rw [zx_itn hI (show zstep P sv (17, kd, j, x0, n) pc ls (v :: .ref a :: st) h = if (h.1 a).1 = kd ∧ j < (h.1 a).2.length ∧ zty x0.toNat v = true then some (.inl (pc + 3, ls, st, zup h a (kd, (h.1 a).2.set j v))) else none from rfl)]
  rfl
theorem zx_ald {kd j : Nat} {x0 : Int} {n pc' a : Nat} {i : Int32} (hI : P.1 k pc = (18, kd, j, x0, n)) (hp : pc + 1 = pc') : zrun P sv C k pc ls (.int i :: .ref a :: st) h = zael (h.1 a) kd i (fun v => zrun P sv C k pc' ls (v :: st) h) := by
  subst hp
  rw [zx_itn hI (show zstep P sv (18, kd, j, x0, n) pc ls (.int i :: .ref a :: st) h = if (h.1 a).1 = kd ∧ zix i (h.1 a).2.length = true then some (.inl (pc + 1, ls, (h.1 a).2.getD i.toNatClampNeg .null :: st, h)) else none from rfl)]
  rfl
theorem zx_ast {kd j : Nat} {x0 : Int} {n pc' a : Nat} {i : Int32} {v : Value} (hI : P.1 k pc = (19, kd, j, x0, n)) (hp : pc + 1 = pc') : zrun P sv C k pc ls (v :: .int i :: .ref a :: st) h = zaset (h.1 a) kd i v (fun c => zrun P sv C k pc' ls st (zup h a c)) := by
  subst hp
  by_cases hc : (h.1 a).1 = kd ∧ zix i (h.1 a).2.length = true
  · cases hz : znar kd v with
    | none =>
      rw [zx_eq hI (show zstep P sv (19, kd, j, x0, n) pc ls (v :: .int i :: .ref a :: st) h = none by
        show zast kd (pc + 1) ls (v :: .int i :: .ref a :: st) h = none
        unfold zast
        simp [hc, hz])]
      unfold zaset
      simp [hc, hz, znx]
    | some w =>
      rw [zx_go hI (show zstep P sv (19, kd, j, x0, n) pc ls (v :: .int i :: .ref a :: st) h = some (.inl (pc + 1, ls, st, zup h a (kd, (h.1 a).2.set i.toNatClampNeg w))) by
        show zast kd (pc + 1) ls (v :: .int i :: .ref a :: st) h = _
        unfold zast
        simp [hc, hz, zgo])]
      unfold zaset
      simp [hc, hz]
  · rw [zx_eq hI (show zstep P sv (19, kd, j, x0, n) pc ls (v :: .int i :: .ref a :: st) h = none by
      show zast kd (pc + 1) ls (v :: .int i :: .ref a :: st) h = none
      unfold zast
      simp only
      rw [if_neg hc])]
    unfold zaset
    rw [if_neg hc]
    rfl
theorem zx_asr {kd ko : Nat} {x0 : Int} {n pc' a b : Nat} {i : Int32} (hI : P.1 k pc = (20, kd, ko, x0, n)) (hp : pc + 1 = pc') : zrun P sv C k pc ls (.ref b :: .int i :: .ref a :: st) h = zasr (h.1 a) (h.1 b) kd ko i b (fun c => zrun P sv C k pc' ls st (zup h a c)) := by
  subst hp
  rw [zx_itn hI (show zstep P sv (20, kd, ko, x0, n) pc ls (.ref b :: .int i :: .ref a :: st) h = if (h.1 a).1 = kd ∧ (h.1 b).1 = ko ∧ zix i (h.1 a).2.length = true then some (.inl (pc + 1, ls, st, zup h a (kd, (h.1 a).2.set i.toNatClampNeg (.ref b)))) else none from rfl)]
  rfl
theorem zx_asn {kd ko : Nat} {x0 : Int} {n pc' a : Nat} {i : Int32} (hI : P.1 k pc = (20, kd, ko, x0, n)) (hp : pc + 1 = pc') : zrun P sv C k pc ls (.null :: .int i :: .ref a :: st) h = zasn (h.1 a) kd i (fun c => zrun P sv C k pc' ls st (zup h a c)) := by
  subst hp
  rw [zx_itn hI (show zstep P sv (20, kd, ko, x0, n) pc ls (.null :: .int i :: .ref a :: st) h = if (h.1 a).1 = kd ∧ zix i (h.1 a).2.length = true then some (.inl (pc + 1, ls, st, zup h a (kd, (h.1 a).2.set i.toNatClampNeg .null))) else none from rfl)]
  rfl
theorem zx_aln {i j : Nat} {x0 : Int} {n pc' a : Nat} (hI : P.1 k pc = (21, i, j, x0, n)) (hp : pc + 1 = pc') : zrun P sv C k pc ls (.ref a :: st) h = zaln (h.1 a) (fun v => zrun P sv C k pc' ls (.int v :: st) h) := by
  subst hp
  rw [zx_itn hI (show zstep P sv (21, i, j, x0, n) pc ls (.ref a :: st) h = if 20 ≤ (h.1 a).1 then some (.inl (pc + 1, ls, .int (Int32.ofNat (h.1 a).2.length) :: st, h)) else none from rfl)]
  rfl
theorem zx_nwa {kd j : Nat} {x0 : Int} {n pc' : Nat} {m : Int32} (hI : P.1 k pc = (23, kd, j, x0, n)) (hp : pc + n = pc') : zrun P sv C k pc ls (.int m :: st) h = znwa m (fun q => zrun P sv C k pc' ls (.ref h.2.1 :: st) (znew h (kd, List.replicate q (zel kd)) q)) := by
  subst hp
  rw [zx_itn hI (show zstep P sv (23, kd, j, x0, n) pc ls (.int m :: st) h = if ¬ m < 0 ∧ m.toNatClampNeg ≤ 65536 then some (.inl (pc + n, ls, .ref h.2.1 :: st, znew h (kd, List.replicate m.toNatClampNeg (zel kd)) m.toNatClampNeg)) else none from rfl)]
  rfl
/-- a call without a receiver -/
theorem zx_cs {i j : Nat} {n pc' : Nat} {args rest : List Value} {X : Nat → zH → zR} (hI : P.1 k pc = (24, i, j, 0, n)) (hp : pc + 3 = pc') (hj : (st.take j).reverse = args) (hr : st.drop j = rest) (hl : j ≤ st.length ∧ zfew st j = true) (hX : ∀ E h', zcatch P k pc E ls h' = X E h') : zrun P sv C k pc ls st h = zbk (C i args h) (fun v h' => zrun P sv C k pc' ls (v.toList ++ rest) h') X := by
  subst hp hj hr
  rw [zx_eq hI (show zstep P sv (24, i, j, 0, n) pc ls st h = some (.inr (.inl (i, (st.take j).reverse, st.drop j))) by
    show zcalls i j 0 st h = _
    unfold zcalls
    rw [if_pos ⟨hl.1, hl.2, rfl⟩])]
  unfold zbk znx
  simp only [hX]
  generalize C i (List.take j st).reverse h = r
  rcases r with _ | ⟨v | E, h'⟩ <;> rfl
/-- a call of a receiver -/
theorem zx_cv {i j : Nat} {x0 : Int} {n pc' b : Nat} {args rest : List Value} {X : Nat → zH → zR} (hI : P.1 k pc = (24, i, j, x0, n)) (hx : (x0.toNat == 0) = false) (hp : pc + 3 = pc') (hj : (st.take j).reverse = .ref b :: args) (hr : st.drop j = rest) (hl : j ≤ st.length ∧ zfew st j = true) (hX : ∀ E h', zcatch P k pc E ls h' = X E h') : zrun P sv C k pc ls st h = zrc (h.1 b) x0.toNat (zbk (C i (.ref b :: args) h) (fun v h' => zrun P sv C k pc' ls (v.toList ++ rest) h') X) := by
  subst hp hr
  by_cases hc : ((h.1 b).1 == x0.toNat) = true
  · rw [zx_eq hI (show zstep P sv (24, i, j, x0, n) pc ls st h = some (.inr (.inl (i, .ref b :: args, st.drop j))) by
      show zcalls i j x0.toNat st h = _
      unfold zcalls
      rw [if_pos ⟨hl.1, hl.2, by rw [hj]; unfold zrecv; rw [hx]; exact hc⟩, hj])]
    unfold zrc zbk znx
    rw [if_pos hc]
    simp only [hX]
    generalize C i (Value.ref b :: args) h = r
    rcases r with _ | ⟨v | E, h'⟩ <;> rfl
  · rw [zx_eq hI (show zstep P sv (24, i, j, x0, n) pc ls st h = none by
      show zcalls i j x0.toNat st h = _
      unfold zcalls
      rw [if_neg (fun h9 => hc (by
        have := h9.2.2
        rw [hj] at this
        unfold zrecv at this
        rw [hx] at this
        exact this))])]
    unfold zrc
    rw [if_neg hc]
    rfl
theorem zx_sw {i j : Nat} {x0 : Int} {n : Nat} {x : Int32} (hI : P.1 k pc = (29, i, j, x0, n)) : zrun P sv C k pc ls (.int x :: st) h = zrun P sv C k (zswp (P.2.2.2.1 i) j x) ls st h := zx_go hI rfl
theorem zx_st {i t : Nat} {x0 : Int} {n pc' : Nat} {v : Value} {s : Slot} {ls' : List Slot} (hs : znw s = true) (hI : P.1 k pc = (5, i, t, x0, n)) (hp : pc + n = pc') (hi : ls[i]? = some s) (hl' : ls.set i (.val v) = ls') (ht : zty t v = true) (hv : v.category = 1) : zrun P sv C k pc ls (v :: st) h = zrun P sv C k pc' ls' st h := by
  subst hp hl'
  have hl : i < ls.length := (List.getElem?_eq_some_iff.mp hi).1
  have e0 : setAt ls.toArray i (.val v) = some (ls.set i (.val v)).toArray := by
    unfold setAt
    rw [if_pos (by simpa using hl)]
    simp
  have e1 : storeSelf ls.toArray i v = some (ls.set i (.val v)).toArray := by
    unfold storeSelf
    rw [e0]
    simp [hv]
  have e2 : storeLocals ls.toArray i v = some (ls.set i (.val v)).toArray := by
    unfold storeLocals
    have : ls.toArray[i]? = some s := by simpa using hi
    rw [this]
    cases s with
    | unset => exact e1
    | second => cases hs
    | val w =>
      have hw : w.category = 1 := by simpa [znw] using hs
      simp [hw, e1]
  exact zx_go hI (show zstep P sv (5, i, t, x0, n) pc ls (v :: st) h = some (.inl (pc + n, ls.set i (.val v), st, h)) by
    show zstore t i (pc + n) ls (v :: st) h = _
    unfold zstore
    simp [ht, e2, zgo])
theorem zx_ii {i j : Nat} {x0 : Int} {n pc' : Nat} {x y : Int32} {ls' : List Slot} (hI : P.1 k pc = (6, i, j, x0, n)) (hp : pc + n = pc') (hi : ls[i]? = some (.val (.int x))) (hy : Int32.ofInt x0 = y) (hl' : ls.set i (.val (.int (x + y))) = ls') : zrun P sv C k pc ls st h = zrun P sv C k pc' ls' st h := by
  subst hp hl' hy
  have hl : i < ls.length := (List.getElem?_eq_some_iff.mp hi).1
  have e0 : setAt ls.toArray i (.val (.int (x + Int32.ofInt x0))) = some (ls.set i (.val (.int (x + Int32.ofInt x0)))).toArray := by
    unfold setAt
    rw [if_pos (by simpa using hl)]
    simp
  have e2 : storeLocals ls.toArray i (.int (x + Int32.ofInt x0)) = some (ls.set i (.val (.int (x + Int32.ofInt x0)))).toArray := by
    unfold storeLocals
    have : ls.toArray[i]? = some (.val (.int x)) := by simpa using hi
    rw [this]
    unfold storeSelf
    rw [e0]
    simp [Value.category]
  exact zx_go hI (show zstep P sv (6, i, j, x0, n) pc ls st h = some (.inl (pc + n, ls.set i (.val (.int (x + Int32.ofInt x0))), st, h)) by
    show ziinc i (pc + n) x0 ls st h = _
    unfold ziinc
    rw [hi]
    simp [e2, zgo])
end ZSYM
theorem znw_i {x : Int32} : znw (.val (.int x)) = true := rfl
theorem znw_r {a : Nat} : znw (.val (.ref a)) = true := rfl
theorem znw_n : znw (.val .null) = true := rfl
theorem znw_f {a : UInt32} : znw (.val (.float a)) = true := rfl
theorem znw_u : znw .unset = true := rfl
theorem zbk_v {v : Option Value} {h' : zH} {F : Option Value → zH → zR} {X : Nat → zH → zR} : zbk (some (.inl v, h')) F X = F v h' := rfl
theorem zbk_x {E : Nat} {h' : zH} {F : Option Value → zH → zR} {X : Nat → zH → zR} : zbk (some (.inr E, h')) F X = X E h' := rfl
theorem zts_s {v : Value} {st : List Value} : (some v).toList ++ st = v :: st := rfl
theorem zts_n {st : List Value} : (none : Option Value).toList ++ st = st := rfl
theorem zrc_k {kd : Nat} {vs : List Value} {X : zR} : zrc (kd, vs) kd X = X := by unfold zrc; rw [if_pos (by simp)]
theorem zcall_s {P : zProg} {sv : Nat → Value} {d k : Nat} {vs : List Value} {h : zH} {n : Nat} {ls : List Slot} (hn : P.2.1 k = n) (hl : zent vs n = ls) (hc : (lg_sl vs).length ≤ n) : zcall P sv (d + 1) k vs h = zrun P sv (zcall P sv d) k 0 ls [] h := by
  subst hn hl
  rw [zcall]
  rw [if_pos hc]
section ZSYM2
variable {P : zProg} {sv : Nat → Value} {C : zCall} {k pc : Nat} {ls : List Slot} {st : List Value} {h : zH}
theorem zx_gd {I : zI} {b : Bool} {a : Nat × List Slot × List Value × zH} (hI : P.1 k pc = I) (hs : zstep P sv I pc ls st h = if b = true then some (.inl a) else none) : zrun P sv C k pc ls st h = zgd b (zrun P sv C k a.1 a.2.1 a.2.2.1 a.2.2.2) := zx_itn hI hs
theorem zx_f2d {j : Nat} {x0 : Int} {n pc' : Nat} {a : UInt32} (hI : P.1 k pc = (9, 7, j, x0, n)) (hp : pc + n = pc') : zrun P sv C k pc ls (.float a :: st) h = zgd (decide (FP.f2d a &&& 0x7fffffffffffffff ≤ 0x7ff0000000000000)) (zrun P sv C k pc' ls (.double (FP.f2d a) :: st) h) := by
  subst hp
  by_cases hc : FP.f2d a &&& 0x7fffffffffffffff ≤ 0x7ff0000000000000
  · rw [decide_eq_true hc]
    exact zx_go hI (by
      show (match (if FP.f2d a &&& 0x7fffffffffffffff ≤ 0x7ff0000000000000 then some (Value.double (FP.f2d a)) else none) with | some w => zgo (pc + n) ls (w :: st) h | none => none) = _
      rw [if_pos hc]
      rfl)
  · rw [decide_eq_false hc]
    rw [zx_eq hI (s := none) (by
      show (match (if FP.f2d a &&& 0x7fffffffffffffff ≤ 0x7ff0000000000000 then some (Value.double (FP.f2d a)) else none) with | some w => zgo (pc + n) ls (w :: st) h | none => none) = _
      rw [if_neg hc])]
    rfl
theorem zx_ddv {j : Nat} {x0 : Int} {n pc' : Nat} {a b : UInt64} (hI : P.1 k pc = (10, 3, j, x0, n)) (hp : pc + n = pc') : zrun P sv C k pc ls (.double b :: .double a :: st) h = zgd (decide (FP.ddiv a b &&& 0x7fffffffffffffff ≤ 0x7ff0000000000000)) (zrun P sv C k pc' ls (.double (FP.ddiv a b) :: st) h) := by
  subst hp
  by_cases hc : FP.ddiv a b &&& 0x7fffffffffffffff ≤ 0x7ff0000000000000
  · rw [decide_eq_true hc]
    exact zx_go hI (by
      show (if FP.ddiv a b &&& 0x7fffffffffffffff ≤ 0x7ff0000000000000 then zgo (pc + n) ls (.double (FP.ddiv a b) :: st) h else none) = _
      rw [if_pos hc]
      rfl)
  · rw [decide_eq_false hc]
    rw [zx_eq hI (s := none) (by
      show (if FP.ddiv a b &&& 0x7fffffffffffffff ≤ 0x7ff0000000000000 then zgo (pc + n) ls (.double (FP.ddiv a b) :: st) h else none) = _
      rw [if_neg hc])]
    rfl
theorem zx_fdv {j : Nat} {x0 : Int} {n pc' : Nat} {a b : UInt32} (hI : P.1 k pc = (10, 4, j, x0, n)) (hp : pc + n = pc') : zrun P sv C k pc ls (.float b :: .float a :: st) h = zgd (decide (FP.fdiv a b &&& 0x7fffffff ≤ 0x7f800000)) (zrun P sv C k pc' ls (.float (FP.fdiv a b) :: st) h) := by
  subst hp
  by_cases hc : FP.fdiv a b &&& 0x7fffffff ≤ 0x7f800000
  · rw [decide_eq_true hc]
    exact zx_go hI (by
      show (if FP.fdiv a b &&& 0x7fffffff ≤ 0x7f800000 then zgo (pc + n) ls (.float (FP.fdiv a b) :: st) h else none) = _
      rw [if_pos hc]
      rfl)
  · rw [decide_eq_false hc]
    rw [zx_eq hI (s := none) (by
      show (if FP.fdiv a b &&& 0x7fffffff ≤ 0x7f800000 then zgo (pc + n) ls (.float (FP.fdiv a b) :: st) h else none) = _
      rw [if_neg hc])]
    rfl
theorem zx_rt {t j : Nat} {x0 : Int} {n : Nat} {v : Value} (hI : P.1 k pc = (26, t, j, x0, n)) : zrun P sv C k pc ls [v] h = zgd (zty t v) (some (.inl (some v), h)) := by
  cases hc : zty t v with
  | true =>
    exact zx_end hI (by
      show zrets t [v] h = _
      unfold zrets
      simp [hc])
  | false =>
    rw [zx_eq hI (s := none) (by
      show zrets t [v] h = _
      unfold zrets
      simp [hc])]
    rfl
end ZSYM2
