section ZQF
variable {sv : Nat → Value} {d : Nat} {m : Nat} {F : Nat → Int32} {h : zH} {ps P Q : yP} {x y : Nat}
theorem e_210l (hm : h.1 m = (13, zMF m F)) (hl : zLst h (m + 5) (m + 6) ps) (hP : ∀ k, k < P.length → ps[x + k]? = P[k]?) (hQ : ∀ k, k < Q.length → ps[y + k]? = Q[k]?) (hPQ : P.length = Q.length) (h7 : P.length ≤ 700) : ∀ n j (sm : Bool), j + n = P.length → zrun zP sv (zcall zP sv d) 210 29 [.val (.ref m), .val (.int (nI x)), .val (.int (nI y)), .val (.int (nI P.length)), .val (.int (yb sm)), .val (.int (nI j))] [] h = some (.inl (some (.int (yb (sm && decide (P.drop j = Q.drop j))))), h) := by
  intro n
  induction n with
  | zero =>
    intro j sm hj
    obtain rfl : j = P.length := by omega
    rw [List.drop_eq_nil_of_le (Nat.le_refl _), List.drop_eq_nil_of_le (by omega), decide_eq_true rfl, Bool.and_true]
    simp only [zs_210_29, zs_210_31, zs_210_32, zs_210_95, zs_210_97, Int32.lt_irrefl, ↓reduceIte, zgd_t, zty_yb]
  | succ n ih =>
    intro j sm hj
    have g1 : nI j < nI P.length := nI_lt (by omega) (by omega)
    cases sm with
    | false =>
      rw [Bool.false_and, yb_f]
      simp only [zs_210_29, zs_210_31, zs_210_32, zs_210_35, zs_210_37, zs_210_95, zs_210_97, if_pos g1, ↓reduceIte, zgd_t, zty_50]
    | true =>
      obtain ⟨p, hp⟩ : ∃ p, P[j]? = some p := ⟨_, List.getElem?_eq_getElem (by omega)⟩
      obtain ⟨q, hq⟩ : ∃ q, Q[j]? = some q := ⟨_, List.getElem?_eq_getElem (by omega)⟩
      have hp2 : ps[x + j]? = some (p.1, p.2) := by rw [hP j (by omega), hp]
      have hq2 : ps[y + j]? = some (q.1, q.2) := by rw [hQ j (by omega), hq]
      obtain ⟨A, B, a1, a2, a3, a4, a5⟩ := e_look hl hp2
      obtain ⟨A', B', b1, b2, b3, b4, b5⟩ := e_look hl hq2
      rw [a1] at b1
      rw [a2] at b2
      have eA : A'.map Value.int = A.map Value.int := (Prod.mk.inj b1).2.symm
      have eB : B'.map Value.int = B.map Value.int := (Prod.mk.inj b2).2.symm
      rw [eA] at b3
      rw [eB] at b4
      have dp : P.drop j = p :: P.drop (j + 1) := by
        rw [List.drop_eq_getElem_cons (by omega)]
        rw [List.getElem?_eq_getElem (by omega)] at hp
        rw [Option.some.inj hp]
      have dq : Q.drop j = q :: Q.drop (j + 1) := by
        rw [List.drop_eq_getElem_cons (by omega)]
        rw [List.getElem?_eq_getElem (by omega)] at hq
        rw [Option.some.inj hq]
      have e := ih (j + 1) (decide (p = q)) (by omega)
      have hd : (true && decide (P.drop j = Q.drop j)) = (decide (p = q) && decide (P.drop (j + 1) = Q.drop (j + 1))) := by
        rw [dp, dq, Bool.true_and, ← Bool.decide_and]
        exact decide_eq_decide.mpr (by rw [List.cons.injEq])
      rw [hd, ← e]
      have eb : ∀ b : Bool, zrun zP sv (zcall zP sv d) 210 87 [.val (.ref m), .val (.int (nI x)), .val (.int (nI y)), .val (.int (nI P.length)), .val (.int (yb true)), .val (.int (nI j))] [.int (yb b)] h = zrun zP sv (zcall zP sv d) 210 29 [.val (.ref m), .val (.int (nI x)), .val (.int (nI y)), .val (.int (nI P.length)), .val (.int (yb b)), .val (.int (nI (j + 1)))] [] h := fun b => by rw [zs_210_87 znw_i, zs_210_89, zs_210_92, nI_1']
      rw [← eb]
      by_cases c1 : p.1 = q.1
      · by_cases c2 : p.2 = q.2
        · have c : p = q := Prod.ext c1 c2
          rw [decide_eq_true c]
          simp only [zs_210_29, zs_210_31, zs_210_32, zs_210_35, zs_210_37, zs_210_40, zs_210_41, zs_210_44, zs_210_45, zs_210_47, zs_210_48, zs_210_49, zs_210_50, zs_210_53, zs_210_54, zs_210_56, zs_210_57, zs_210_58, zs_210_61, zs_210_62, zs_210_65, zs_210_66, zs_210_68, zs_210_69, zs_210_70, zs_210_71, zs_210_74, zs_210_75, zs_210_77, zs_210_78, zs_210_79, zs_210_82, zs_210_83, if_pos g1, yb_t, nI_1e0, ↓reduceIte, hm, zmf_6, zmf_7, nI_add, a1, a2, a3, a4, b3, b4, if_pos c1, if_pos c2]
        · have c : ¬ p = q := fun z => c2 (by rw [z])
          rw [decide_eq_false c]
          simp only [zs_210_29, zs_210_31, zs_210_32, zs_210_35, zs_210_37, zs_210_40, zs_210_41, zs_210_44, zs_210_45, zs_210_47, zs_210_48, zs_210_49, zs_210_50, zs_210_53, zs_210_54, zs_210_56, zs_210_57, zs_210_58, zs_210_61, zs_210_62, zs_210_65, zs_210_66, zs_210_68, zs_210_69, zs_210_70, zs_210_71, zs_210_74, zs_210_75, zs_210_77, zs_210_78, zs_210_79, zs_210_86, if_pos g1, yb_t, nI_1e0, ↓reduceIte, hm, zmf_6, zmf_7, nI_add, a1, a2, a3, a4, b3, b4, if_pos c1, if_neg c2, yb_f]
      · have c : ¬ p = q := fun z => c1 (by rw [z])
        rw [decide_eq_false c]
        simp only [zs_210_29, zs_210_31, zs_210_32, zs_210_35, zs_210_37, zs_210_40, zs_210_41, zs_210_44, zs_210_45, zs_210_47, zs_210_48, zs_210_49, zs_210_50, zs_210_53, zs_210_54, zs_210_56, zs_210_57, zs_210_58, zs_210_86, if_pos g1, yb_t, nI_1e0, ↓reduceIte, hm, zmf_6, nI_add, a1, a3, b3, if_neg c1, yb_f]
end ZQF
