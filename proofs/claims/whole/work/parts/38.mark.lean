/-! the steps of the law: the marks -/
theorem x_tr (t : Int64) (a b c : Int64) (h : a + b = c) : t + a + b = t + c := by
  rw [Int64.add_assoc, h]
theorem x_tr3 (t : Int64) (a b c d : Int64) (h : a + b + c = d) : t + a + b + c = t + d := by
  rw [Int64.add_assoc, Int64.add_assoc, ← Int64.add_assoc a, h]
theorem x_mark {tr : Int64} {core water pricked gone steam filling : Int32} {degrees brown row is : Nat → Int32} {a1 a2 : Int32} (r0 : ∀ f : Nat, f < 4 → row f = degrees f ∧ row (5 + f) = brown f) (r4 : row 4 = core) (r9 : row 9 = water) (hp : F_X5_press is row 0 = F_X1_pressIn core pricked gone steam filling) :
    F_X4_mark tr filling degrees brown core water pricked gone steam a1 a2 = F_X5_mark is row tr a1 a2 := by
  rw [F_X4_mark, F_X5_mark, x_nmE (F_X4_outside a2 0 3), x_nmE (F_X5_in a1.toInt64 0 5)]
  by_cases c2 : F_X4_outside a2 0 3 = 0
  · have c25 := x_ioN (lo := 0) (hi := 3) 0 3 (by decide) (by decide) c2
    have d2 := x_outs (lo := 0) (hi := 3) (by decide) (by decide) c2
    rw [if_pos c2]
    by_cases c1 : F_X4_outside a1 0 5 = 0
    · have d1 := x_outs (lo := 0) (hi := 5) (by decide) (by decide) c1
      rw [if_neg (x_ioN 0 5 (by decide) (by decide) c1), x_nmE a1.toNatClampNeg, x_nmE (F_X5_in a2.toInt64 0 3), if_neg c25, x_nmE a2.toNatClampNeg, x_nmE a2.toNatClampNeg]
      generalize a1.toNatClampNeg = t at d1 ⊢
      generalize a2.toNatClampNeg = f at d2 ⊢
      clear c1 c25 c2
      obtain ⟨-, d1, rfl⟩ := d1
      obtain ⟨hr0, hr1⟩ := r0 f (by omega)
      have e : t = 0 ∨ t = 1 ∨ t = 2 ∨ t = 3 ∨ t = 4 ∨ t = 5 := by omega
      rw [hr0, hr1, hp, r4, r9]
      generalize hP : F_X1_pressIn core pricked gone steam filling = P
      rcases e with rfl | rfl | rfl | rfl | rfl | rfl
      · rw [if_pos (by decide : nI 0 = 0)]
        simp only [x_nm, F_X4_markEnd, reduceIte, Nat.reduceEqDiff]
      · rw [if_neg (by decide : ¬ nI 1 = 0), if_pos (by decide : nI 1 = 1)]
        simp only [x_nm, F_X4_markEnd, F_X4_markWhole, reduceIte, Nat.reduceEqDiff]
        rw [x_tr tr 10 1 11 (by decide), x_tr tr 1 10 11 (by decide)]
      · rw [if_neg (by decide : ¬ nI 2 = 0), if_neg (by decide : ¬ nI 2 = 1), if_pos (by decide : nI 2 = 2)]
        simp only [x_nm, F_X4_markEnd, F_X4_markSplit, reduceIte, Nat.reduceEqDiff]
        rw [x_tr tr 100 1 101 (by decide), x_tr tr 1 100 101 (by decide), hP]
      · rw [if_neg (by decide : ¬ nI 3 = 0), if_neg (by decide : ¬ nI 3 = 1), if_neg (by decide : ¬ nI 3 = 2), if_pos (by decide : nI 3 = 3)]
        simp only [x_nm, F_X4_markEnd, F_X4_markSplit, F_X4_markCurled, reduceIte, Nat.reduceEqDiff]
        rw [x_tr3 tr 1000 100 1 1101 (by decide), x_tr3 tr 1 100 1000 1101 (by decide), hP]
      · rw [if_neg (by decide : ¬ nI 4 = 0), if_neg (by decide : ¬ nI 4 = 1), if_neg (by decide : ¬ nI 4 = 2), if_neg (by decide : ¬ nI 4 = 3), if_pos (by decide : nI 4 = 4)]
        simp only [x_nm, F_X4_markEnd, F_X4_markWhole, F_X4_markPale, reduceIte, Nat.reduceEqDiff]
        rw [x_tr3 tr 10000 10 1 10011 (by decide), x_tr3 tr 1 10 10000 10011 (by decide)]
      · rw [if_neg (by decide : ¬ nI 5 = 0), if_neg (by decide : ¬ nI 5 = 1), if_neg (by decide : ¬ nI 5 = 2), if_neg (by decide : ¬ nI 5 = 3), if_neg (by decide : ¬ nI 5 = 4), if_pos (by decide : nI 5 = 5)]
        simp only [x_nm, F_X4_markEnd, F_X4_markDried, reduceIte, Nat.reduceEqDiff]
        rw [x_tr tr 100000 1 100001 (by decide), x_tr tr 1 100000 100001 (by decide)]
    · rw [if_pos (x_ioP 0 5 (by decide) (by decide) c1), x_nmE]
      rw [if_neg, if_neg, if_neg, if_neg, if_neg, if_neg]
      all_goals (intro e; subst e; exact c1 (by decide))
  · have c25 := x_ioP (lo := 0) (hi := 3) 0 3 (by decide) (by decide) c2
    rw [if_neg c2]
    by_cases c1 : F_X5_in a1.toInt64 0 5 = 0
    · rw [if_pos c1]
    · rw [if_neg c1, x_nmE, x_nmE, if_pos c25]
theorem s_mark {t_kept : Nat → Int32} {t_heats : Nat → Int32} {t_salts : Nat → Int32} {t_crumbsOf : Nat → Int32} {t_tests : Nat} {t_traced : Int64} {r_radius : Int32} {r_skin : Int32} {r_filling : Int32} {r_water : Int32} {r_ends : Int32} {r_thin : Int32} {r_chance : Int32} {r_bentFace : Int32} {r_bentBy : Int32} {r_doings : Nat} {r_kinds : Nat → Int32} {r_firsts : Nat → Int32} {r_seconds : Nat → Int32} {d_seconds : Nat → Int32} {e_text : Nat → Int32} {e_length : Nat} {m_down : Int32} {m_degrees : Nat → Int32} {m_brown : Nat → Int32} {m_core : Int32} {m_water : Int32} {m_pricked : Int32} {m_thinSpots : Int32} {m_seconds : Int32} {m_gone : Int32} {m_splitAt : Int32} {m_steam : Int32} {i0_down : Int32} {i0_degrees : Nat → Int32} {i0_brown : Nat → Int32} {i0_core : Int32} {i0_water : Int32} {i0_pricked : Int32} {i0_thinSpots : Int32} {i0_seconds : Int32} {i0_gone : Int32} {i0_splitAt : Int32} {i0_steam : Int32} {i1_down : Int32} {i1_degrees : Nat → Int32} {i1_brown : Nat → Int32} {i1_core : Int32} {i1_water : Int32} {i1_pricked : Int32} {i1_thinSpots : Int32} {i1_seconds : Int32} {i1_gone : Int32} {i1_splitAt : Int32} {i1_steam : Int32} {u_length : Nat} {u_text : Nat → Int32} {u_is : Nat → Int32} {u_doings : Nat → Int32} {u_doing : Nat → Int32} {u_row : Nat → Int32} {u_isKept : Nat → Int32} {u_heats : Nat → Int32} {u_orders : Nat → Int32} {u_tests : Nat} {u_salt : Nat → Int32} {u_crumbs : Nat → Int32} {u_traced : Int64} {a1 : Int32} {a2 : Int32} {t_traced_443 : Int64} {u_traced_447 : Int64} {z_444 z_448 : Int32} (hI : Inv (r_radius, r_skin, r_filling, r_water, r_ends, r_thin, r_chance, r_bentFace, r_bentBy, r_doings, r_kinds, r_firsts, r_seconds) e_length e_text (m_down, m_core, m_water, m_pricked, m_thinSpots, m_seconds, m_gone, m_splitAt, m_steam, m_degrees, m_brown) (i0_down, i0_core, i0_water, i0_pricked, i0_thinSpots, i0_seconds, i0_gone, i0_splitAt, i0_steam, i0_degrees, i0_brown) (i1_down, i1_core, i1_water, i1_pricked, i1_thinSpots, i1_seconds, i1_gone, i1_splitAt, i1_steam, i1_degrees, i1_brown) t_kept t_heats t_tests t_salts t_crumbsOf t_traced u_length u_text u_is u_doings u_doing u_row u_isKept u_heats u_orders u_tests u_salt u_crumbs u_traced d_seconds) (h4 : (z_444, t_traced_443) = F_X4_mark t_traced r_filling m_degrees m_brown m_core m_water m_pricked m_gone m_steam a1 a2) (h5 : (z_448, u_traced_447) = F_X5_mark u_is u_row u_traced a1 a2) : z_444 = z_448 ∧ Inv (r_radius, r_skin, r_filling, r_water, r_ends, r_thin, r_chance, r_bentFace, r_bentBy, r_doings, r_kinds, r_firsts, r_seconds) e_length e_text (m_down, m_core, m_water, m_pricked, m_thinSpots, m_seconds, m_gone, m_splitAt, m_steam, m_degrees, m_brown) (i0_down, i0_core, i0_water, i0_pricked, i0_thinSpots, i0_seconds, i0_gone, i0_splitAt, i0_steam, i0_degrees, i0_brown) (i1_down, i1_core, i1_water, i1_pricked, i1_thinSpots, i1_seconds, i1_gone, i1_splitAt, i1_steam, i1_degrees, i1_brown) t_kept t_heats t_tests t_salts t_crumbsOf t_traced_443 u_length u_text u_is u_doings u_doing u_row u_isKept u_heats u_orders u_tests u_salt u_crumbs u_traced_447 d_seconds := by
  have hM := hI.2.2.1
  have e2 := hI.1.2.1.2.2.1
  obtain ⟨hA, hB, hC, hD, hE, hF, hG, hH⟩ := hI
  obtain ⟨r0, r1, r2, -⟩ := x_mom0 hM
  subst hG
  have h := h4.trans ((x_mark (a1 := a1) (a2 := a2) (tr := t_traced) r0 r1 r2 (x_press hM e2)).trans h5.symm)
  simp only [Prod.mk.injEq] at h
  obtain ⟨rfl, rfl⟩ := h
  exact And.intro rfl (And.intro hA (And.intro hB (And.intro hC (And.intro hD (And.intro hE (And.intro hF (And.intro rfl hH)))))))
