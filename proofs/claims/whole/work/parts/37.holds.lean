/-! the steps of the law: what the tests hold -/
theorem x_mind (c y : Int32) : (if y ≤ c then y else c) = (if c < y then c else y) := by
  by_cases h : c < y
  · rw [if_pos h, if_neg (Int32.not_le.mpr h)]
  · rw [if_neg h, if_pos (Int32.not_lt.mp h)]
def PNone (x : Int32) : Prop := x = -9 ∨ 0 ≤ x.toInt
theorem x_pn {x : Int32} (h : PNone x) : x < 0 ↔ x = -9 := by
  constructor
  · intro z
    rcases h with h | h
    · exact h
    · have z2 : x.toInt < 0 := Int32.lt_iff_toInt_lt.mp z
      omega
  · intro z
    rw [z]
    decide
theorem x_holds_L {salts crumbs us uc : Nat → Int32} {tests : Nat} (hT : tests ≤ 20) (h : ∀ q : Nat, q < 20 → salts q = us q ∧ crumbs q = uc q ∧ (q < tests → Btw 0 (salts q) 30 ∧ Btw 0 (crumbs q) 999)) : ∀ (n1 n2 : Nat) (l2 l3 : Int32) (k : Nat), 20 - k < n1 → tests - k < n2 → PNone l2 → PNone l3 →
    F_X4_holds_L20 salts crumbs tests n1 l2 l3 k = F_X5_holds_L23 tests us uc n2 l2 l3 k ∧ PNone (F_X5_holds_L23 tests us uc n2 l2 l3 k).1 ∧ PNone (F_X5_holds_L23 tests us uc n2 l2 l3 k).2 := by
  intro n1
  induction n1 with
  | zero => intro n2 l2 l3 k h1; exact absurd h1 (Nat.not_lt_zero _)
  | succ n1 ih =>
    intro n2 l2 l3 k h1 h2 p2 p3
    cases n2 with
    | zero => exact absurd h2 (Nat.not_lt_zero _)
    | succ n2 =>
      rw [F_X4_holds_L20, F_X5_holds_L23]
      by_cases c : tests ≤ k
      · rw [if_pos c, if_pos c]
        exact ⟨rfl, p2, p3⟩
      · obtain ⟨s1, s2, s3⟩ := h k (by omega)
        obtain ⟨⟨s4, -⟩, -⟩ := s3 (by omega)
        rw [if_neg c, if_neg c, if_neg (show ¬ 20 ≤ k by omega), ← s1, ← s2]
        generalize salts k = sa at s4 ⊢
        by_cases c2 : 100 < crumbs k
        · rw [if_pos c2, if_pos c2]
          repeat rw [x_nmE]
          rw [if_pos (rfl : (0 : Int32) = 0), if_pos (rfl : (0 : Int32) = 0), x_maxd l3 sa]
          refine ih n2 l2 (if l3 < sa then sa else l3) (k + 1) (by omega) (by omega) p2 ?_
          by_cases c3 : l3 < sa
          · rw [if_pos c3]; exact Or.inr s4
          · rw [if_neg c3]; exact p3
        · rw [if_neg c2, if_neg c2]
          repeat rw [x_nmE]
          rw [if_neg (by decide : ¬ (1 : Int32) = 0), if_neg (by decide : ¬ (1 : Int32) = 0), x_mind sa l2]
          by_cases c3 : l2 = -9
          · rw [if_pos c3, if_pos ((x_pn p2).mpr c3)]
            exact ih n2 sa l3 (k + 1) (by omega) (by omega) (Or.inr s4) p3
          · rw [if_neg c3, if_neg (fun z => c3 ((x_pn p2).mp z))]
            refine ih n2 (if sa < l2 then sa else l2) l3 (k + 1) (by omega) (by omega) ?_ p3
            by_cases c4 : sa < l2
            · rw [if_pos c4]; exact Or.inr s4
            · rw [if_neg c4]; exact p2
theorem s_holds {t_kept : Nat → Int32} {t_heats : Nat → Int32} {t_salts : Nat → Int32} {t_crumbsOf : Nat → Int32} {t_tests : Nat} {t_traced : Int64} {r_radius : Int32} {r_skin : Int32} {r_filling : Int32} {r_water : Int32} {r_ends : Int32} {r_thin : Int32} {r_chance : Int32} {r_bentFace : Int32} {r_bentBy : Int32} {r_doings : Nat} {r_kinds : Nat → Int32} {r_firsts : Nat → Int32} {r_seconds : Nat → Int32} {d_seconds : Nat → Int32} {e_text : Nat → Int32} {e_length : Nat} {m_down : Int32} {m_degrees : Nat → Int32} {m_brown : Nat → Int32} {m_core : Int32} {m_water : Int32} {m_pricked : Int32} {m_thinSpots : Int32} {m_seconds : Int32} {m_gone : Int32} {m_splitAt : Int32} {m_steam : Int32} {i0_down : Int32} {i0_degrees : Nat → Int32} {i0_brown : Nat → Int32} {i0_core : Int32} {i0_water : Int32} {i0_pricked : Int32} {i0_thinSpots : Int32} {i0_seconds : Int32} {i0_gone : Int32} {i0_splitAt : Int32} {i0_steam : Int32} {i1_down : Int32} {i1_degrees : Nat → Int32} {i1_brown : Nat → Int32} {i1_core : Int32} {i1_water : Int32} {i1_pricked : Int32} {i1_thinSpots : Int32} {i1_seconds : Int32} {i1_gone : Int32} {i1_splitAt : Int32} {i1_steam : Int32} {u_length : Nat} {u_text : Nat → Int32} {u_is : Nat → Int32} {u_doings : Nat → Int32} {u_doing : Nat → Int32} {u_row : Nat → Int32} {u_isKept : Nat → Int32} {u_heats : Nat → Int32} {u_orders : Nat → Int32} {u_tests : Nat} {u_salt : Nat → Int32} {u_crumbs : Nat → Int32} {u_traced : Int64} {a1 : Int32} {z_431 z_434 : Int32} (hI : Inv (r_radius, r_skin, r_filling, r_water, r_ends, r_thin, r_chance, r_bentFace, r_bentBy, r_doings, r_kinds, r_firsts, r_seconds) e_length e_text (m_down, m_core, m_water, m_pricked, m_thinSpots, m_seconds, m_gone, m_splitAt, m_steam, m_degrees, m_brown) (i0_down, i0_core, i0_water, i0_pricked, i0_thinSpots, i0_seconds, i0_gone, i0_splitAt, i0_steam, i0_degrees, i0_brown) (i1_down, i1_core, i1_water, i1_pricked, i1_thinSpots, i1_seconds, i1_gone, i1_splitAt, i1_steam, i1_degrees, i1_brown) t_kept t_heats t_tests t_salts t_crumbsOf t_traced u_length u_text u_is u_doings u_doing u_row u_isKept u_heats u_orders u_tests u_salt u_crumbs u_traced d_seconds) (h4 : z_431 = F_X4_holds t_salts t_crumbsOf t_tests a1) (h5 : z_434 = F_X5_holds u_tests u_salt u_crumbs a1) : z_431 = z_434 ∧ Inv (r_radius, r_skin, r_filling, r_water, r_ends, r_thin, r_chance, r_bentFace, r_bentBy, r_doings, r_kinds, r_firsts, r_seconds) e_length e_text (m_down, m_core, m_water, m_pricked, m_thinSpots, m_seconds, m_gone, m_splitAt, m_steam, m_degrees, m_brown) (i0_down, i0_core, i0_water, i0_pricked, i0_thinSpots, i0_seconds, i0_gone, i0_splitAt, i0_steam, i0_degrees, i0_brown) (i1_down, i1_core, i1_water, i1_pricked, i1_thinSpots, i1_seconds, i1_gone, i1_splitAt, i1_steam, i1_degrees, i1_brown) t_kept t_heats t_tests t_salts t_crumbsOf t_traced u_length u_text u_is u_doings u_doing u_row u_isKept u_heats u_orders u_tests u_salt u_crumbs u_traced d_seconds := by
  have hI' := hI
  obtain ⟨-, -, -, -, -, ⟨hT1, hT2, hT3⟩, -⟩ := hI'
  subst hT2
  refine And.intro ?_ hI
  rw [h4, h5, F_X4_holds, F_X5_holds, x_nmE (F_X4_outside a1 0 2), x_nmE (F_X5_in a1.toInt64 0 2)]
  by_cases c1 : F_X4_outside a1 0 2 = 0
  · have d1 := x_outs (lo := 0) (hi := 2) (by decide) (by decide) c1
    rw [if_pos c1, if_neg (x_ioN 0 2 (by decide) (by decide) c1)]
    generalize a1.toNatClampNeg = t at d1 ⊢
    obtain ⟨q1, q2, q3⟩ := x_holds_L hT1 hT3 (20 + 1) (u_tests + 1) (-9) (-9) 0 (by omega) (by omega) (Or.inl rfl) (Or.inl rfl)
    generalize F_X5_holds_L23 u_tests u_salt u_crumbs (u_tests + 1) (-9) (-9) 0 = T at q1 q2 q3 ⊢
    repeat rw [x_nmE]
    rw [q1]
    obtain ⟨l2, l3⟩ := T
    have e : t = 0 ∨ t = 1 ∨ t = 2 := by omega
    rcases e with rfl | rfl | rfl
    · rw [if_neg (by decide : ¬ (0 : Nat) = 2), if_pos (rfl : (0 : Nat) = 0), if_pos (rfl : (0 : Nat) = 0)]
      repeat rw [x_nmE]
    · rw [if_neg (by decide : ¬ (1 : Nat) = 2), if_neg (by decide : ¬ (1 : Nat) = 0), if_neg (by decide : ¬ (1 : Nat) = 0), if_pos (rfl : (1 : Nat) = 1)]
      repeat rw [x_nmE]
    · rw [if_pos (rfl : (2 : Nat) = 2), if_neg (by decide : ¬ (2 : Nat) = 0), if_neg (by decide : ¬ (2 : Nat) = 1)]
      repeat rw [x_nmE]
      by_cases c2 : l2 = -9
      · rw [if_pos c2, if_pos ((x_pn q2).mpr c2)]
      · rw [if_neg c2, if_neg (fun z => c2 ((x_pn q2).mp z))]
        by_cases c3 : l3 = -9
        · rw [if_pos c3, if_neg]
          intro z
          rw [c3] at z
          have z2 : l2.toInt ≤ -9 := Int32.le_iff_toInt_le.mp z
          rcases q2 with q2 | q2
          · exact c2 q2
          · have q4 : 0 ≤ l2.toInt := q2
            omega
        · rw [if_neg c3]
  · rw [if_neg c1, if_pos (x_ioP 0 2 (by decide) (by decide) c1)]
