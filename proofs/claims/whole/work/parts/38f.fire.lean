/-! the steps of the law: fire, simmer -/
theorem x_passK {down core water pricked thin seconds gone splitAt radius skin filling ends thinBy bentFace bentBy kind ht : Int32} {degrees brown : Nat → Int32} (hk : ¬ kind = 0) : F_X1_pass down degrees brown core water pricked thin seconds gone splitAt radius skin filling ends thinBy bentFace bentBy kind ht = F_X1_pass down degrees brown core water pricked thin seconds gone splitAt radius skin filling ends thinBy bentFace bentBy 1 ht := by
  rw [F_X1_pass, F_X1_pass, if_neg hk, if_neg (show ¬ (1 : Int32) = 0 by decide)]
def x_secs (is : Nat → Int32) (r : Nat) (ht kind : Int32) : Nat → (Nat → Int32) → (Nat → Int32)
  | 0, row => row
  | n + 1, row => x_secs is r ht kind n (F_X5_second is row r ht kind)
theorem x_fireL {is : Nat → Int32} {t m : Nat} : ∀ (n k : Nat) (row : Nat → Int32), m - k < n → F_X5_fire_L28 is t m n k row = x_secs is 0 (nI t) 0 (m - k) row := by
  intro n
  induction n with
  | zero => intro k row a; exact absurd a (Nat.not_lt_zero _)
  | succ n ih =>
    intro k row a
    rw [F_X5_fire_L28]
    by_cases c : m ≤ k
    · rw [if_pos c, show m - k = 0 by omega, x_secs]
    · rw [if_neg c, x_nmE, ih _ _ (by omega), show m - k = (m - (k + 1)) + 1 by omega, x_secs]
theorem x_simmerL {is : Nat → Int32} {t m : Nat} : ∀ (n k : Nat) (row : Nat → Int32), m - k < n → F_X5_simmer_L30 is t m n k row = x_secs is 0 (nI t) 1 (m - k) row := by
  intro n
  induction n with
  | zero => intro k row a; exact absurd a (Nat.not_lt_zero _)
  | succ n ih =>
    intro k row a
    rw [F_X5_simmer_L30]
    by_cases c : m ≤ k
    · rw [if_pos c, show m - k = 0 by omega, x_secs]
    · rw [if_neg c, x_nmE, ih _ _ (by omega), show m - k = (m - (k + 1)) + 1 by omega, x_secs]
theorem x_passSecs {down pricked thin radius skin filling ends thinBy bentFace bentBy kind kind5 ht : Int32} {is : Nat → Int32} {r m : Nat} (hk : (kind = 0 ∧ kind5 = 0) ∨ (¬ kind = 0 ∧ kind5 = 1)) (hR : Btw 1 radius 9) (e0 : is 0 = radius) (e1 : is 1 = skin) (e2 : is 2 = filling) (e4 : is 4 = ends) (e5 : is 5 = thinBy) (e7 : is 7 = bentFace) (e8 : is 8 = bentBy) (hh : Btw 0 ht 300) :
    ∀ (n k : Nat) (core water seconds gone splitAt steam : Int32) (degrees brown row : Nat → Int32), m - k < n → RelMom (down, core, water, pricked, thin, seconds, gone, splitAt, steam, degrees, brown) row r → ∀ {c w se g sp st : Int32} {u br : Nat → Int32}, F_X4_passSeconds_L3 radius skin filling ends thinBy bentFace bentBy down pricked thin kind ht m n k core water seconds gone splitAt steam degrees brown = (c, w, se, g, sp, st, u, br) →
      RelMom (down, c, w, pricked, thin, se, g, sp, st, u, br) (x_secs is r ht kind5 (m - k) row) r ∧ ∀ q : Nat, (q < 20 * r ∨ 20 * r + 20 ≤ q) → x_secs is r ht kind5 (m - k) row q = row q := by
  intro n
  induction n with
  | zero => intro k core water seconds gone splitAt steam degrees brown row a; exact absurd a (Nat.not_lt_zero _)
  | succ n ih =>
    intro k core water seconds gone splitAt steam degrees brown row a h c w se g sp st u br hs
    rw [F_X4_passSeconds_L3] at hs
    by_cases c1 : m ≤ k
    · rw [if_pos c1] at hs
      simp only [Prod.mk.injEq] at hs
      obtain ⟨rfl, rfl, rfl, rfl, rfl, rfl, rfl, rfl⟩ := hs
      rw [show m - k = 0 by omega, x_secs]
      exact And.intro h (fun _ _ => rfl)
    · rw [if_neg c1] at hs
      obtain ⟨⟨z1, c1, w1, se1, g1, sp1, st1, u1, br1⟩, hv, hs⟩ := x_nmG hs
      dsimp only at hs
      have hp : F_X1_pass down degrees brown core water pricked thin seconds gone splitAt radius skin filling ends thinBy bentFace bentBy kind5 ht = (z1, c1, w1, se1, g1, sp1, st1, u1, br1) := by
        rcases hk with ⟨rfl, rfl⟩ | ⟨h1, rfl⟩
        · exact hv.symm
        · rw [← x_passK h1]; exact hv.symm
      obtain ⟨j1, j2, j3⟩ := x_second h hR e0 e1 e2 e4 e5 e7 e8 hh hp rfl
      obtain ⟨i1, i2⟩ := ih (k + 1) c1 w1 se1 g1 sp1 st1 u1 br1 (F_X5_second is row r ht kind5) (by omega) j1 hs
      rw [show m - k = (m - (k + 1)) + 1 by omega, x_secs]
      exact And.intro i1 (fun q hq => (i2 q hq).trans (j3 q hq))
theorem s_fire {t_kept : Nat → Int32} {t_heats : Nat → Int32} {t_salts : Nat → Int32} {t_crumbsOf : Nat → Int32} {t_tests : Nat} {t_traced : Int64} {r_radius : Int32} {r_skin : Int32} {r_filling : Int32} {r_water : Int32} {r_ends : Int32} {r_thin : Int32} {r_chance : Int32} {r_bentFace : Int32} {r_bentBy : Int32} {r_doings : Nat} {r_kinds : Nat → Int32} {r_firsts : Nat → Int32} {r_seconds : Nat → Int32} {d_seconds : Nat → Int32} {e_text : Nat → Int32} {e_length : Nat} {m_down : Int32} {m_degrees : Nat → Int32} {m_brown : Nat → Int32} {m_core : Int32} {m_water : Int32} {m_pricked : Int32} {m_thinSpots : Int32} {m_seconds : Int32} {m_gone : Int32} {m_splitAt : Int32} {m_steam : Int32} {i0_down : Int32} {i0_degrees : Nat → Int32} {i0_brown : Nat → Int32} {i0_core : Int32} {i0_water : Int32} {i0_pricked : Int32} {i0_thinSpots : Int32} {i0_seconds : Int32} {i0_gone : Int32} {i0_splitAt : Int32} {i0_steam : Int32} {i1_down : Int32} {i1_degrees : Nat → Int32} {i1_brown : Nat → Int32} {i1_core : Int32} {i1_water : Int32} {i1_pricked : Int32} {i1_thinSpots : Int32} {i1_seconds : Int32} {i1_gone : Int32} {i1_splitAt : Int32} {i1_steam : Int32} {u_length : Nat} {u_text : Nat → Int32} {u_is : Nat → Int32} {u_doings : Nat → Int32} {u_doing : Nat → Int32} {u_row : Nat → Int32} {u_isKept : Nat → Int32} {u_heats : Nat → Int32} {u_orders : Nat → Int32} {u_tests : Nat} {u_salt : Nat → Int32} {u_crumbs : Nat → Int32} {u_traced : Int64} {a1 : Int32} {a2 : Int32} {m_core_95 : Int32} {m_water_96 : Int32} {m_seconds_97 : Int32} {m_gone_98 : Int32} {m_splitAt_99 : Int32} {m_steam_100 : Int32} {m_degrees_101 : Nat → Int32} {m_brown_102 : Nat → Int32} {u_row_106 : Nat → Int32} {z_103 z_107 : Int32} (hI : Inv (r_radius, r_skin, r_filling, r_water, r_ends, r_thin, r_chance, r_bentFace, r_bentBy, r_doings, r_kinds, r_firsts, r_seconds) e_length e_text (m_down, m_core, m_water, m_pricked, m_thinSpots, m_seconds, m_gone, m_splitAt, m_steam, m_degrees, m_brown) (i0_down, i0_core, i0_water, i0_pricked, i0_thinSpots, i0_seconds, i0_gone, i0_splitAt, i0_steam, i0_degrees, i0_brown) (i1_down, i1_core, i1_water, i1_pricked, i1_thinSpots, i1_seconds, i1_gone, i1_splitAt, i1_steam, i1_degrees, i1_brown) t_kept t_heats t_tests t_salts t_crumbsOf t_traced u_length u_text u_is u_doings u_doing u_row u_isKept u_heats u_orders u_tests u_salt u_crumbs u_traced d_seconds) (h4 : (z_103, m_core_95, m_water_96, m_seconds_97, m_gone_98, m_splitAt_99, m_steam_100, m_degrees_101, m_brown_102) = F_X4_fire r_radius r_skin r_filling r_ends r_thin r_bentFace r_bentBy m_down m_degrees m_brown m_core m_water m_pricked m_thinSpots m_seconds m_gone m_splitAt m_steam a1 a2) (h5 : (z_107, u_row_106) = F_X5_fire u_is u_row a1 a2) : z_103 = z_107 ∧ Inv (r_radius, r_skin, r_filling, r_water, r_ends, r_thin, r_chance, r_bentFace, r_bentBy, r_doings, r_kinds, r_firsts, r_seconds) e_length e_text (m_down, m_core_95, m_water_96, m_pricked, m_thinSpots, m_seconds_97, m_gone_98, m_splitAt_99, m_steam_100, m_degrees_101, m_brown_102) (i0_down, i0_core, i0_water, i0_pricked, i0_thinSpots, i0_seconds, i0_gone, i0_splitAt, i0_steam, i0_degrees, i0_brown) (i1_down, i1_core, i1_water, i1_pricked, i1_thinSpots, i1_seconds, i1_gone, i1_splitAt, i1_steam, i1_degrees, i1_brown) t_kept t_heats t_tests t_salts t_crumbsOf t_traced u_length u_text u_is u_doings u_doing u_row_106 u_isKept u_heats u_orders u_tests u_salt u_crumbs u_traced d_seconds := by
  have hI' := hI
  obtain ⟨⟨⟨⟨hR, -⟩, -⟩, ⟨e0, e1, e2, e3, e4, e5, e6, e7, e8⟩, -⟩, -, hM, hK, -⟩ := hI'
  obtain ⟨hA, hB, -, -, hF⟩ := hI
  rw [F_X4_fire] at h4
  rw [F_X5_fire] at h5
  rw [x_nmE] at h4 h5
  by_cases c1 : F_X4_outside a1 0 300 = 0
  · rw [if_pos c1] at h4
    rw [if_neg (x_ioN 0 300 (by decide) (by decide) c1)] at h5
    obtain ⟨d1, d2, d3⟩ := x_outs (lo := 0) (hi := 300) (by decide) (by decide) c1
    rw [x_nmE, x_nmE] at h4 h5
    by_cases c2 : F_X4_outside a2 1 99 = 0
    · rw [if_pos c2] at h4
      rw [if_neg (x_ioN 1 99 (by decide) (by decide) c2)] at h5
      obtain ⟨f1, f2, f3⟩ := x_outs (lo := 1) (hi := 99) (by decide) (by decide) c2
      rw [x_nmE] at h4 h5
      rw [x_fireL _ _ _ (by omega), x_nmE] at h5
      rw [F_X4_passSeconds, x_nmE, x_nmE] at h4
      obtain ⟨⟨c, w, se, g, sp, st, u, br⟩, hp⟩ : ∃ o, F_X4_passSeconds_L3 r_radius r_skin r_filling r_ends r_thin r_bentFace r_bentBy m_down m_pricked m_thinSpots 0 (nI a1.toNatClampNeg) a2.toNatClampNeg (a2.toNatClampNeg + 1) 0 m_core m_water m_seconds m_gone m_splitAt m_steam m_degrees m_brown = o := ⟨_, rfl⟩
      obtain ⟨j1, j2⟩ := x_passSecs (kind5 := 0) (Or.inl ⟨rfl, rfl⟩) hR e0 e1 e2 e4 e5 e7 e8 (x_btw_nI (lo := 0) (hi := 300) (by omega) d2 (by decide)) _ 0 _ _ _ _ _ _ _ _ _ (by omega) hM hp
      rw [hp] at h4
      rw [Nat.sub_zero] at j1 j2 h5
      simp only [Prod.mk.injEq] at h4 h5
      obtain ⟨rfl, rfl, rfl, rfl, rfl, rfl, rfl, rfl, rfl⟩ := h4
      obtain ⟨rfl, rfl⟩ := h5
      exact And.intro (x_mom0 j1).2.2.2.2.2.2.1.symm (And.intro hA (And.intro hB (And.intro j1 (And.intro (x_kept_row hK (fun q hq => j2 q (by omega))) hF))))
    · rw [if_neg c2] at h4
      rw [if_pos (x_ioP 1 99 (by decide) (by decide) c2)] at h5
      simp only [Prod.mk.injEq] at h4 h5
      obtain ⟨rfl, rfl, rfl, rfl, rfl, rfl, rfl, rfl, rfl⟩ := h4
      obtain ⟨rfl, rfl⟩ := h5
      exact And.intro rfl (And.intro hA (And.intro hB (And.intro hM (And.intro hK hF))))
  · rw [if_neg c1] at h4
    rw [if_pos (x_ioP 0 300 (by decide) (by decide) c1)] at h5
    simp only [Prod.mk.injEq] at h4 h5
    obtain ⟨rfl, rfl, rfl, rfl, rfl, rfl, rfl, rfl, rfl⟩ := h4
    obtain ⟨rfl, rfl⟩ := h5
    exact And.intro rfl (And.intro hA (And.intro hB (And.intro hM (And.intro hK hF))))
theorem s_simmer {t_kept : Nat → Int32} {t_heats : Nat → Int32} {t_salts : Nat → Int32} {t_crumbsOf : Nat → Int32} {t_tests : Nat} {t_traced : Int64} {r_radius : Int32} {r_skin : Int32} {r_filling : Int32} {r_water : Int32} {r_ends : Int32} {r_thin : Int32} {r_chance : Int32} {r_bentFace : Int32} {r_bentBy : Int32} {r_doings : Nat} {r_kinds : Nat → Int32} {r_firsts : Nat → Int32} {r_seconds : Nat → Int32} {d_seconds : Nat → Int32} {e_text : Nat → Int32} {e_length : Nat} {m_down : Int32} {m_degrees : Nat → Int32} {m_brown : Nat → Int32} {m_core : Int32} {m_water : Int32} {m_pricked : Int32} {m_thinSpots : Int32} {m_seconds : Int32} {m_gone : Int32} {m_splitAt : Int32} {m_steam : Int32} {i0_down : Int32} {i0_degrees : Nat → Int32} {i0_brown : Nat → Int32} {i0_core : Int32} {i0_water : Int32} {i0_pricked : Int32} {i0_thinSpots : Int32} {i0_seconds : Int32} {i0_gone : Int32} {i0_splitAt : Int32} {i0_steam : Int32} {i1_down : Int32} {i1_degrees : Nat → Int32} {i1_brown : Nat → Int32} {i1_core : Int32} {i1_water : Int32} {i1_pricked : Int32} {i1_thinSpots : Int32} {i1_seconds : Int32} {i1_gone : Int32} {i1_splitAt : Int32} {i1_steam : Int32} {u_length : Nat} {u_text : Nat → Int32} {u_is : Nat → Int32} {u_doings : Nat → Int32} {u_doing : Nat → Int32} {u_row : Nat → Int32} {u_isKept : Nat → Int32} {u_heats : Nat → Int32} {u_orders : Nat → Int32} {u_tests : Nat} {u_salt : Nat → Int32} {u_crumbs : Nat → Int32} {u_traced : Int64} {a1 : Int32} {a2 : Int32} {m_core_110 : Int32} {m_water_111 : Int32} {m_seconds_112 : Int32} {m_gone_113 : Int32} {m_splitAt_114 : Int32} {m_steam_115 : Int32} {m_degrees_116 : Nat → Int32} {m_brown_117 : Nat → Int32} {u_row_121 : Nat → Int32} {z_118 z_122 : Int32} (hI : Inv (r_radius, r_skin, r_filling, r_water, r_ends, r_thin, r_chance, r_bentFace, r_bentBy, r_doings, r_kinds, r_firsts, r_seconds) e_length e_text (m_down, m_core, m_water, m_pricked, m_thinSpots, m_seconds, m_gone, m_splitAt, m_steam, m_degrees, m_brown) (i0_down, i0_core, i0_water, i0_pricked, i0_thinSpots, i0_seconds, i0_gone, i0_splitAt, i0_steam, i0_degrees, i0_brown) (i1_down, i1_core, i1_water, i1_pricked, i1_thinSpots, i1_seconds, i1_gone, i1_splitAt, i1_steam, i1_degrees, i1_brown) t_kept t_heats t_tests t_salts t_crumbsOf t_traced u_length u_text u_is u_doings u_doing u_row u_isKept u_heats u_orders u_tests u_salt u_crumbs u_traced d_seconds) (h4 : (z_118, m_core_110, m_water_111, m_seconds_112, m_gone_113, m_splitAt_114, m_steam_115, m_degrees_116, m_brown_117) = F_X4_simmer r_radius r_skin r_filling r_ends r_thin r_bentFace r_bentBy m_down m_degrees m_brown m_core m_water m_pricked m_thinSpots m_seconds m_gone m_splitAt m_steam a1 a2) (h5 : (z_122, u_row_121) = F_X5_simmer u_is u_row a1 a2) : z_118 = z_122 ∧ Inv (r_radius, r_skin, r_filling, r_water, r_ends, r_thin, r_chance, r_bentFace, r_bentBy, r_doings, r_kinds, r_firsts, r_seconds) e_length e_text (m_down, m_core_110, m_water_111, m_pricked, m_thinSpots, m_seconds_112, m_gone_113, m_splitAt_114, m_steam_115, m_degrees_116, m_brown_117) (i0_down, i0_core, i0_water, i0_pricked, i0_thinSpots, i0_seconds, i0_gone, i0_splitAt, i0_steam, i0_degrees, i0_brown) (i1_down, i1_core, i1_water, i1_pricked, i1_thinSpots, i1_seconds, i1_gone, i1_splitAt, i1_steam, i1_degrees, i1_brown) t_kept t_heats t_tests t_salts t_crumbsOf t_traced u_length u_text u_is u_doings u_doing u_row_121 u_isKept u_heats u_orders u_tests u_salt u_crumbs u_traced d_seconds := by
  have hI' := hI
  obtain ⟨⟨⟨⟨hR, -⟩, -⟩, ⟨e0, e1, e2, e3, e4, e5, e6, e7, e8⟩, -⟩, -, hM, hK, -⟩ := hI'
  obtain ⟨hA, hB, -, -, hF⟩ := hI
  rw [F_X4_simmer] at h4
  rw [F_X5_simmer] at h5
  rw [x_nmE] at h4 h5
  by_cases c1 : F_X4_outside a1 20 100 = 0
  · rw [if_pos c1] at h4
    rw [if_neg (x_ioN 20 100 (by decide) (by decide) c1)] at h5
    obtain ⟨d1, d2, d3⟩ := x_outs (lo := 20) (hi := 100) (by decide) (by decide) c1
    rw [x_nmE, x_nmE] at h4 h5
    by_cases c2 : F_X4_outside a2 1 99 = 0
    · rw [if_pos c2] at h4
      rw [if_neg (x_ioN 1 99 (by decide) (by decide) c2)] at h5
      obtain ⟨f1, f2, f3⟩ := x_outs (lo := 1) (hi := 99) (by decide) (by decide) c2
      rw [x_nmE] at h4 h5
      rw [x_simmerL _ _ _ (by omega), x_nmE] at h5
      rw [F_X4_passSeconds, x_nmE, x_nmE] at h4
      obtain ⟨⟨c, w, se, g, sp, st, u, br⟩, hp⟩ : ∃ o, F_X4_passSeconds_L3 r_radius r_skin r_filling r_ends r_thin r_bentFace r_bentBy m_down m_pricked m_thinSpots 3 (nI a1.toNatClampNeg) a2.toNatClampNeg (a2.toNatClampNeg + 1) 0 m_core m_water m_seconds m_gone m_splitAt m_steam m_degrees m_brown = o := ⟨_, rfl⟩
      obtain ⟨j1, j2⟩ := x_passSecs (kind5 := 1) (Or.inr ⟨by decide, rfl⟩) hR e0 e1 e2 e4 e5 e7 e8 (x_btw_nI (lo := 0) (hi := 300) (by omega) (by omega) (by decide)) _ 0 _ _ _ _ _ _ _ _ _ (by omega) hM hp
      rw [hp] at h4
      rw [Nat.sub_zero] at j1 j2 h5
      simp only [Prod.mk.injEq] at h4 h5
      obtain ⟨rfl, rfl, rfl, rfl, rfl, rfl, rfl, rfl, rfl⟩ := h4
      obtain ⟨rfl, rfl⟩ := h5
      exact And.intro (x_mom0 j1).2.2.2.2.2.2.1.symm (And.intro hA (And.intro hB (And.intro j1 (And.intro (x_kept_row hK (fun q hq => j2 q (by omega))) hF))))
    · rw [if_neg c2] at h4
      rw [if_pos (x_ioP 1 99 (by decide) (by decide) c2)] at h5
      simp only [Prod.mk.injEq] at h4 h5
      obtain ⟨rfl, rfl, rfl, rfl, rfl, rfl, rfl, rfl, rfl⟩ := h4
      obtain ⟨rfl, rfl⟩ := h5
      exact And.intro rfl (And.intro hA (And.intro hB (And.intro hM (And.intro hK hF))))
  · rw [if_neg c1] at h4
    rw [if_pos (x_ioP 20 100 (by decide) (by decide) c1)] at h5
    simp only [Prod.mk.injEq] at h4 h5
    obtain ⟨rfl, rfl, rfl, rfl, rfl, rfl, rfl, rfl, rfl⟩ := h4
    obtain ⟨rfl, rfl⟩ := h5
    exact And.intro rfl (And.intro hA (And.intro hB (And.intro hM (And.intro hK hF))))
