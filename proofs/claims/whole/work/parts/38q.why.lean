/-! the steps of the law: why -/
def x_sumc (F : Nat → Nat) : Nat → Nat → Nat
  | 0, _ => 0
  | m + 1, k => F k + x_sumc F m (k + 1)
theorem x_sumc_le {F : Nat → Nat} (h : ∀ k : Nat, F k ≤ 9) : ∀ m k : Nat, x_sumc F m k ≤ 9 * m := by
  intro m
  induction m with
  | zero => intro k; exact Nat.le_refl _
  | succ m ih =>
    intro k
    rw [x_sumc]
    have h1 := ih (k + 1)
    have h2 := h k
    omega
theorem x_why4 {r0 r1 r2 r3 r4 r5 r6 r7 r8 : Int32} {n T f c0 : Nat} {kinds firsts secs is doings doing : Nat → Int32} (h : RelRec (r0, r1, r2, r3, r4, r5, r6, r7, r8, n, kinds, firsts, secs) is doings doing) (hT : T ≤ 999) (hf : f ≤ 3) :
    ∀ (m k a b : Nat) (d0 d1 d2 d3 d4 d5 d6 d7 d8 : Int32) (dn : Nat) (dk df ds : Nat → Int32) (wh gr ga hi down core wat pricked thin seconds gone splitAt steam : Int32) (degrees brown : Nat → Int32), 5 - k < m →
      ∃ rest, F_X4_why_L30 r0 r1 r2 r3 r4 r5 r6 r7 r8 n kinds firsts secs T f c0 m (nI a) (nI b) k d0 d1 d2 d3 d4 d5 d6 d7 d8 dn dk df ds wh gr ga hi down core wat pricked thin seconds gone splitAt steam degrees brown = (nI (a + x_sumc (fun c => x_ccnt (x_g is doings doing T f c) 9 1) (5 - k) k), nI (if k ≤ c0 ∧ c0 < 5 then x_ccnt (x_g is doings doing T f c0) 9 1 else b), rest) := by
  intro m
  induction m with
  | zero => intro k a b d0 d1 d2 d3 d4 d5 d6 d7 d8 dn dk df ds wh gr ga hi down core wat pricked thin seconds gone splitAt steam degrees brown q; exact absurd q (Nat.not_lt_zero _)
  | succ m ih =>
    intro k a b d0 d1 d2 d3 d4 d5 d6 d7 d8 dn dk df ds wh gr ga hi down core wat pricked thin seconds gone splitAt steam degrees brown q
    rw [F_X4_why_L30]
    by_cases c1 : 5 ≤ k
    · rw [if_pos c1, show 5 - k = 0 by omega, if_neg (show ¬ (k ≤ c0 ∧ c0 < 5) from fun z => by omega)]
      exact ⟨_, rfl⟩
    · have l := x_times (T := T) (c := k) h (by omega) hT hf d0 d1 d2 d3 d4 d5 d6 d7 d8 dn dk df ds wh gr ga hi down core wat pricked thin seconds gone splitAt steam degrees brown
      rw [if_neg c1]
      generalize F_X4_timesOf r0 r1 r2 r3 r4 r5 r6 r7 r8 n kinds firsts secs d0 d1 d2 d3 d4 d5 d6 d7 d8 dn dk df ds wh gr ga hi down degrees brown core wat pricked thin seconds gone splitAt steam (nI k) (nI T) f = o at l
      have e1 : (if k = c0 then o.1 else nI b) = nI (if k = c0 then x_ccnt (x_g is doings doing T f c0) 9 1 else b) := by
        by_cases c2 : k = c0
        · rw [if_pos c2, if_pos c2, l, c2]
        · rw [if_neg c2, if_neg c2]
      rw [x_nmE, x_nmE, e1, l, nI_add]
      obtain ⟨rest, hr⟩ := ih (k + 1) (a + x_ccnt (x_g is doings doing T f k) 9 1) (if k = c0 then x_ccnt (x_g is doings doing T f c0) 9 1 else b) o.2.1 o.2.2.1 o.2.2.2.1 o.2.2.2.2.1 o.2.2.2.2.2.1 o.2.2.2.2.2.2.1 o.2.2.2.2.2.2.2.1 o.2.2.2.2.2.2.2.2.1 o.2.2.2.2.2.2.2.2.2.1 o.2.2.2.2.2.2.2.2.2.2.1 o.2.2.2.2.2.2.2.2.2.2.2.1 o.2.2.2.2.2.2.2.2.2.2.2.2.1 o.2.2.2.2.2.2.2.2.2.2.2.2.2.1 o.2.2.2.2.2.2.2.2.2.2.2.2.2.2.1 o.2.2.2.2.2.2.2.2.2.2.2.2.2.2.2.1 o.2.2.2.2.2.2.2.2.2.2.2.2.2.2.2.2.1 o.2.2.2.2.2.2.2.2.2.2.2.2.2.2.2.2.2.1 o.2.2.2.2.2.2.2.2.2.2.2.2.2.2.2.2.2.2.1 o.2.2.2.2.2.2.2.2.2.2.2.2.2.2.2.2.2.2.2.1 o.2.2.2.2.2.2.2.2.2.2.2.2.2.2.2.2.2.2.2.2.1 o.2.2.2.2.2.2.2.2.2.2.2.2.2.2.2.2.2.2.2.2.2.1 o.2.2.2.2.2.2.2.2.2.2.2.2.2.2.2.2.2.2.2.2.2.2.1 o.2.2.2.2.2.2.2.2.2.2.2.2.2.2.2.2.2.2.2.2.2.2.2.1 o.2.2.2.2.2.2.2.2.2.2.2.2.2.2.2.2.2.2.2.2.2.2.2.2.1 o.2.2.2.2.2.2.2.2.2.2.2.2.2.2.2.2.2.2.2.2.2.2.2.2.2.1 o.2.2.2.2.2.2.2.2.2.2.2.2.2.2.2.2.2.2.2.2.2.2.2.2.2.2.1 o.2.2.2.2.2.2.2.2.2.2.2.2.2.2.2.2.2.2.2.2.2.2.2.2.2.2.2.1 o.2.2.2.2.2.2.2.2.2.2.2.2.2.2.2.2.2.2.2.2.2.2.2.2.2.2.2.2 (by omega)
      refine ⟨rest, ?_⟩
      rw [hr, show 5 - k = (5 - (k + 1)) + 1 by omega, x_sumc, Nat.add_assoc]
      have e2 : (if k + 1 ≤ c0 ∧ c0 < 5 then x_ccnt (x_g is doings doing T f c0) 9 1 else if k = c0 then x_ccnt (x_g is doings doing T f c0) 9 1 else b) = (if k ≤ c0 ∧ c0 < 5 then x_ccnt (x_g is doings doing T f c0) 9 1 else b) := by
        by_cases c3 : k + 1 ≤ c0 ∧ c0 < 5
        · rw [if_pos c3, if_pos (show k ≤ c0 ∧ c0 < 5 from ⟨by omega, c3.2⟩)]
        · rw [if_neg c3]
          by_cases c4 : k = c0
          · rw [if_pos c4, if_pos (show k ≤ c0 ∧ c0 < 5 from ⟨by omega, by omega⟩)]
          · rw [if_neg c4, if_neg (show ¬ (k ≤ c0 ∧ c0 < 5) from fun z => by omega)]
      rw [e2]
theorem x_why5 {r0 r1 r2 r3 r4 r5 r6 r7 r8 : Int32} {n T f : Nat} {kinds firsts secs is doings doing : Nat → Int32} (h : RelRec (r0, r1, r2, r3, r4, r5, r6, r7, r8, n, kinds, firsts, secs) is doings doing) (hf : f ≤ 3) :
    ∀ (m k a : Nat) (tw tm ta th : Int32) (row : Nat → Int32), 5 - k < m → ∃ (tw' tm' ta' th' : Int32) (row' : Nat → Int32), F_X5_why_L28 doings doing T f m a k tw tm ta th is row = (a + x_sumc (fun c => x_ccnt (x_g is doings doing T f c) 9 1) (5 - k) k, tw', tm', ta', th', is, row') ∧ ∀ q : Nat, q < 60 → row' q = row q := by
  intro m
  induction m with
  | zero => intro k a tw tm ta th row q; exact absurd q (Nat.not_lt_zero _)
  | succ m ih =>
    intro k a tw tm ta th row q
    rw [F_X5_why_L28]
    by_cases c1 : 5 ≤ k
    · rw [if_pos c1, show 5 - k = 0 by omega]
      exact ⟨tw, tm, ta, th, row, rfl, fun _ _ => rfl⟩
    · rw [if_neg c1]
      obtain ⟨tw1, tm1, ta1, th1, row1, g1, g2⟩ := x_begun (T := T) (c := k) h (by omega) hf tw tm ta th row
      have b := x_ccnt_le (x_g is doings doing T f k) 9 1
      rw [g1, x_nmE]
      dsimp only
      rw [nI_clamp (by omega)]
      obtain ⟨tw2, tm2, ta2, th2, row2, l1, l2⟩ := ih (k + 1) (a + x_ccnt (x_g is doings doing T f k) 9 1) tw1 tm1 ta1 th1 row1 (by omega)
      rw [l1, show 5 - k = (5 - (k + 1)) + 1 by omega, x_sumc, Nat.add_assoc]
      exact ⟨tw2, tm2, ta2, th2, row2, rfl, fun q hq => (l2 q hq).trans (g2 q hq)⟩
theorem x_gcd : ∀ (n m k a b : Nat), b < n → b < m → k + b < 64 → a < 1000 → b < 1000 → F_X4_commonDivisor_L7 n (nI a) (nI b) k = nI (F_X5_why_L78 m a b) ∧ (0 < a ∨ 0 < b → 1 ≤ F_X5_why_L78 m a b) ∧ F_X5_why_L78 m a b < 1000 := by
  intro n
  induction n with
  | zero => intro m k a b q; exact absurd q (Nat.not_lt_zero _)
  | succ n ih =>
    intro m k a b q1 q2 q3 ha hb
    cases m with
    | zero => exact absurd q2 (Nat.not_lt_zero _)
    | succ m =>
      rw [F_X4_commonDivisor_L7, F_X5_why_L78, if_neg (by omega)]
      by_cases c : b = 0
      · subst c
        rw [if_pos rfl, if_pos nI_0]
        exact ⟨rfl, fun z => by omega, ha⟩
      · have n0 : ¬ nI b = 0 := nI_ne0 (by omega) (by omega)
        have hm := Nat.mod_lt a (by omega : 0 < b)
        rw [if_neg c, if_neg n0, pk_div (by omega) (by omega) (by omega), pk_mul]
        have hle := Nat.div_mul_le_self a b
        rw [pk_sub hle, show a - a / b * b = a % b by have := Nat.div_add_mod' a b; omega]
        obtain ⟨l1, l2, l3⟩ := ih m (k + 1) b (a % b) (by omega) (by omega) (by omega) hb (by omega)
        exact ⟨l1, fun _ => l2 (Or.inl (by omega)), l3⟩
theorem s_why {t_kept : Nat → Int32} {t_heats : Nat → Int32} {t_salts : Nat → Int32} {t_crumbsOf : Nat → Int32} {t_tests : Nat} {t_traced : Int64} {r_radius : Int32} {r_skin : Int32} {r_filling : Int32} {r_water : Int32} {r_ends : Int32} {r_thin : Int32} {r_chance : Int32} {r_bentFace : Int32} {r_bentBy : Int32} {r_doings : Nat} {r_kinds : Nat → Int32} {r_firsts : Nat → Int32} {r_seconds : Nat → Int32} {d_seconds : Nat → Int32} {c_radius : Int32} {c_skin : Int32} {c_filling : Int32} {c_water : Int32} {c_ends : Int32} {c_thin : Int32} {c_chance : Int32} {c_bentFace : Int32} {c_bentBy : Int32} {c_doings : Nat} {c_kinds : Nat → Int32} {c_firsts : Nat → Int32} {c_seconds : Nat → Int32} {e_text : Nat → Int32} {e_length : Nat} {m_down : Int32} {m_degrees : Nat → Int32} {m_brown : Nat → Int32} {m_core : Int32} {m_water : Int32} {m_pricked : Int32} {m_thinSpots : Int32} {m_seconds : Int32} {m_gone : Int32} {m_splitAt : Int32} {m_steam : Int32} {j_when : Int32} {j_greatest : Int32} {j_greatestAt : Int32} {j_hiss : Int32} {jm_down : Int32} {jm_degrees : Nat → Int32} {jm_brown : Nat → Int32} {jm_core : Int32} {jm_water : Int32} {jm_pricked : Int32} {jm_thinSpots : Int32} {jm_seconds : Int32} {jm_gone : Int32} {jm_splitAt : Int32} {jm_steam : Int32} {i0_down : Int32} {i0_degrees : Nat → Int32} {i0_brown : Nat → Int32} {i0_core : Int32} {i0_water : Int32} {i0_pricked : Int32} {i0_thinSpots : Int32} {i0_seconds : Int32} {i0_gone : Int32} {i0_splitAt : Int32} {i0_steam : Int32} {i1_down : Int32} {i1_degrees : Nat → Int32} {i1_brown : Nat → Int32} {i1_core : Int32} {i1_water : Int32} {i1_pricked : Int32} {i1_thinSpots : Int32} {i1_seconds : Int32} {i1_gone : Int32} {i1_splitAt : Int32} {i1_steam : Int32} {u_length : Nat} {u_text : Nat → Int32} {u_is : Nat → Int32} {u_doings : Nat → Int32} {u_doing : Nat → Int32} {u_row : Nat → Int32} {u_isKept : Nat → Int32} {u_when : Int32} {u_most : Int32} {u_mostAt : Int32} {u_hiss : Int32} {u_heats : Nat → Int32} {u_orders : Nat → Int32} {u_tests : Nat} {u_salt : Nat → Int32} {u_crumbs : Nat → Int32} {u_traced : Int64} {a1 : Int32} {a2 : Int32} {a3 : Int32} {a4 : Int32} {c_radius_365 : Int32} {c_skin_366 : Int32} {c_filling_367 : Int32} {c_water_368 : Int32} {c_ends_369 : Int32} {c_thin_370 : Int32} {c_chance_371 : Int32} {c_bentFace_372 : Int32} {c_bentBy_373 : Int32} {c_doings_374 : Nat} {c_kinds_375 : Nat → Int32} {c_firsts_376 : Nat → Int32} {c_seconds_377 : Nat → Int32} {j_when_378 : Int32} {j_greatest_379 : Int32} {j_greatestAt_380 : Int32} {j_hiss_381 : Int32} {jm_down_382 : Int32} {jm_core_383 : Int32} {jm_water_384 : Int32} {jm_pricked_385 : Int32} {jm_thinSpots_386 : Int32} {jm_seconds_387 : Int32} {jm_gone_388 : Int32} {jm_splitAt_389 : Int32} {jm_steam_390 : Int32} {jm_degrees_391 : Nat → Int32} {jm_brown_392 : Nat → Int32} {u_when_396 : Int32} {u_most_397 : Int32} {u_mostAt_398 : Int32} {u_hiss_399 : Int32} {u_is_400 : Nat → Int32} {u_row_401 : Nat → Int32} {z_393 z_402 : Int32} (hI : Inv (r_radius, r_skin, r_filling, r_water, r_ends, r_thin, r_chance, r_bentFace, r_bentBy, r_doings, r_kinds, r_firsts, r_seconds) e_length e_text (m_down, m_core, m_water, m_pricked, m_thinSpots, m_seconds, m_gone, m_splitAt, m_steam, m_degrees, m_brown) (i0_down, i0_core, i0_water, i0_pricked, i0_thinSpots, i0_seconds, i0_gone, i0_splitAt, i0_steam, i0_degrees, i0_brown) (i1_down, i1_core, i1_water, i1_pricked, i1_thinSpots, i1_seconds, i1_gone, i1_splitAt, i1_steam, i1_degrees, i1_brown) t_kept t_heats t_tests t_salts t_crumbsOf t_traced u_length u_text u_is u_doings u_doing u_row u_isKept u_heats u_orders u_tests u_salt u_crumbs u_traced d_seconds) (h4 : (z_393, c_radius_365, c_skin_366, c_filling_367, c_water_368, c_ends_369, c_thin_370, c_chance_371, c_bentFace_372, c_bentBy_373, c_doings_374, c_kinds_375, c_firsts_376, c_seconds_377, j_when_378, j_greatest_379, j_greatestAt_380, j_hiss_381, jm_down_382, jm_core_383, jm_water_384, jm_pricked_385, jm_thinSpots_386, jm_seconds_387, jm_gone_388, jm_splitAt_389, jm_steam_390, jm_degrees_391, jm_brown_392) = F_X4_why r_radius r_skin r_filling r_water r_ends r_thin r_chance r_bentFace r_bentBy r_doings r_kinds r_firsts r_seconds c_radius c_skin c_filling c_water c_ends c_thin c_chance c_bentFace c_bentBy c_doings c_kinds c_firsts c_seconds j_when j_greatest j_greatestAt j_hiss jm_down jm_degrees jm_brown jm_core jm_water jm_pricked jm_thinSpots jm_seconds jm_gone jm_splitAt jm_steam a1 a2 a3 a4) (h5 : (z_402, u_when_396, u_most_397, u_mostAt_398, u_hiss_399, u_is_400, u_row_401) = F_X5_why u_is u_doings u_doing u_row u_when u_most u_mostAt u_hiss a1 a2 a3 a4) : z_393 = z_402 ∧ Inv (r_radius, r_skin, r_filling, r_water, r_ends, r_thin, r_chance, r_bentFace, r_bentBy, r_doings, r_kinds, r_firsts, r_seconds) e_length e_text (m_down, m_core, m_water, m_pricked, m_thinSpots, m_seconds, m_gone, m_splitAt, m_steam, m_degrees, m_brown) (i0_down, i0_core, i0_water, i0_pricked, i0_thinSpots, i0_seconds, i0_gone, i0_splitAt, i0_steam, i0_degrees, i0_brown) (i1_down, i1_core, i1_water, i1_pricked, i1_thinSpots, i1_seconds, i1_gone, i1_splitAt, i1_steam, i1_degrees, i1_brown) t_kept t_heats t_tests t_salts t_crumbsOf t_traced u_length u_text u_is_400 u_doings u_doing u_row_401 u_isKept u_heats u_orders u_tests u_salt u_crumbs u_traced d_seconds := by
  have hrec := hI.1
  rw [F_X4_why, x_nmE] at h4
  rw [F_X5_why, x_nmE] at h5
  rcases x_cause_arg (a1 := a1) (a2 := a2) (a3 := a3) with ⟨q1, q2, T, f, c, rfl, rfl, rfl, b1, b2, b3⟩ | ⟨q1, q2⟩
  · rw [if_pos q1, x_nmE, x_nmE, x_nmE, x_nmE] at h4
    rw [if_neg q2, x_nmE, x_nmE, x_nmE, x_nmE] at h5
    rw [nI_clamp (by omega), nI_clamp (by omega), nI_clamp (by omega)] at h4 h5
    by_cases c1 : F_X4_outside a4 0 1 = 0
    · obtain ⟨d1, d2, d3⟩ := x_outs (lo := 0) (hi := 1) (by decide) (by decide) c1
      rw [if_pos c1, x_nmE] at h4
      rw [if_neg (x_ioN 0 1 (by decide) (by decide) c1), x_nmE] at h5
      obtain ⟨rest, e4⟩ := x_why4 (T := T) (f := f) (c0 := c) hrec b1 b2 (5 + 1) 0 0 0 c_radius c_skin c_filling c_water c_ends c_thin c_chance c_bentFace c_bentBy c_doings c_kinds c_firsts c_seconds j_when j_greatest j_greatestAt j_hiss jm_down jm_core jm_water jm_pricked jm_thinSpots jm_seconds jm_gone jm_splitAt jm_steam jm_degrees jm_brown (by omega)
      obtain ⟨tw1, tm1, ta1, th1, row1, e5, f5⟩ := x_why5 (T := T) (f := f) hrec b2 (5 + 1) 0 0 u_when u_most u_mostAt u_hiss u_row (by omega)
      rw [nI_0] at e4
      rw [e4, x_nmE] at h4
      rw [e5, x_nmE] at h5
      obtain ⟨tw2, tm2, ta2, th2, row2, e6, f6⟩ := x_begun (T := T) (c := c) hrec b3 b2 tw1 tm1 ta1 th1 row1
      have bs := x_sumc_le (F := fun c => x_ccnt (x_g u_is u_doings u_doing T f c) 9 1) (fun k => x_ccnt_le _ 9 1) 5 0
      have bc := x_ccnt_le (x_g u_is u_doings u_doing T f c) 9 1
      rw [if_pos (show 0 ≤ c ∧ c < 5 from ⟨by omega, by omega⟩)] at h4
      rw [Nat.zero_add, Nat.sub_zero] at h4 h5
      dsimp only at h4 h5
      rw [e6] at h5
      generalize x_sumc (fun c => x_ccnt (x_g u_is u_doings u_doing T f c) 9 1) 5 0 = S at h4 h5 bs
      generalize x_ccnt (x_g u_is u_doings u_doing T f c) 9 1 = U at h4 h5 bc
      by_cases c0 : S = 0
      · subst c0
        rw [if_neg (show ¬ (0 : Int32) < nI 0 by decide)] at h4
        rw [if_pos rfl] at h5
        have h4 := congrArg (fun o => o.1) h4
        dsimp only at h4
        simp only [Prod.mk.injEq] at h5
        rw [h4, h5.1, h5.2.2.2.2.2.1, h5.2.2.2.2.2.2]
        exact And.intro rfl (x_inv_row hI f5)
      · have p0 : (0 : Int32) < nI S := nI_lt (a := 0) (by omega) (by omega)
        rw [if_pos p0] at h4
        rw [if_neg c0, x_nmE] at h5
        obtain ⟨k1, k2, k3⟩ := x_gcd (64 + 1) 46 0 U S (by omega) (by omega) (by omega) (by omega) (by omega)
        have kd : F_X4_commonDivisor (nI U) (nI S) = nI (F_X5_why_L78 46 U S) := by rw [F_X4_commonDivisor, x_nmE]; exact k1
        rw [kd, x_nmE, x_nmE, x_nmE] at h4
        dsimp only at h5
        rw [nI_clamp (by omega), x_nmE, x_nmE] at h5
        have k4 := k2 (Or.inr (by omega))
        generalize F_X5_why_L78 46 U S = D at h4 h5 k3 k4
        have e9 : (if (1 : Int32) < nI D then nI D else 1) = nI D := by
          by_cases z : (1 : Int32) < nI D
          · rw [if_pos z]
          · rw [if_neg z]
            have : D = 1 := by
              have z2 : ¬ nI 1 < nI D := z
              rw [nI_ltI (by omega) (by omega)] at z2
              omega
            rw [this]; rfl
        rw [e9, pk_div (by omega) (by omega) (by omega), pk_div (by omega) (by omega) (by omega)] at h4
        have h4 := congrArg (fun o => o.1) h4
        dsimp only at h4
        simp only [Prod.mk.injEq] at h5
        rw [h4, h5.1, h5.2.2.2.2.2.1, h5.2.2.2.2.2.2]
        exact And.intro rfl (x_inv_row hI (fun q hq => (f6 q hq).trans (f5 q hq)))
    · rw [if_neg c1] at h4
      rw [if_pos (x_ioP 0 1 (by decide) (by decide) c1)] at h5
      have h4 := congrArg (fun o => o.1) h4
      dsimp only at h4
      simp only [Prod.mk.injEq] at h5
      rw [h4, h5.1, h5.2.2.2.2.2.1, h5.2.2.2.2.2.2]
      exact And.intro rfl hI
  · rw [if_neg q1] at h4
    rw [if_pos q2] at h5
    have h4 := congrArg (fun o => o.1) h4
    dsimp only at h4
    simp only [Prod.mk.injEq] at h5
    rw [h4, h5.1, h5.2.2.2.2.2.1, h5.2.2.2.2.2.2]
    exact And.intro rfl hI
