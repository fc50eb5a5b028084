/-! the steps of the law: odds -/
theorem x_rpok {r0 r1 r2 r3 r4 r5 r6 r7 r8 : Int32} {n : Nat} {kinds firsts secs is doings doing : Nat → Int32} (h : RelRec (r0, r1, r2, r3, r4, r5, r6, r7, r8, n, kinds, firsts, secs) is doings doing) : RpOk (r0, r1, r2, r4, r5, r7, r8) := by
  obtain ⟨⟨⟨hR, hs, -, -, -, ht, -⟩, -⟩, -⟩ := h
  exact ⟨hR, hs, ht⟩
theorem x_chance {is : Nat → Int32} {chance : Int32} {k : Nat} (hc : Btw 0 chance 10) (hi : is 6 = chance) : ∃ P : Nat, P ≤ 10000 ∧ F_X4_chanceOf chance (nI k) = nI P ∧ F_X5_odds_L36 is k (4 + 1) 1 0 = nI P ∧ F_X5_odds_L36 is k (4 + 1) 0 0 = 0 := by
  obtain ⟨c1, c2⟩ := x_btwN (hi := 10) hc
  have hten : 10 - chance = nI (10 - chance.toNatClampNeg) := by
    have e := pk_sub (a := 10) (b := chance.toNatClampNeg) c2
    rw [← c1] at e
    exact e
  have hu : ∀ j : Nat, ∃ v : Nat, v ≤ 10 ∧ (if ((nI k) >>> ((nI j) &&& 31)) &&& 1 = 1 then chance else 10 - chance) = nI v := by
    intro j
    by_cases c : ((nI k) >>> ((nI j) &&& 31)) &&& 1 = 1
    · rw [if_pos c]; exact ⟨_, c2, c1⟩
    · rw [if_neg c]; exact ⟨10 - chance.toNatClampNeg, by omega, hten⟩
  obtain ⟨v0, b0, w0⟩ := hu 0
  obtain ⟨v1, b1, w1⟩ := hu 1
  obtain ⟨v2, b2, w2⟩ := hu 2
  obtain ⟨v3, b3, w3⟩ := hu 3
  have s5 : ∀ x : Int32, F_X5_odds_L36 is k (4 + 1) x 0 = x * nI v0 * nI v1 * nI v2 * nI v3 := by
    intro x
    rw [F_X5_odds_L36, if_neg (by decide), x_nmE, hi, w0, F_X5_odds_L36, if_neg (by decide), x_nmE, hi, w1, F_X5_odds_L36, if_neg (by decide), x_nmE, hi, w2, F_X5_odds_L36, if_neg (by decide), x_nmE, hi, w3, F_X5_odds_L36, if_pos (by decide)]
  have s4 : F_X4_chanceOf chance (nI k) = 1 * nI v0 * nI v1 * nI v2 * nI v3 := by
    rw [F_X4_chanceOf, x_nmE, F_X4_chanceOf_L4, if_neg (by decide), x_nmE, w0, F_X4_chanceOf_L4, if_neg (by decide), x_nmE, w1, F_X4_chanceOf_L4, if_neg (by decide), x_nmE, w2, F_X4_chanceOf_L4, if_neg (by decide), x_nmE, w3, F_X4_chanceOf_L4, if_pos (by decide)]
  refine ⟨v0 * v1 * v2 * v3, ?_, ?_, ?_, ?_⟩
  · have h1 : v0 * v1 ≤ 10 * 10 := Nat.mul_le_mul b0 b1
    have h2 : v0 * v1 * v2 ≤ 10 * 10 * 10 := Nat.mul_le_mul h1 b2
    exact Nat.mul_le_mul h2 b3
  · rw [s4, Int32.one_mul, pk_mul, pk_mul, pk_mul]
  · rw [s5, Int32.one_mul, pk_mul, pk_mul, pk_mul]
  · rw [s5, Int32.zero_mul, Int32.zero_mul, Int32.zero_mul, Int32.zero_mul]
theorem x_odds_L {rp : TRP} {is doings doing kinds firsts secs : Nat → Int32} {n : Nat} {water chance radius skin filling ends thinBy bentFace bentBy : Int32} (hrpE : rp = (radius, skin, filling, ends, thinBy, bentFace, bentBy)) (hrp : RelRp rp is) (hpl : RelPl n kinds firsts secs 0 doings doing) (hsec : ∀ k : Nat, k < 12 → (secs k).toNatClampNeg ≤ 99 ∧ secs k = nI (secs k).toNatClampNeg) (hw : is 3 = water) (hb : Btw 0 water 999) (hc : Btw 0 chance 10) (hch : is 6 = chance) :
    ∀ (m m2 k : Nat) (l tw tm ta th wh gr ga hi down core wat pricked thin seconds gone splitAt steam : Int32) (degrees brown row : Nat → Int32), 16 - k < m → 16 - k < m2 →
      (F_X4_odds_L4 radius skin filling water ends thinBy chance bentFace bentBy n kinds firsts secs m l k wh gr ga hi down core wat pricked thin seconds gone splitAt steam degrees brown).1 = (F_X5_odds_L4 is doings doing m2 l k tw tm ta th row).1 ∧ ∀ q : Nat, q < 60 → (F_X5_odds_L4 is doings doing m2 l k tw tm ta th row).2.2.2.2.2 q = row q := by
  subst hrpE
  intro m
  induction m with
  | zero => intro m2 k l tw tm ta th wh gr ga hi down core wat pricked thin seconds gone splitAt steam degrees brown row a; exact absurd a (Nat.not_lt_zero _)
  | succ m ih =>
    intro m2 k l tw tm ta th wh gr ga hi down core wat pricked thin seconds gone splitAt steam degrees brown row a b
    cases m2 with
    | zero => exact absurd b (Nat.not_lt_zero _)
    | succ m2 =>
      by_cases c : 16 ≤ k
      · rw [F_X4_odds_L4, F_X5_odds_L4, if_pos c, if_pos (by omega)]
        exact ⟨rfl, fun _ _ => rfl⟩
      · rw [F_X4_odds_L4, if_neg (by omega)]
        have hk : Btw 0 (nI k) 15 := x_btw_nI (lo := 0) (hi := 15) (by omega) (by omega) (by decide)
        obtain ⟨f1, f2, f3, row0, f4, f5, f6⟩ := x_fresh5 (row := row) (dg := degrees) (br := brown) hw hb hk
        obtain ⟨p1, tw1, tm1, ta1, th1, row1, p2, p3, p4⟩ := x_plan5A (s := 0) hrp hpl (by omega) f1 f5
        obtain ⟨P, hP, c4, c5, c6⟩ := x_chance (is := is) (chance := chance) (k := k) hc hch
        have hsw := x_swE (rp := (radius, skin, filling, ends, thinBy, bentFace, bentBy)) hpl hsec (by omega) f1
        have hwn := x_when p1 (by have := x_tot_pl hpl; omega)
        rw [x_jrel p3] at hwn
        have e5 : F_X5_odds_L4 is doings doing (m2 + 1) l k tw tm ta th row = F_X5_odds_L4 is doings doing m2 (l + F_X5_odds_L36 is k (4 + 1) (if 0 ≤ tw1 then 1 else 0) 0) (k + 1) tw1 tm1 ta1 th1 row1 := by
          rw [F_X5_odds_L4, if_neg c, f4, x_nmE]
          dsimp only
          rw [p2, x_nmE]
          dsimp only
          rw [x_nmE, x_nmE]
        rw [c4, x_nmE]
        have add5 : l + F_X5_odds_L36 is k (4 + 1) (if 0 ≤ tw1 then 1 else 0) 0 = (if nI P ≤ 0 then l else if jGone (x_pl (radius, skin, filling, ends, thinBy, bentFace, bentBy) kinds firsts secs n 0 (F_X0_setOut degrees brown water (nI k))) = 0 then l else l + nI P) := by
          by_cases g0 : jGone (x_pl (radius, skin, filling, ends, thinBy, bentFace, bentBy) kinds firsts secs n 0 (F_X0_setOut degrees brown water (nI k))) = 0
          · rw [if_pos g0, if_neg (fun q => (hwn.mp q) g0), c6, Int32.add_zero, ite_self]
          · rw [if_neg g0, if_pos (hwn.mpr g0), c5]
            by_cases z : nI P ≤ 0
            · have z2 : P = 0 := by
                have := (nI_leI (a := P) (b := 0) (by omega) (by decide)).mp z
                omega
              rw [if_pos z, z2]
              exact Int32.add_zero l
            · rw [if_neg z]
        rw [e5, add5, x_nmE]
        generalize hT : (if nI P ≤ 0 then (l, wh, gr, ga, hi, down, core, wat, pricked, thin, seconds, gone, splitAt, steam, degrees, brown) else _) = T
        have hT1 : T.1 = (if nI P ≤ 0 then l else if jGone (x_pl (radius, skin, filling, ends, thinBy, bentFace, bentBy) kinds firsts secs n 0 (F_X0_setOut degrees brown water (nI k))) = 0 then l else l + nI P) := by
          rw [← hT]
          by_cases z : nI P ≤ 0
          · rw [if_pos z, if_pos z]
          · rw [if_neg z, if_neg z, x_nmE]
            generalize F_X0_setOut degrees brown water (nI k) = J at hsw
            obtain ⟨wh', gr', ga', hi', down', core', wat', pricked', thin', seconds', gone', splitAt', steam', degrees', brown'⟩ := J
            have hsw1 := hsw.1
            simp only [x_sw] at hsw1
            dsimp only
            generalize F_X4_staysWhole radius skin filling ends thinBy bentFace bentBy n kinds firsts secs wh' gr' ga' hi' down' degrees' brown' core' wat' pricked' thin' seconds' gone' splitAt' steam' = o at hsw1
            rw [x_nmE, hsw1]
            by_cases g0 : jGone (x_pl (radius, skin, filling, ends, thinBy, bentFace, bentBy) kinds firsts secs n 0 (wh', gr', ga', hi', down', core', wat', pricked', thin', seconds', gone', splitAt', steam', degrees', brown')) = 0
            · rw [if_pos g0, if_pos g0, if_neg (by decide)]
            · rw [if_neg g0, if_neg g0, if_pos rfl]
        rw [hT1]
        obtain ⟨l1, l2⟩ := ih m2 (k + 1) (if nI P ≤ 0 then l else if jGone (x_pl (radius, skin, filling, ends, thinBy, bentFace, bentBy) kinds firsts secs n 0 (F_X0_setOut degrees brown water (nI k))) = 0 then l else l + nI P) tw1 tm1 ta1 th1 T.2.1 T.2.2.1 T.2.2.2.1 T.2.2.2.2.1 T.2.2.2.2.2.1 T.2.2.2.2.2.2.1 T.2.2.2.2.2.2.2.1 T.2.2.2.2.2.2.2.2.1 T.2.2.2.2.2.2.2.2.2.1 T.2.2.2.2.2.2.2.2.2.2.1 T.2.2.2.2.2.2.2.2.2.2.2.1 T.2.2.2.2.2.2.2.2.2.2.2.2.1 T.2.2.2.2.2.2.2.2.2.2.2.2.2.1 T.2.2.2.2.2.2.2.2.2.2.2.2.2.2.1 T.2.2.2.2.2.2.2.2.2.2.2.2.2.2.2 row1 (by omega) (by omega)
        exact ⟨l1, fun q hq => (l2 q hq).trans ((p4 q hq).trans (f6 q hq))⟩
theorem s_odds {t_kept : Nat → Int32} {t_heats : Nat → Int32} {t_salts : Nat → Int32} {t_crumbsOf : Nat → Int32} {t_tests : Nat} {t_traced : Int64} {r_radius : Int32} {r_skin : Int32} {r_filling : Int32} {r_water : Int32} {r_ends : Int32} {r_thin : Int32} {r_chance : Int32} {r_bentFace : Int32} {r_bentBy : Int32} {r_doings : Nat} {r_kinds : Nat → Int32} {r_firsts : Nat → Int32} {r_seconds : Nat → Int32} {d_seconds : Nat → Int32} {e_text : Nat → Int32} {e_length : Nat} {m_down : Int32} {m_degrees : Nat → Int32} {m_brown : Nat → Int32} {m_core : Int32} {m_water : Int32} {m_pricked : Int32} {m_thinSpots : Int32} {m_seconds : Int32} {m_gone : Int32} {m_splitAt : Int32} {m_steam : Int32} {j_when : Int32} {j_greatest : Int32} {j_greatestAt : Int32} {j_hiss : Int32} {jm_down : Int32} {jm_degrees : Nat → Int32} {jm_brown : Nat → Int32} {jm_core : Int32} {jm_water : Int32} {jm_pricked : Int32} {jm_thinSpots : Int32} {jm_seconds : Int32} {jm_gone : Int32} {jm_splitAt : Int32} {jm_steam : Int32} {i0_down : Int32} {i0_degrees : Nat → Int32} {i0_brown : Nat → Int32} {i0_core : Int32} {i0_water : Int32} {i0_pricked : Int32} {i0_thinSpots : Int32} {i0_seconds : Int32} {i0_gone : Int32} {i0_splitAt : Int32} {i0_steam : Int32} {i1_down : Int32} {i1_degrees : Nat → Int32} {i1_brown : Nat → Int32} {i1_core : Int32} {i1_water : Int32} {i1_pricked : Int32} {i1_thinSpots : Int32} {i1_seconds : Int32} {i1_gone : Int32} {i1_splitAt : Int32} {i1_steam : Int32} {u_length : Nat} {u_text : Nat → Int32} {u_is : Nat → Int32} {u_doings : Nat → Int32} {u_doing : Nat → Int32} {u_row : Nat → Int32} {u_isKept : Nat → Int32} {u_when : Int32} {u_most : Int32} {u_mostAt : Int32} {u_hiss : Int32} {u_heats : Nat → Int32} {u_orders : Nat → Int32} {u_tests : Nat} {u_salt : Nat → Int32} {u_crumbs : Nat → Int32} {u_traced : Int64} {j_when_205 : Int32} {j_greatest_206 : Int32} {j_greatestAt_207 : Int32} {j_hiss_208 : Int32} {jm_down_209 : Int32} {jm_core_210 : Int32} {jm_water_211 : Int32} {jm_pricked_212 : Int32} {jm_thinSpots_213 : Int32} {jm_seconds_214 : Int32} {jm_gone_215 : Int32} {jm_splitAt_216 : Int32} {jm_steam_217 : Int32} {jm_degrees_218 : Nat → Int32} {jm_brown_219 : Nat → Int32} {u_when_223 : Int32} {u_most_224 : Int32} {u_mostAt_225 : Int32} {u_hiss_226 : Int32} {u_row_227 : Nat → Int32} {z_220 z_228 : Int32} (hI : Inv (r_radius, r_skin, r_filling, r_water, r_ends, r_thin, r_chance, r_bentFace, r_bentBy, r_doings, r_kinds, r_firsts, r_seconds) e_length e_text (m_down, m_core, m_water, m_pricked, m_thinSpots, m_seconds, m_gone, m_splitAt, m_steam, m_degrees, m_brown) (i0_down, i0_core, i0_water, i0_pricked, i0_thinSpots, i0_seconds, i0_gone, i0_splitAt, i0_steam, i0_degrees, i0_brown) (i1_down, i1_core, i1_water, i1_pricked, i1_thinSpots, i1_seconds, i1_gone, i1_splitAt, i1_steam, i1_degrees, i1_brown) t_kept t_heats t_tests t_salts t_crumbsOf t_traced u_length u_text u_is u_doings u_doing u_row u_isKept u_heats u_orders u_tests u_salt u_crumbs u_traced d_seconds) (h4 : (z_220, j_when_205, j_greatest_206, j_greatestAt_207, j_hiss_208, jm_down_209, jm_core_210, jm_water_211, jm_pricked_212, jm_thinSpots_213, jm_seconds_214, jm_gone_215, jm_splitAt_216, jm_steam_217, jm_degrees_218, jm_brown_219) = F_X4_odds r_radius r_skin r_filling r_water r_ends r_thin r_chance r_bentFace r_bentBy r_doings r_kinds r_firsts r_seconds j_when j_greatest j_greatestAt j_hiss jm_down jm_degrees jm_brown jm_core jm_water jm_pricked jm_thinSpots jm_seconds jm_gone jm_splitAt jm_steam) (h5 : (z_228, u_when_223, u_most_224, u_mostAt_225, u_hiss_226, u_row_227) = F_X5_odds u_is u_doings u_doing u_row u_when u_most u_mostAt u_hiss) : z_220 = z_228 ∧ Inv (r_radius, r_skin, r_filling, r_water, r_ends, r_thin, r_chance, r_bentFace, r_bentBy, r_doings, r_kinds, r_firsts, r_seconds) e_length e_text (m_down, m_core, m_water, m_pricked, m_thinSpots, m_seconds, m_gone, m_splitAt, m_steam, m_degrees, m_brown) (i0_down, i0_core, i0_water, i0_pricked, i0_thinSpots, i0_seconds, i0_gone, i0_splitAt, i0_steam, i0_degrees, i0_brown) (i1_down, i1_core, i1_water, i1_pricked, i1_thinSpots, i1_seconds, i1_gone, i1_splitAt, i1_steam, i1_degrees, i1_brown) t_kept t_heats t_tests t_salts t_crumbsOf t_traced u_length u_text u_is u_doings u_doing u_row_227 u_isKept u_heats u_orders u_tests u_salt u_crumbs u_traced d_seconds := by
  have hI' := hI
  obtain ⟨hrec, -⟩ := hI'
  have hrp := x_relrp hrec
  have hpl := x_relpl hrec
  obtain ⟨⟨⟨-, -, -, hwb, -, -, hcb, -⟩, hn, hsec, -⟩, ⟨-, -, -, hw, -, -, hc, -⟩, -⟩ := hrec
  rw [F_X4_odds, x_nmE] at h4
  rw [F_X5_odds, x_nmE] at h5
  obtain ⟨l1, l2⟩ := x_odds_L rfl hrp hpl hsec hw hwb hcb hc (16 + 1) (16 + 1) 0 0 u_when u_most u_mostAt u_hiss j_when j_greatest j_greatestAt j_hiss jm_down jm_core jm_water jm_pricked jm_thinSpots jm_seconds jm_gone jm_splitAt jm_steam jm_degrees jm_brown u_row (by omega) (by omega)
  simp only [Prod.mk.injEq] at h4 h5
  rw [h4.1, h5.1, h5.2.2.2.2.2]
  exact And.intro l1 (x_inv_row hI l2)
